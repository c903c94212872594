/-! ===== 13: decode rows, meanings (zf_) and contracts (zc_) of methods (written by program) ===== -/
theorem zd_M_heap_0 : decode zb_M_heap 0 = .ok (.iload_n 1, 1) := by decide +kernel
theorem zd_M_heap_1 : decode zb_M_heap 1 = .ok (.invokestatic 146, 3) := by decide +kernel
theorem zd_M_heap_4 : decode zb_M_heap 4 = .ok (.ifCond .eq 9, 3) := by decide +kernel
theorem zd_M_heap_7 : decode zb_M_heap 7 = .ok (.aload_n 0, 1) := by decide +kernel
theorem zd_M_heap_8 : decode zb_M_heap 8 = .ok (.iconst (-1), 1) := by decide +kernel
theorem zd_M_heap_9 : decode zb_M_heap 9 = .ok (.invokevirtual 150, 3) := by decide +kernel
theorem zd_M_heap_12 : decode zb_M_heap 12 = .ok (.ireturn, 1) := by decide +kernel
theorem zd_M_heap_13 : decode zb_M_heap 13 = .ok (.iload_n 2, 1) := by decide +kernel
theorem zd_M_heap_14 : decode zb_M_heap 14 = .ok (.i2l, 1) := by decide +kernel
theorem zd_M_heap_15 : decode zb_M_heap 15 = .ok (.lconst 0, 1) := by decide +kernel
theorem zd_M_heap_16 : decode zb_M_heap 16 = .ok (.ldc2_w 153, 3) := by decide +kernel
theorem zd_M_heap_19 : decode zb_M_heap 19 = .ok (.invokestatic 107, 3) := by decide +kernel
theorem zd_M_heap_22 : decode zb_M_heap 22 = .ok (.ifCond .ne 10, 3) := by decide +kernel
theorem zd_M_heap_25 : decode zb_M_heap 25 = .ok (.aload_n 0, 1) := by decide +kernel
theorem zd_M_heap_26 : decode zb_M_heap 26 = .ok (.bipush (-2), 2) := by decide +kernel
theorem zd_M_heap_28 : decode zb_M_heap 28 = .ok (.invokevirtual 150, 3) := by decide +kernel
theorem zd_M_heap_31 : decode zb_M_heap 31 = .ok (.ireturn, 1) := by decide +kernel
theorem zd_M_heap_32 : decode zb_M_heap 32 = .ok (.aload_n 0, 1) := by decide +kernel
theorem zd_M_heap_33 : decode zb_M_heap 33 = .ok (.iload_n 1, 1) := by decide +kernel
theorem zd_M_heap_34 : decode zb_M_heap 34 = .ok (.iload_n 2, 1) := by decide +kernel
theorem zd_M_heap_35 : decode zb_M_heap 35 = .ok (.iload_n 3, 1) := by decide +kernel
theorem zd_M_heap_36 : decode zb_M_heap 36 = .ok (.iload 4, 2) := by decide +kernel
theorem zd_M_heap_38 : decode zb_M_heap 38 = .ok (.i2l, 1) := by decide +kernel
theorem zd_M_heap_39 : decode zb_M_heap 39 = .ok (.invokevirtual 155, 3) := by decide +kernel
theorem zd_M_heap_42 : decode zb_M_heap 42 = .ok (.istore 5, 2) := by decide +kernel
theorem zd_M_heap_44 : decode zb_M_heap 44 = .ok (.iload 5, 2) := by decide +kernel
theorem zd_M_heap_46 : decode zb_M_heap 46 = .ok (.ifCond .ge 6, 3) := by decide +kernel
theorem zd_M_heap_49 : decode zb_M_heap 49 = .ok (.iload 5, 2) := by decide +kernel
theorem zd_M_heap_51 : decode zb_M_heap 51 = .ok (.ireturn, 1) := by decide +kernel
theorem zd_M_heap_52 : decode zb_M_heap 52 = .ok (.aload_n 0, 1) := by decide +kernel
theorem zd_M_heap_53 : decode zb_M_heap 53 = .ok (.bipush 60, 2) := by decide +kernel
theorem zd_M_heap_55 : decode zb_M_heap 55 = .ok (.iload_n 1, 1) := by decide +kernel
theorem zd_M_heap_56 : decode zb_M_heap 56 = .ok (.imul, 1) := by decide +kernel
theorem zd_M_heap_57 : decode zb_M_heap 57 = .ok (.iload_n 3, 1) := by decide +kernel
theorem zd_M_heap_58 : decode zb_M_heap 58 = .ok (.iadd, 1) := by decide +kernel
theorem zd_M_heap_59 : decode zb_M_heap 59 = .ok (.iload 4, 2) := by decide +kernel
theorem zd_M_heap_61 : decode zb_M_heap 61 = .ok (.invokevirtual 159, 3) := by decide +kernel
theorem zd_M_heap_64 : decode zb_M_heap 64 = .ok (.ifCond .ne 15, 3) := by decide +kernel
theorem zd_M_heap_67 : decode zb_M_heap 67 = .ok (.aload_n 0, 1) := by decide +kernel
theorem zd_M_heap_68 : decode zb_M_heap 68 = .ok (.bipush (-100), 2) := by decide +kernel
theorem zd_M_heap_70 : decode zb_M_heap 70 = .ok (.aload_n 0, 1) := by decide +kernel
theorem zd_M_heap_71 : decode zb_M_heap 71 = .ok (.getfield 111, 3) := by decide +kernel
theorem zd_M_heap_74 : decode zb_M_heap 74 = .ok (.isub, 1) := by decide +kernel
theorem zd_M_heap_75 : decode zb_M_heap 75 = .ok (.invokevirtual 150, 3) := by decide +kernel
theorem zd_M_heap_78 : decode zb_M_heap 78 = .ok (.ireturn, 1) := by decide +kernel
theorem zd_M_heap_79 : decode zb_M_heap 79 = .ok (.aload_n 0, 1) := by decide +kernel
theorem zd_M_heap_80 : decode zb_M_heap 80 = .ok (.invokevirtual 162, 3) := by decide +kernel
theorem zd_M_heap_83 : decode zb_M_heap 83 = .ok (.istore 6, 2) := by decide +kernel
theorem zd_M_heap_85 : decode zb_M_heap 85 = .ok (.iload 6, 2) := by decide +kernel
theorem zd_M_heap_87 : decode zb_M_heap 87 = .ok (.ifCond .lt 14, 3) := by decide +kernel
theorem zd_M_heap_90 : decode zb_M_heap 90 = .ok (.aload_n 0, 1) := by decide +kernel
theorem zd_M_heap_91 : decode zb_M_heap 91 = .ok (.sipush (-200), 3) := by decide +kernel
theorem zd_M_heap_94 : decode zb_M_heap 94 = .ok (.iload 6, 2) := by decide +kernel
theorem zd_M_heap_96 : decode zb_M_heap 96 = .ok (.isub, 1) := by decide +kernel
theorem zd_M_heap_97 : decode zb_M_heap 97 = .ok (.invokevirtual 150, 3) := by decide +kernel
theorem zd_M_heap_100 : decode zb_M_heap 100 = .ok (.ireturn, 1) := by decide +kernel
theorem zd_M_heap_101 : decode zb_M_heap 101 = .ok (.aload_n 0, 1) := by decide +kernel
theorem zd_M_heap_102 : decode zb_M_heap 102 = .ok (.aload_n 0, 1) := by decide +kernel
theorem zd_M_heap_103 : decode zb_M_heap 103 = .ok (.getfield 122, 3) := by decide +kernel
theorem zd_M_heap_106 : decode zb_M_heap 106 = .ok (.putfield 104, 3) := by decide +kernel
theorem zd_M_heap_109 : decode zb_M_heap 109 = .ok (.iconst 0, 1) := by decide +kernel
theorem zd_M_heap_110 : decode zb_M_heap 110 = .ok (.istore 7, 2) := by decide +kernel
theorem zd_M_heap_112 : decode zb_M_heap 112 = .ok (.iload 7, 2) := by decide +kernel
theorem zd_M_heap_114 : decode zb_M_heap 114 = .ok (.aload_n 0, 1) := by decide +kernel
theorem zd_M_heap_115 : decode zb_M_heap 115 = .ok (.getfield 104, 3) := by decide +kernel
theorem zd_M_heap_118 : decode zb_M_heap 118 = .ok (.if_icmp .ge 99, 3) := by decide +kernel
theorem zd_M_heap_121 : decode zb_M_heap 121 = .ok (.aload_n 0, 1) := by decide +kernel
theorem zd_M_heap_122 : decode zb_M_heap 122 = .ok (.getfield 7, 3) := by decide +kernel
theorem zd_M_heap_125 : decode zb_M_heap 125 = .ok (.iload 7, 2) := by decide +kernel
theorem zd_M_heap_127 : decode zb_M_heap 127 = .ok (.aload_n 0, 1) := by decide +kernel
theorem zd_M_heap_128 : decode zb_M_heap 128 = .ok (.getfield 22, 3) := by decide +kernel
theorem zd_M_heap_131 : decode zb_M_heap 131 = .ok (.iload 7, 2) := by decide +kernel
theorem zd_M_heap_133 : decode zb_M_heap 133 = .ok (.iaload, 1) := by decide +kernel
theorem zd_M_heap_134 : decode zb_M_heap 134 = .ok (.iastore, 1) := by decide +kernel
theorem zd_M_heap_135 : decode zb_M_heap 135 = .ok (.aload_n 0, 1) := by decide +kernel
theorem zd_M_heap_136 : decode zb_M_heap 136 = .ok (.getfield 13, 3) := by decide +kernel
theorem zd_M_heap_139 : decode zb_M_heap 139 = .ok (.iload 7, 2) := by decide +kernel
theorem zd_M_heap_141 : decode zb_M_heap 141 = .ok (.aload_n 0, 1) := by decide +kernel
theorem zd_M_heap_142 : decode zb_M_heap 142 = .ok (.getfield 25, 3) := by decide +kernel
theorem zd_M_heap_145 : decode zb_M_heap 145 = .ok (.iload 7, 2) := by decide +kernel
theorem zd_M_heap_147 : decode zb_M_heap 147 = .ok (.iaload, 1) := by decide +kernel
theorem zd_M_heap_148 : decode zb_M_heap 148 = .ok (.iastore, 1) := by decide +kernel
theorem zd_M_heap_149 : decode zb_M_heap 149 = .ok (.aload_n 0, 1) := by decide +kernel
theorem zd_M_heap_150 : decode zb_M_heap 150 = .ok (.getfield 16, 3) := by decide +kernel
theorem zd_M_heap_153 : decode zb_M_heap 153 = .ok (.iload 7, 2) := by decide +kernel
theorem zd_M_heap_155 : decode zb_M_heap 155 = .ok (.aload_n 0, 1) := by decide +kernel
theorem zd_M_heap_156 : decode zb_M_heap 156 = .ok (.getfield 28, 3) := by decide +kernel
theorem zd_M_heap_159 : decode zb_M_heap 159 = .ok (.iload 7, 2) := by decide +kernel
theorem zd_M_heap_161 : decode zb_M_heap 161 = .ok (.iaload, 1) := by decide +kernel
theorem zd_M_heap_162 : decode zb_M_heap 162 = .ok (.iastore, 1) := by decide +kernel
theorem zd_M_heap_163 : decode zb_M_heap 163 = .ok (.iconst 0, 1) := by decide +kernel
theorem zd_M_heap_164 : decode zb_M_heap 164 = .ok (.istore 8, 2) := by decide +kernel
theorem zd_M_heap_166 : decode zb_M_heap 166 = .ok (.iload 8, 2) := by decide +kernel
theorem zd_M_heap_168 : decode zb_M_heap 168 = .ok (.aload_n 0, 1) := by decide +kernel
theorem zd_M_heap_169 : decode zb_M_heap 169 = .ok (.getfield 16, 3) := by decide +kernel
theorem zd_M_heap_172 : decode zb_M_heap 172 = .ok (.iload 7, 2) := by decide +kernel
theorem zd_M_heap_174 : decode zb_M_heap 174 = .ok (.iaload, 1) := by decide +kernel
theorem zd_M_heap_175 : decode zb_M_heap 175 = .ok (.invokestatic 125, 3) := by decide +kernel
theorem zd_M_heap_178 : decode zb_M_heap 178 = .ok (.if_icmp .ge 33, 3) := by decide +kernel
theorem zd_M_heap_181 : decode zb_M_heap 181 = .ok (.aload_n 0, 1) := by decide +kernel
theorem zd_M_heap_182 : decode zb_M_heap 182 = .ok (.getfield 19, 3) := by decide +kernel
theorem zd_M_heap_185 : decode zb_M_heap 185 = .ok (.iconst 3, 1) := by decide +kernel
theorem zd_M_heap_186 : decode zb_M_heap 186 = .ok (.iload 7, 2) := by decide +kernel
theorem zd_M_heap_188 : decode zb_M_heap 188 = .ok (.imul, 1) := by decide +kernel
theorem zd_M_heap_189 : decode zb_M_heap 189 = .ok (.iload 8, 2) := by decide +kernel
theorem zd_M_heap_191 : decode zb_M_heap 191 = .ok (.iadd, 1) := by decide +kernel
theorem zd_M_heap_192 : decode zb_M_heap 192 = .ok (.aload_n 0, 1) := by decide +kernel
theorem zd_M_heap_193 : decode zb_M_heap 193 = .ok (.getfield 31, 3) := by decide +kernel
theorem zd_M_heap_196 : decode zb_M_heap 196 = .ok (.iconst 3, 1) := by decide +kernel
theorem zd_M_heap_197 : decode zb_M_heap 197 = .ok (.iload 7, 2) := by decide +kernel
theorem zd_M_heap_199 : decode zb_M_heap 199 = .ok (.imul, 1) := by decide +kernel
theorem zd_M_heap_200 : decode zb_M_heap 200 = .ok (.iload 8, 2) := by decide +kernel
theorem zd_M_heap_202 : decode zb_M_heap 202 = .ok (.iadd, 1) := by decide +kernel
theorem zd_M_heap_203 : decode zb_M_heap 203 = .ok (.iaload, 1) := by decide +kernel
theorem zd_M_heap_204 : decode zb_M_heap 204 = .ok (.iastore, 1) := by decide +kernel
theorem zd_M_heap_205 : decode zb_M_heap 205 = .ok (.iinc 8 1, 3) := by decide +kernel
theorem zd_M_heap_208 : decode zb_M_heap 208 = .ok (.goto (-42), 3) := by decide +kernel
theorem zd_M_heap_211 : decode zb_M_heap 211 = .ok (.iinc 7 1, 3) := by decide +kernel
theorem zd_M_heap_214 : decode zb_M_heap 214 = .ok (.goto (-102), 3) := by decide +kernel
theorem zd_M_heap_217 : decode zb_M_heap 217 = .ok (.aload_n 0, 1) := by decide +kernel
theorem zd_M_heap_218 : decode zb_M_heap 218 = .ok (.iconst 0, 1) := by decide +kernel
theorem zd_M_heap_219 : decode zb_M_heap 219 = .ok (.putfield 166, 3) := by decide +kernel
theorem zd_M_heap_222 : decode zb_M_heap 222 = .ok (.aload_n 0, 1) := by decide +kernel
theorem zd_M_heap_223 : decode zb_M_heap 223 = .ok (.iconst 0, 1) := by decide +kernel
theorem zd_M_heap_224 : decode zb_M_heap 224 = .ok (.putfield 169, 3) := by decide +kernel
theorem zd_M_heap_227 : decode zb_M_heap 227 = .ok (.aload_n 0, 1) := by decide +kernel
theorem zd_M_heap_228 : decode zb_M_heap 228 = .ok (.iconst 0, 1) := by decide +kernel
theorem zd_M_heap_229 : decode zb_M_heap 229 = .ok (.putfield 172, 3) := by decide +kernel
theorem zd_M_heap_232 : decode zb_M_heap 232 = .ok (.aload_n 0, 1) := by decide +kernel
theorem zd_M_heap_233 : decode zb_M_heap 233 = .ok (.iconst 0, 1) := by decide +kernel
theorem zd_M_heap_234 : decode zb_M_heap 234 = .ok (.putfield 175, 3) := by decide +kernel
theorem zd_M_heap_237 : decode zb_M_heap 237 = .ok (.aload_n 0, 1) := by decide +kernel
theorem zd_M_heap_238 : decode zb_M_heap 238 = .ok (.iconst 0, 1) := by decide +kernel
theorem zd_M_heap_239 : decode zb_M_heap 239 = .ok (.putfield 178, 3) := by decide +kernel
theorem zd_M_heap_242 : decode zb_M_heap 242 = .ok (.aload_n 0, 1) := by decide +kernel
theorem zd_M_heap_243 : decode zb_M_heap 243 = .ok (.invokevirtual 181, 3) := by decide +kernel
theorem zd_M_heap_246 : decode zb_M_heap 246 = .ok (.aload_n 0, 1) := by decide +kernel
theorem zd_M_heap_247 : decode zb_M_heap 247 = .ok (.aload_n 0, 1) := by decide +kernel
theorem zd_M_heap_248 : decode zb_M_heap 248 = .ok (.getfield 104, 3) := by decide +kernel
theorem zd_M_heap_251 : decode zb_M_heap 251 = .ok (.invokevirtual 150, 3) := by decide +kernel
theorem zd_M_heap_254 : decode zb_M_heap 254 = .ok (.ireturn, 1) := by decide +kernel
def zf_M_heap_b166 (rc112 : Int32 → nk_M → Option (Int32 × nk_M)) : Nat → Int32 → Int32 → nk_M → Option (Int32 × nk_M)
  | 0, _, _, _ => none
  | n0 + 1, y7, y8, m0 => nk_ald m0 3 8 y7 (fun x1 => nk_bd (zf_M_partsOf x1 m0) (fun r2 m1 => (if r2 ≤ y8 then (rc112 (y7 + 1) m1) else nk_ald m1 8 24 (((3 : Int32) * y7) + y8) (fun x3 => nk_ast m1 4 24 (((3 : Int32) * y7) + y8) x3 (fun m2 => (zf_M_heap_b166 rc112 n0 y7 (y8 + 1) m2))))))
set_option maxHeartbeats 4000000 in
set_option maxRecDepth 100000 in
theorem zs_M_heap_b166 {G : nk_V} {X : nk_X}   (C : nk_C "NeedOnceModel" zb_M_heap 9 nk_wR G X) (hR : X.2.2.2.1 = nk_rm 5) (hr : X.2.2.2.2.2.2.2.2.1.sig.returnType = (some .int)) (rc112 : Int32 → nk_M → Option (Int32 × nk_M)) (hr112 : ∀ (y7 : Int32) (m0 : nk_M), nk_Sim nk_wR G X 9 nk_oi 112 [nk_r G 0, .null, .null, .null, .null, .null, .null, .int y7, .null] [] m0 (rc112 y7 m0)) : ∀ (n0 : Nat) (y7 : Int32) (y8 : Int32) (m0 : nk_M), nk_Sim nk_wR G X 9 nk_oi 166 [nk_r G 0, .null, .null, .null, .null, .null, .null, .int y7, .int y8] [] m0 (zf_M_heap_b166 rc112 n0 y7 y8 m0) := by
  intro n0
  induction n0 with
  | zero => intros; exact nk_none
  | succ n0 ih =>
    intro y7 y8 m0
    rw [zf_M_heap_b166]
    refine nk_iload C zd_M_heap_166 rfl ?_
    refine nk_aload_n C zd_M_heap_168 rfl rfl ?_
    refine nk_getR C (r := 3) za_M_16 (Nat.le_of_ble_eq_true rfl) rfl rfl zd_M_heap_169 ?_
    refine nk_iload C zd_M_heap_172 rfl ?_
    refine nk_iald C (Nat.le_of_ble_eq_true rfl) rfl zd_M_heap_174 (fun x1 => ?_)
    refine nk_callSi C [.int x1] zv_M_125 hR (zc_M_partsOf x1 m0) (by omega) rfl rfl (Nat.le_of_ble_eq_true rfl) zd_M_heap_175 (fun r2 m1 => ?_)
    refine nk_icmp_ge (tgt := 211) C zd_M_heap_178 (by decide) ?_ ?_
    · refine nk_iinc (v0 := y7 + 1) C zd_M_heap_211 rfl (nk_inc _ (by decide)) (Nat.le_of_ble_eq_true rfl) rfl ?_
      refine nk_goto (tgt := 112) C zd_M_heap_214 (by decide) ?_
      refine nk_wk [true, false, false, false, false, false, false, true, false] ?_
      exact hr112 (y7 + 1) m1
    · refine nk_aload_n C zd_M_heap_181 rfl rfl ?_
      refine nk_getR C (r := 4) za_M_19 (Nat.le_of_ble_eq_true rfl) rfl rfl zd_M_heap_182 ?_
      refine nk_iconst (v := 3) C zd_M_heap_185 (by decide) ?_
      refine nk_iload C zd_M_heap_186 rfl ?_
      refine nk_imul C zd_M_heap_188 ?_
      refine nk_iload C zd_M_heap_189 rfl ?_
      refine nk_iadd C zd_M_heap_191 ?_
      refine nk_aload_n C zd_M_heap_192 rfl rfl ?_
      refine nk_getR C (r := 8) za_M_31 (Nat.le_of_ble_eq_true rfl) rfl rfl zd_M_heap_193 ?_
      refine nk_iconst (v := 3) C zd_M_heap_196 (by decide) ?_
      refine nk_iload C zd_M_heap_197 rfl ?_
      refine nk_imul C zd_M_heap_199 ?_
      refine nk_iload C zd_M_heap_200 rfl ?_
      refine nk_iadd C zd_M_heap_202 ?_
      refine nk_iald C (Nat.le_of_ble_eq_true rfl) rfl zd_M_heap_203 (fun x3 => ?_)
      refine nk_iast C (Nat.le_of_ble_eq_true rfl) rfl zd_M_heap_204 (fun m2 => ?_)
      refine nk_iinc (v0 := y8 + 1) C zd_M_heap_205 rfl (nk_inc _ (by decide)) (Nat.le_of_ble_eq_true rfl) rfl ?_
      refine nk_goto (tgt := 166) C zd_M_heap_208 (by decide) ?_
      exact ih y7 (y8 + 1) m2
def zf_M_heap_b112  : Nat → Int32 → nk_M → Option (Int32 × nk_M)
  | 0, _, _ => none
  | n0 + 1, y7, m0 => (if (m0 0 1) ≤ y7 then nk_pf m0 0 41 (0 : Int32) (fun m1 => nk_pf m1 0 16 (0 : Int32) (fun m2 => nk_pf m2 0 31 (0 : Int32) (fun m3 => nk_pf m3 0 32 (0 : Int32) (fun m4 => nk_pf m4 0 33 (0 : Int32) (fun m5 => nk_bd (zf_M_allAsleep m5) (fun _ m6 => nk_bd (zf_M_refused (m6 0 1) m6) (fun r2 m7 => some (r2, m7)))))))) else nk_ald m0 5 8 y7 (fun x3 => nk_ast m0 1 8 y7 x3 (fun m8 => nk_ald m8 6 8 y7 (fun x4 => nk_ast m8 2 8 y7 x4 (fun m9 => nk_ald m9 7 8 y7 (fun x5 => nk_ast m9 3 8 y7 x5 (fun m10 => (zf_M_heap_b166 (zf_M_heap_b112 n0) nk_fu y7 (0 : Int32) m10))))))))
set_option maxHeartbeats 4000000 in
set_option maxRecDepth 100000 in
theorem zs_M_heap_b112 {G : nk_V} {X : nk_X}   (C : nk_C "NeedOnceModel" zb_M_heap 9 nk_wR G X) (hR : X.2.2.2.1 = nk_rm 5) (hr : X.2.2.2.2.2.2.2.2.1.sig.returnType = (some .int))  : ∀ (n0 : Nat) (y7 : Int32) (m0 : nk_M), nk_Sim nk_wR G X 9 nk_oi 112 [nk_r G 0, .null, .null, .null, .null, .null, .null, .int y7, .null] [] m0 (zf_M_heap_b112 n0 y7 m0) := by
  intro n0
  induction n0 with
  | zero => intros; exact nk_none
  | succ n0 ih =>
    intro y7 m0
    rw [zf_M_heap_b112]
    refine nk_iload C zd_M_heap_112 rfl ?_
    refine nk_aload_n C zd_M_heap_114 rfl rfl ?_
    refine nk_getI C za_M_104 (Nat.le_of_ble_eq_true rfl) rfl rfl zd_M_heap_115 ?_
    refine nk_icmp_ge (tgt := 217) C zd_M_heap_118 (by decide) ?_ ?_
    · refine nk_aload_n C zd_M_heap_217 rfl rfl ?_
      refine nk_iconst (v := 0) C zd_M_heap_218 (by decide) ?_
      refine nk_putI C zp_M_166 (Nat.le_of_ble_eq_true rfl) rfl rfl zd_M_heap_219 (fun m1 => ?_)
      refine nk_aload_n C zd_M_heap_222 rfl rfl ?_
      refine nk_iconst (v := 0) C zd_M_heap_223 (by decide) ?_
      refine nk_putI C zp_M_169 (Nat.le_of_ble_eq_true rfl) rfl rfl zd_M_heap_224 (fun m2 => ?_)
      refine nk_aload_n C zd_M_heap_227 rfl rfl ?_
      refine nk_iconst (v := 0) C zd_M_heap_228 (by decide) ?_
      refine nk_putI C zp_M_172 (Nat.le_of_ble_eq_true rfl) rfl rfl zd_M_heap_229 (fun m3 => ?_)
      refine nk_aload_n C zd_M_heap_232 rfl rfl ?_
      refine nk_iconst (v := 0) C zd_M_heap_233 (by decide) ?_
      refine nk_putI C zp_M_175 (Nat.le_of_ble_eq_true rfl) rfl rfl zd_M_heap_234 (fun m4 => ?_)
      refine nk_aload_n C zd_M_heap_237 rfl rfl ?_
      refine nk_iconst (v := 0) C zd_M_heap_238 (by decide) ?_
      refine nk_putI C zp_M_178 (Nat.le_of_ble_eq_true rfl) rfl rfl zd_M_heap_239 (fun m5 => ?_)
      refine nk_aload_n C zd_M_heap_242 rfl rfl ?_
      refine nk_callVv C [] zv_M_181 hR (zc_M_allAsleep m5) (by omega) (Nat.le_of_ble_eq_true rfl) rfl rfl rfl rfl (Nat.le_of_ble_eq_true rfl) zd_M_heap_243 (fun m6 => ?_)
      refine nk_aload_n C zd_M_heap_246 rfl rfl ?_
      refine nk_aload_n C zd_M_heap_247 rfl rfl ?_
      refine nk_getI C za_M_104 (Nat.le_of_ble_eq_true rfl) rfl rfl zd_M_heap_248 ?_
      refine nk_callVi C [.int (m6 0 1)] zv_M_150 hR (zc_M_refused (m6 0 1) m6) (by omega) (Nat.le_of_ble_eq_true rfl) rfl rfl rfl rfl (Nat.le_of_ble_eq_true rfl) zd_M_heap_251 (fun r2 m7 => ?_)
      exact nk_iret C hr zd_M_heap_254
    · refine nk_aload_n C zd_M_heap_121 rfl rfl ?_
      refine nk_getR C (r := 1) za_M_7 (Nat.le_of_ble_eq_true rfl) rfl rfl zd_M_heap_122 ?_
      refine nk_iload C zd_M_heap_125 rfl ?_
      refine nk_aload_n C zd_M_heap_127 rfl rfl ?_
      refine nk_getR C (r := 5) za_M_22 (Nat.le_of_ble_eq_true rfl) rfl rfl zd_M_heap_128 ?_
      refine nk_iload C zd_M_heap_131 rfl ?_
      refine nk_iald C (Nat.le_of_ble_eq_true rfl) rfl zd_M_heap_133 (fun x3 => ?_)
      refine nk_iast C (Nat.le_of_ble_eq_true rfl) rfl zd_M_heap_134 (fun m8 => ?_)
      refine nk_aload_n C zd_M_heap_135 rfl rfl ?_
      refine nk_getR C (r := 2) za_M_13 (Nat.le_of_ble_eq_true rfl) rfl rfl zd_M_heap_136 ?_
      refine nk_iload C zd_M_heap_139 rfl ?_
      refine nk_aload_n C zd_M_heap_141 rfl rfl ?_
      refine nk_getR C (r := 6) za_M_25 (Nat.le_of_ble_eq_true rfl) rfl rfl zd_M_heap_142 ?_
      refine nk_iload C zd_M_heap_145 rfl ?_
      refine nk_iald C (Nat.le_of_ble_eq_true rfl) rfl zd_M_heap_147 (fun x4 => ?_)
      refine nk_iast C (Nat.le_of_ble_eq_true rfl) rfl zd_M_heap_148 (fun m9 => ?_)
      refine nk_aload_n C zd_M_heap_149 rfl rfl ?_
      refine nk_getR C (r := 3) za_M_16 (Nat.le_of_ble_eq_true rfl) rfl rfl zd_M_heap_150 ?_
      refine nk_iload C zd_M_heap_153 rfl ?_
      refine nk_aload_n C zd_M_heap_155 rfl rfl ?_
      refine nk_getR C (r := 7) za_M_28 (Nat.le_of_ble_eq_true rfl) rfl rfl zd_M_heap_156 ?_
      refine nk_iload C zd_M_heap_159 rfl ?_
      refine nk_iald C (Nat.le_of_ble_eq_true rfl) rfl zd_M_heap_161 (fun x5 => ?_)
      refine nk_iast C (Nat.le_of_ble_eq_true rfl) rfl zd_M_heap_162 (fun m10 => ?_)
      refine nk_iconst (v := 0) C zd_M_heap_163 (by decide) ?_
      refine nk_istore C zd_M_heap_164 (Nat.le_of_ble_eq_true rfl) rfl ?_
      exact zs_M_heap_b166 C hR hr (zf_M_heap_b112 n0) ih nk_fu y7 (0 : Int32) m10
def zf_M_heap  (a1 : Int32) (a2 : Int32) (a3 : Int32) (a4 : Int32) (m0 : nk_M) : Option (Int32 × nk_M) := nk_bd (zf_M_noSheet a1 m0) (fun r1 m1 => (if r1 = 0 then nk_bd (zf_M_in (a2.toInt64) (0 : Int64) (2 : Int64) m1) (fun r2 m2 => (if r2 = 0 then nk_bd (zf_M_refused (-2 : Int32) m2) (fun r8 m9 => some (r8, m9)) else nk_bd (zf_M_cellsBarred a1 a2 a3 (a4.toInt64) m2) (fun r3 m3 => (if 0 ≤ r3 then nk_bd (zf_M_readsCells (((60 : Int32) * a1) + a3) a4 m3) (fun r4 m4 => (if r4 = 0 then nk_bd (zf_M_refused ((-100 : Int32) - (m4 0 6)) m4) (fun r7 m8 => some (r7, m8)) else nk_bd (zf_M_looseOne m4) (fun r5 m5 => (if r5 < 0 then nk_pf m5 0 1 (m5 0 7) (fun m6 => (zf_M_heap_b112 nk_fu (0 : Int32) m6)) else nk_bd (zf_M_refused ((-200 : Int32) - r5) m5) (fun r6 m7 => some (r6, m7)))))) else some (r3, m3))))) else nk_bd (zf_M_refused (-1 : Int32) m1) (fun r9 m10 => some (r9, m10))))
set_option maxHeartbeats 4000000 in
set_option maxRecDepth 100000 in
theorem zc_M_heap {l : Launch} {G : nk_V}   (a1 : Int32) (a2 : Int32) (a3 : Int32) (a4 : Int32) (m0 : nk_M) : nk_Ct l nk_wR G 5 zy_M_heap zb_M_heap 9 (some .int) nk_oi [nk_r G 0, .int a1, .int a2, .int a3, .int a4] m0 (zf_M_heap  a1 a2 a3 a4 m0) := by
  refine nk_ent (own := "NeedOnceModel") (lv := [nk_r G 0, .int a1, .int a2, .int a3, .int a4, .null, .null, .null, .null]) 4 rfl (by decide) (Nat.le_of_ble_eq_true rfl) rfl (fun X hl hR C hr => ?_)
  subst hl
  unfold zf_M_heap
  refine nk_iload_n C zd_M_heap_0 rfl rfl ?_
  refine nk_callSi C [.int a1] zv_M_146 hR (zc_M_noSheet a1 m0) (by omega) rfl rfl (Nat.le_of_ble_eq_true rfl) zd_M_heap_1 (fun r1 m1 => ?_)
  refine nk_if_eq (tgt := 13) C zd_M_heap_4 (by decide) ?_ ?_
  · refine nk_iload_n C zd_M_heap_13 rfl rfl ?_
    refine nk_i2l C zd_M_heap_14 ?_
    refine nk_lconst (v := 0) C zd_M_heap_15 (by decide) ?_
    refine nk_ldc2 (v := 2) C zw_710 zd_M_heap_16 ?_
    refine nk_callSi C [.long (a2.toInt64), .long (0 : Int64), .long (2 : Int64)] zv_M_107 hR (zc_M_in (a2.toInt64) (0 : Int64) (2 : Int64) m1) (by omega) rfl rfl (Nat.le_of_ble_eq_true rfl) zd_M_heap_19 (fun r2 m2 => ?_)
    refine nk_if_ne (tgt := 32) C zd_M_heap_22 (by decide) ?_ ?_
    · refine nk_aload_n C zd_M_heap_32 rfl rfl ?_
      refine nk_iload_n C zd_M_heap_33 rfl rfl ?_
      refine nk_iload_n C zd_M_heap_34 rfl rfl ?_
      refine nk_iload_n C zd_M_heap_35 rfl rfl ?_
      refine nk_iload C zd_M_heap_36 rfl ?_
      refine nk_i2l C zd_M_heap_38 ?_
      refine nk_callVi C [.int a1, .int a2, .int a3, .long (a4.toInt64)] zv_M_155 hR (zc_M_cellsBarred a1 a2 a3 (a4.toInt64) m2) (by omega) (Nat.le_of_ble_eq_true rfl) rfl rfl rfl rfl (Nat.le_of_ble_eq_true rfl) zd_M_heap_39 (fun r3 m3 => ?_)
      refine nk_istore C zd_M_heap_42 (Nat.le_of_ble_eq_true rfl) rfl ?_
      refine nk_iload C zd_M_heap_44 rfl ?_
      refine nk_if_ge (tgt := 52) C zd_M_heap_46 (by decide) ?_ ?_
      · refine nk_aload_n C zd_M_heap_52 rfl rfl ?_
        refine nk_bipush (v := 60) C zd_M_heap_53 (by decide) ?_
        refine nk_iload_n C zd_M_heap_55 rfl rfl ?_
        refine nk_imul C zd_M_heap_56 ?_
        refine nk_iload_n C zd_M_heap_57 rfl rfl ?_
        refine nk_iadd C zd_M_heap_58 ?_
        refine nk_iload C zd_M_heap_59 rfl ?_
        refine nk_callVi C [.int (((60 : Int32) * a1) + a3), .int a4] zv_M_159 hR (zc_M_readsCells (((60 : Int32) * a1) + a3) a4 m3) (by omega) (Nat.le_of_ble_eq_true rfl) rfl rfl rfl rfl (Nat.le_of_ble_eq_true rfl) zd_M_heap_61 (fun r4 m4 => ?_)
        refine nk_if_ne (tgt := 79) C zd_M_heap_64 (by decide) ?_ ?_
        · refine nk_aload_n C zd_M_heap_79 rfl rfl ?_
          refine nk_callVi C [] zv_M_162 hR (zc_M_looseOne m4) (by omega) (Nat.le_of_ble_eq_true rfl) rfl rfl rfl rfl (Nat.le_of_ble_eq_true rfl) zd_M_heap_80 (fun r5 m5 => ?_)
          refine nk_istore C zd_M_heap_83 (Nat.le_of_ble_eq_true rfl) rfl ?_
          refine nk_iload C zd_M_heap_85 rfl ?_
          refine nk_if_lt (tgt := 101) C zd_M_heap_87 (by decide) ?_ ?_
          · refine nk_aload_n C zd_M_heap_101 rfl rfl ?_
            refine nk_aload_n C zd_M_heap_102 rfl rfl ?_
            refine nk_getI C za_M_122 (Nat.le_of_ble_eq_true rfl) rfl rfl zd_M_heap_103 ?_
            refine nk_putI C zp_M_104 (Nat.le_of_ble_eq_true rfl) rfl rfl zd_M_heap_106 (fun m6 => ?_)
            refine nk_iconst (v := 0) C zd_M_heap_109 (by decide) ?_
            refine nk_istore C zd_M_heap_110 (Nat.le_of_ble_eq_true rfl) rfl ?_
            refine nk_wk [true, false, false, false, false, false, false, true, false] ?_
            exact zs_M_heap_b112 C hR hr nk_fu (0 : Int32) m6
          · refine nk_aload_n C zd_M_heap_90 rfl rfl ?_
            refine nk_sipush (v := -200) C zd_M_heap_91 (by decide) ?_
            refine nk_iload C zd_M_heap_94 rfl ?_
            refine nk_isub C zd_M_heap_96 ?_
            refine nk_callVi C [.int ((-200 : Int32) - r5)] zv_M_150 hR (zc_M_refused ((-200 : Int32) - r5) m5) (by omega) (Nat.le_of_ble_eq_true rfl) rfl rfl rfl rfl (Nat.le_of_ble_eq_true rfl) zd_M_heap_97 (fun r6 m7 => ?_)
            exact nk_iret C hr zd_M_heap_100
        · refine nk_aload_n C zd_M_heap_67 rfl rfl ?_
          refine nk_bipush (v := -100) C zd_M_heap_68 (by decide) ?_
          refine nk_aload_n C zd_M_heap_70 rfl rfl ?_
          refine nk_getI C za_M_111 (Nat.le_of_ble_eq_true rfl) rfl rfl zd_M_heap_71 ?_
          refine nk_isub C zd_M_heap_74 ?_
          refine nk_callVi C [.int ((-100 : Int32) - (m4 0 6))] zv_M_150 hR (zc_M_refused ((-100 : Int32) - (m4 0 6)) m4) (by omega) (Nat.le_of_ble_eq_true rfl) rfl rfl rfl rfl (Nat.le_of_ble_eq_true rfl) zd_M_heap_75 (fun r7 m8 => ?_)
          exact nk_iret C hr zd_M_heap_78
      · refine nk_iload C zd_M_heap_49 rfl ?_
        exact nk_iret C hr zd_M_heap_51
    · refine nk_aload_n C zd_M_heap_25 rfl rfl ?_
      refine nk_bipush (v := -2) C zd_M_heap_26 (by decide) ?_
      refine nk_callVi C [.int (-2 : Int32)] zv_M_150 hR (zc_M_refused (-2 : Int32) m2) (by omega) (Nat.le_of_ble_eq_true rfl) rfl rfl rfl rfl (Nat.le_of_ble_eq_true rfl) zd_M_heap_28 (fun r8 m9 => ?_)
      exact nk_iret C hr zd_M_heap_31
  · refine nk_aload_n C zd_M_heap_7 rfl rfl ?_
    refine nk_iconst (v := -1) C zd_M_heap_8 (by decide) ?_
    refine nk_callVi C [.int (-1 : Int32)] zv_M_150 hR (zc_M_refused (-1 : Int32) m1) (by omega) (Nat.le_of_ble_eq_true rfl) rfl rfl rfl rfl (Nat.le_of_ble_eq_true rfl) zd_M_heap_9 (fun r9 m10 => ?_)
    exact nk_iret C hr zd_M_heap_12
theorem zd_M_noOne_0 : decode zb_M_noOne 0 = .ok (.iload_n 1, 1) := by decide +kernel
theorem zd_M_noOne_1 : decode zb_M_noOne 1 = .ok (.i2l, 1) := by decide +kernel
theorem zd_M_noOne_2 : decode zb_M_noOne 2 = .ok (.lconst 0, 1) := by decide +kernel
theorem zd_M_noOne_3 : decode zb_M_noOne 3 = .ok (.aload_n 0, 1) := by decide +kernel
theorem zd_M_noOne_4 : decode zb_M_noOne 4 = .ok (.getfield 104, 3) := by decide +kernel
theorem zd_M_noOne_7 : decode zb_M_noOne 7 = .ok (.i2l, 1) := by decide +kernel
theorem zd_M_noOne_8 : decode zb_M_noOne 8 = .ok (.lconst 1, 1) := by decide +kernel
theorem zd_M_noOne_9 : decode zb_M_noOne 9 = .ok (.lsub, 1) := by decide +kernel
theorem zd_M_noOne_10 : decode zb_M_noOne 10 = .ok (.invokestatic 107, 3) := by decide +kernel
theorem zd_M_noOne_13 : decode zb_M_noOne 13 = .ok (.ifCond .ne 7, 3) := by decide +kernel
theorem zd_M_noOne_16 : decode zb_M_noOne 16 = .ok (.iconst 1, 1) := by decide +kernel
theorem zd_M_noOne_17 : decode zb_M_noOne 17 = .ok (.goto 4, 3) := by decide +kernel
theorem zd_M_noOne_20 : decode zb_M_noOne 20 = .ok (.iconst 0, 1) := by decide +kernel
theorem zd_M_noOne_21 : decode zb_M_noOne 21 = .ok (.ireturn, 1) := by decide +kernel
def zf_M_noOne_b21  (u0 : Int32) (m0 : nk_M) : Option (Int32 × nk_M) := nk_zr u0 m0
set_option maxHeartbeats 4000000 in
set_option maxRecDepth 100000 in
theorem zs_M_noOne_b21 {G : nk_V} {X : nk_X}   (C : nk_C "NeedOnceModel" zb_M_noOne 2 nk_wR G X) (hR : X.2.2.2.1 = nk_rm 2) (hr : X.2.2.2.2.2.2.2.2.1.sig.returnType = (some .boolean))  : ∀ (u0 : Int32) (m0 : nk_M), nk_Sim nk_wR G X 2 nk_oi 21 [nk_r G 0, .null] [.int u0] m0 (zf_M_noOne_b21 u0 m0) := by
  intro u0 m0
  unfold zf_M_noOne_b21
  exact nk_zret C hr zd_M_noOne_21
def zf_M_noOne  (a1 : Int32) (m0 : nk_M) : Option (Int32 × nk_M) := nk_bd (zf_M_in (a1.toInt64) (0 : Int64) (((m0 0 1).toInt64) - (1 : Int64)) m0) (fun r1 m1 => (if r1 = 0 then (zf_M_noOne_b21 (1 : Int32) m1) else (zf_M_noOne_b21 (0 : Int32) m1)))
set_option maxHeartbeats 4000000 in
set_option maxRecDepth 100000 in
theorem zc_M_noOne {l : Launch} {G : nk_V}   (a1 : Int32) (m0 : nk_M) : nk_Ct l nk_wR G 2 zy_M_noOne zb_M_noOne 2 (some .boolean) nk_oi [nk_r G 0, .int a1] m0 (zf_M_noOne  a1 m0) := by
  refine nk_ent (own := "NeedOnceModel") (lv := [nk_r G 0, .int a1]) 0 rfl (by decide) (Nat.le_of_ble_eq_true rfl) rfl (fun X hl hR C hr => ?_)
  subst hl
  unfold zf_M_noOne
  refine nk_iload_n C zd_M_noOne_0 rfl rfl ?_
  refine nk_i2l C zd_M_noOne_1 ?_
  refine nk_lconst (v := 0) C zd_M_noOne_2 (by decide) ?_
  refine nk_aload_n C zd_M_noOne_3 rfl rfl ?_
  refine nk_getI C za_M_104 (Nat.le_of_ble_eq_true rfl) rfl rfl zd_M_noOne_4 ?_
  refine nk_i2l C zd_M_noOne_7 ?_
  refine nk_lconst (v := 1) C zd_M_noOne_8 (by decide) ?_
  refine nk_lsub C zd_M_noOne_9 ?_
  refine nk_callSi C [.long (a1.toInt64), .long (0 : Int64), .long (((m0 0 1).toInt64) - (1 : Int64))] zv_M_107 hR (zc_M_in (a1.toInt64) (0 : Int64) (((m0 0 1).toInt64) - (1 : Int64)) m0) (by omega) rfl rfl (Nat.le_of_ble_eq_true rfl) zd_M_noOne_10 (fun r1 m1 => ?_)
  refine nk_if_ne (tgt := 20) C zd_M_noOne_13 (by decide) ?_ ?_
  · refine nk_iconst (v := 0) C zd_M_noOne_20 (by decide) ?_
    refine nk_wk [true, false] ?_
    exact zs_M_noOne_b21 C hR hr (0 : Int32) m1
  · refine nk_iconst (v := 1) C zd_M_noOne_16 (by decide) ?_
    refine nk_goto (tgt := 21) C zd_M_noOne_17 (by decide) ?_
    refine nk_wk [true, false] ?_
    exact zs_M_noOne_b21 C hR hr (1 : Int32) m1
theorem zd_M_cost_0 : decode zb_M_cost 0 = .ok (.aload_n 0, 1) := by decide +kernel
theorem zd_M_cost_1 : decode zb_M_cost 1 = .ok (.getfield 7, 3) := by decide +kernel
theorem zd_M_cost_4 : decode zb_M_cost 4 = .ok (.iload_n 1, 1) := by decide +kernel
theorem zd_M_cost_5 : decode zb_M_cost 5 = .ok (.iaload, 1) := by decide +kernel
theorem zd_M_cost_6 : decode zb_M_cost 6 = .ok (.ifCond .ne 12, 3) := by decide +kernel
theorem zd_M_cost_9 : decode zb_M_cost 9 = .ok (.aload_n 0, 1) := by decide +kernel
theorem zd_M_cost_10 : decode zb_M_cost 10 = .ok (.getfield 13, 3) := by decide +kernel
theorem zd_M_cost_13 : decode zb_M_cost 13 = .ok (.iload_n 1, 1) := by decide +kernel
theorem zd_M_cost_14 : decode zb_M_cost 14 = .ok (.iaload, 1) := by decide +kernel
theorem zd_M_cost_15 : decode zb_M_cost 15 = .ok (.goto 32, 3) := by decide +kernel
theorem zd_M_cost_18 : decode zb_M_cost 18 = .ok (.aload_n 0, 1) := by decide +kernel
theorem zd_M_cost_19 : decode zb_M_cost 19 = .ok (.getfield 7, 3) := by decide +kernel
theorem zd_M_cost_22 : decode zb_M_cost 22 = .ok (.iload_n 1, 1) := by decide +kernel
theorem zd_M_cost_23 : decode zb_M_cost 23 = .ok (.iaload, 1) := by decide +kernel
theorem zd_M_cost_24 : decode zb_M_cost 24 = .ok (.iconst 1, 1) := by decide +kernel
theorem zd_M_cost_25 : decode zb_M_cost 25 = .ok (.if_icmp .ne 14, 3) := by decide +kernel
theorem zd_M_cost_28 : decode zb_M_cost 28 = .ok (.aload_n 0, 1) := by decide +kernel
theorem zd_M_cost_29 : decode zb_M_cost 29 = .ok (.getfield 13, 3) := by decide +kernel
theorem zd_M_cost_32 : decode zb_M_cost 32 = .ok (.iload_n 1, 1) := by decide +kernel
theorem zd_M_cost_33 : decode zb_M_cost 33 = .ok (.iaload, 1) := by decide +kernel
theorem zd_M_cost_34 : decode zb_M_cost 34 = .ok (.iconst 1, 1) := by decide +kernel
theorem zd_M_cost_35 : decode zb_M_cost 35 = .ok (.iadd, 1) := by decide +kernel
theorem zd_M_cost_36 : decode zb_M_cost 36 = .ok (.goto 11, 3) := by decide +kernel
theorem zd_M_cost_39 : decode zb_M_cost 39 = .ok (.iconst 2, 1) := by decide +kernel
theorem zd_M_cost_40 : decode zb_M_cost 40 = .ok (.aload_n 0, 1) := by decide +kernel
theorem zd_M_cost_41 : decode zb_M_cost 41 = .ok (.getfield 13, 3) := by decide +kernel
theorem zd_M_cost_44 : decode zb_M_cost 44 = .ok (.iload_n 1, 1) := by decide +kernel
theorem zd_M_cost_45 : decode zb_M_cost 45 = .ok (.iaload, 1) := by decide +kernel
theorem zd_M_cost_46 : decode zb_M_cost 46 = .ok (.imul, 1) := by decide +kernel
theorem zd_M_cost_47 : decode zb_M_cost 47 = .ok (.ireturn, 1) := by decide +kernel
def zf_M_cost_b47  (u0 : Int32) (m0 : nk_M) : Option (Int32 × nk_M) := some (u0, m0)
set_option maxHeartbeats 4000000 in
set_option maxRecDepth 100000 in
theorem zs_M_cost_b47 {G : nk_V} {X : nk_X}   (C : nk_C "NeedOnceModel" zb_M_cost 2 nk_wR G X) (hR : X.2.2.2.1 = nk_rm 1) (hr : X.2.2.2.2.2.2.2.2.1.sig.returnType = (some .int))  : ∀ (u0 : Int32) (m0 : nk_M), nk_Sim nk_wR G X 2 nk_oi 47 [nk_r G 0, .null] [.int u0] m0 (zf_M_cost_b47 u0 m0) := by
  intro u0 m0
  unfold zf_M_cost_b47
  exact nk_iret C hr zd_M_cost_47
def zf_M_cost  (a1 : Int32) (m0 : nk_M) : Option (Int32 × nk_M) := nk_ald m0 1 8 a1 (fun x1 => (if x1 = 0 then nk_ald m0 2 8 a1 (fun x5 => (zf_M_cost_b47 x5 m0)) else nk_ald m0 1 8 a1 (fun x2 => (if x2 = (1 : Int32) then nk_ald m0 2 8 a1 (fun x4 => (zf_M_cost_b47 (x4 + (1 : Int32)) m0)) else nk_ald m0 2 8 a1 (fun x3 => (zf_M_cost_b47 ((2 : Int32) * x3) m0))))))
set_option maxHeartbeats 4000000 in
set_option maxRecDepth 100000 in
theorem zc_M_cost {l : Launch} {G : nk_V}   (a1 : Int32) (m0 : nk_M) : nk_Ct l nk_wR G 1 zy_M_cost zb_M_cost 2 (some .int) nk_oi [nk_r G 0, .int a1] m0 (zf_M_cost  a1 m0) := by
  refine nk_ent (own := "NeedOnceModel") (lv := [nk_r G 0, .int a1]) 0 rfl (by decide) (Nat.le_of_ble_eq_true rfl) rfl (fun X hl hR C hr => ?_)
  subst hl
  unfold zf_M_cost
  refine nk_aload_n C zd_M_cost_0 rfl rfl ?_
  refine nk_getR C (r := 1) za_M_7 (Nat.le_of_ble_eq_true rfl) rfl rfl zd_M_cost_1 ?_
  refine nk_iload_n C zd_M_cost_4 rfl rfl ?_
  refine nk_iald C (Nat.le_of_ble_eq_true rfl) rfl zd_M_cost_5 (fun x1 => ?_)
  refine nk_if_ne (tgt := 18) C zd_M_cost_6 (by decide) ?_ ?_
  · refine nk_aload_n C zd_M_cost_18 rfl rfl ?_
    refine nk_getR C (r := 1) za_M_7 (Nat.le_of_ble_eq_true rfl) rfl rfl zd_M_cost_19 ?_
    refine nk_iload_n C zd_M_cost_22 rfl rfl ?_
    refine nk_iald C (Nat.le_of_ble_eq_true rfl) rfl zd_M_cost_23 (fun x2 => ?_)
    refine nk_iconst (v := 1) C zd_M_cost_24 (by decide) ?_
    refine nk_icmp_ne (tgt := 39) C zd_M_cost_25 (by decide) ?_ ?_
    · refine nk_iconst (v := 2) C zd_M_cost_39 (by decide) ?_
      refine nk_aload_n C zd_M_cost_40 rfl rfl ?_
      refine nk_getR C (r := 2) za_M_13 (Nat.le_of_ble_eq_true rfl) rfl rfl zd_M_cost_41 ?_
      refine nk_iload_n C zd_M_cost_44 rfl rfl ?_
      refine nk_iald C (Nat.le_of_ble_eq_true rfl) rfl zd_M_cost_45 (fun x3 => ?_)
      refine nk_imul C zd_M_cost_46 ?_
      refine nk_wk [true, false] ?_
      exact zs_M_cost_b47 C hR hr ((2 : Int32) * x3) m0
    · refine nk_aload_n C zd_M_cost_28 rfl rfl ?_
      refine nk_getR C (r := 2) za_M_13 (Nat.le_of_ble_eq_true rfl) rfl rfl zd_M_cost_29 ?_
      refine nk_iload_n C zd_M_cost_32 rfl rfl ?_
      refine nk_iald C (Nat.le_of_ble_eq_true rfl) rfl zd_M_cost_33 (fun x4 => ?_)
      refine nk_iconst (v := 1) C zd_M_cost_34 (by decide) ?_
      refine nk_iadd C zd_M_cost_35 ?_
      refine nk_goto (tgt := 47) C zd_M_cost_36 (by decide) ?_
      refine nk_wk [true, false] ?_
      exact zs_M_cost_b47 C hR hr (x4 + (1 : Int32)) m0
  · refine nk_aload_n C zd_M_cost_9 rfl rfl ?_
    refine nk_getR C (r := 2) za_M_13 (Nat.le_of_ble_eq_true rfl) rfl rfl zd_M_cost_10 ?_
    refine nk_iload_n C zd_M_cost_13 rfl rfl ?_
    refine nk_iald C (Nat.le_of_ble_eq_true rfl) rfl zd_M_cost_14 (fun x5 => ?_)
    refine nk_goto (tgt := 47) C zd_M_cost_15 (by decide) ?_
    refine nk_wk [true, false] ?_
    exact zs_M_cost_b47 C hR hr x5 m0
theorem zd_M_ofCell_0 : decode zb_M_ofCell 0 = .ok (.aload_n 0, 1) := by decide +kernel
theorem zd_M_ofCell_1 : decode zb_M_ofCell 1 = .ok (.iload_n 1, 1) := by decide +kernel
theorem zd_M_ofCell_2 : decode zb_M_ofCell 2 = .ok (.invokevirtual 240, 3) := by decide +kernel
theorem zd_M_ofCell_5 : decode zb_M_ofCell 5 = .ok (.ifCond .eq 5, 3) := by decide +kernel
theorem zd_M_ofCell_8 : decode zb_M_ofCell 8 = .ok (.iconst (-1), 1) := by decide +kernel
theorem zd_M_ofCell_9 : decode zb_M_ofCell 9 = .ok (.ireturn, 1) := by decide +kernel
theorem zd_M_ofCell_10 : decode zb_M_ofCell 10 = .ok (.iload_n 2, 1) := by decide +kernel
theorem zd_M_ofCell_11 : decode zb_M_ofCell 11 = .ok (.i2l, 1) := by decide +kernel
theorem zd_M_ofCell_12 : decode zb_M_ofCell 12 = .ok (.ldc2_w 243, 3) := by decide +kernel
theorem zd_M_ofCell_15 : decode zb_M_ofCell 15 = .ok (.ldc2_w 245, 3) := by decide +kernel
theorem zd_M_ofCell_18 : decode zb_M_ofCell 18 = .ok (.invokestatic 107, 3) := by decide +kernel
theorem zd_M_ofCell_21 : decode zb_M_ofCell 21 = .ok (.ifCond .eq 38, 3) := by decide +kernel
theorem zd_M_ofCell_24 : decode zb_M_ofCell 24 = .ok (.iload_n 2, 1) := by decide +kernel
theorem zd_M_ofCell_25 : decode zb_M_ofCell 25 = .ok (.bipush 10, 2) := by decide +kernel
theorem zd_M_ofCell_27 : decode zb_M_ofCell 27 = .ok (.isub, 1) := by decide +kernel
theorem zd_M_ofCell_28 : decode zb_M_ofCell 28 = .ok (.aload_n 0, 1) := by decide +kernel
theorem zd_M_ofCell_29 : decode zb_M_ofCell 29 = .ok (.getfield 16, 3) := by decide +kernel
theorem zd_M_ofCell_32 : decode zb_M_ofCell 32 = .ok (.iload_n 1, 1) := by decide +kernel
theorem zd_M_ofCell_33 : decode zb_M_ofCell 33 = .ok (.iaload, 1) := by decide +kernel
theorem zd_M_ofCell_34 : decode zb_M_ofCell 34 = .ok (.invokestatic 125, 3) := by decide +kernel
theorem zd_M_ofCell_37 : decode zb_M_ofCell 37 = .ok (.if_icmp .ge 19, 3) := by decide +kernel
theorem zd_M_ofCell_40 : decode zb_M_ofCell 40 = .ok (.aload_n 0, 1) := by decide +kernel
theorem zd_M_ofCell_41 : decode zb_M_ofCell 41 = .ok (.getfield 19, 3) := by decide +kernel
theorem zd_M_ofCell_44 : decode zb_M_ofCell 44 = .ok (.iconst 3, 1) := by decide +kernel
theorem zd_M_ofCell_45 : decode zb_M_ofCell 45 = .ok (.iload_n 1, 1) := by decide +kernel
theorem zd_M_ofCell_46 : decode zb_M_ofCell 46 = .ok (.imul, 1) := by decide +kernel
theorem zd_M_ofCell_47 : decode zb_M_ofCell 47 = .ok (.iload_n 2, 1) := by decide +kernel
theorem zd_M_ofCell_48 : decode zb_M_ofCell 48 = .ok (.iadd, 1) := by decide +kernel
theorem zd_M_ofCell_49 : decode zb_M_ofCell 49 = .ok (.bipush 10, 2) := by decide +kernel
theorem zd_M_ofCell_51 : decode zb_M_ofCell 51 = .ok (.isub, 1) := by decide +kernel
theorem zd_M_ofCell_52 : decode zb_M_ofCell 52 = .ok (.iaload, 1) := by decide +kernel
theorem zd_M_ofCell_53 : decode zb_M_ofCell 53 = .ok (.goto 5, 3) := by decide +kernel
theorem zd_M_ofCell_56 : decode zb_M_ofCell 56 = .ok (.bipush (-9), 2) := by decide +kernel
theorem zd_M_ofCell_58 : decode zb_M_ofCell 58 = .ok (.ireturn, 1) := by decide +kernel
theorem zd_M_ofCell_59 : decode zb_M_ofCell 59 = .ok (.iload_n 2, 1) := by decide +kernel
theorem zd_M_ofCell_60 : decode zb_M_ofCell 60 = .ok (.tableswitch 114 0 6 #[44, 51, 58, 64, 85, 100, 107], 44) := by decide +kernel
theorem zd_M_ofCell_104 : decode zb_M_ofCell 104 = .ok (.aload_n 0, 1) := by decide +kernel
theorem zd_M_ofCell_105 : decode zb_M_ofCell 105 = .ok (.getfield 7, 3) := by decide +kernel
theorem zd_M_ofCell_108 : decode zb_M_ofCell 108 = .ok (.iload_n 1, 1) := by decide +kernel
theorem zd_M_ofCell_109 : decode zb_M_ofCell 109 = .ok (.iaload, 1) := by decide +kernel
theorem zd_M_ofCell_110 : decode zb_M_ofCell 110 = .ok (.ireturn, 1) := by decide +kernel
theorem zd_M_ofCell_111 : decode zb_M_ofCell 111 = .ok (.aload_n 0, 1) := by decide +kernel
theorem zd_M_ofCell_112 : decode zb_M_ofCell 112 = .ok (.getfield 13, 3) := by decide +kernel
theorem zd_M_ofCell_115 : decode zb_M_ofCell 115 = .ok (.iload_n 1, 1) := by decide +kernel
theorem zd_M_ofCell_116 : decode zb_M_ofCell 116 = .ok (.iaload, 1) := by decide +kernel
theorem zd_M_ofCell_117 : decode zb_M_ofCell 117 = .ok (.ireturn, 1) := by decide +kernel
theorem zd_M_ofCell_118 : decode zb_M_ofCell 118 = .ok (.aload_n 0, 1) := by decide +kernel
theorem zd_M_ofCell_119 : decode zb_M_ofCell 119 = .ok (.iload_n 1, 1) := by decide +kernel
theorem zd_M_ofCell_120 : decode zb_M_ofCell 120 = .ok (.invokevirtual 215, 3) := by decide +kernel
theorem zd_M_ofCell_123 : decode zb_M_ofCell 123 = .ok (.ireturn, 1) := by decide +kernel
theorem zd_M_ofCell_124 : decode zb_M_ofCell 124 = .ok (.aload_n 0, 1) := by decide +kernel
theorem zd_M_ofCell_125 : decode zb_M_ofCell 125 = .ok (.getfield 43, 3) := by decide +kernel
theorem zd_M_ofCell_128 : decode zb_M_ofCell 128 = .ok (.iload_n 1, 1) := by decide +kernel
theorem zd_M_ofCell_129 : decode zb_M_ofCell 129 = .ok (.iaload, 1) := by decide +kernel
theorem zd_M_ofCell_130 : decode zb_M_ofCell 130 = .ok (.ifCond .lt 8, 3) := by decide +kernel
theorem zd_M_ofCell_133 : decode zb_M_ofCell 133 = .ok (.bipush 7, 2) := by decide +kernel
theorem zd_M_ofCell_135 : decode zb_M_ofCell 135 = .ok (.goto 9, 3) := by decide +kernel
theorem zd_M_ofCell_138 : decode zb_M_ofCell 138 = .ok (.aload_n 0, 1) := by decide +kernel
theorem zd_M_ofCell_139 : decode zb_M_ofCell 139 = .ok (.getfield 16, 3) := by decide +kernel
theorem zd_M_ofCell_142 : decode zb_M_ofCell 142 = .ok (.iload_n 1, 1) := by decide +kernel
theorem zd_M_ofCell_143 : decode zb_M_ofCell 143 = .ok (.iaload, 1) := by decide +kernel
theorem zd_M_ofCell_144 : decode zb_M_ofCell 144 = .ok (.ireturn, 1) := by decide +kernel
theorem zd_M_ofCell_145 : decode zb_M_ofCell 145 = .ok (.aload_n 0, 1) := by decide +kernel
theorem zd_M_ofCell_146 : decode zb_M_ofCell 146 = .ok (.getfield 34, 3) := by decide +kernel
theorem zd_M_ofCell_149 : decode zb_M_ofCell 149 = .ok (.iload_n 1, 1) := by decide +kernel
theorem zd_M_ofCell_150 : decode zb_M_ofCell 150 = .ok (.iaload, 1) := by decide +kernel
theorem zd_M_ofCell_151 : decode zb_M_ofCell 151 = .ok (.ifCond .lt 7, 3) := by decide +kernel
theorem zd_M_ofCell_154 : decode zb_M_ofCell 154 = .ok (.iconst 1, 1) := by decide +kernel
theorem zd_M_ofCell_155 : decode zb_M_ofCell 155 = .ok (.goto 4, 3) := by decide +kernel
theorem zd_M_ofCell_158 : decode zb_M_ofCell 158 = .ok (.iconst 0, 1) := by decide +kernel
theorem zd_M_ofCell_159 : decode zb_M_ofCell 159 = .ok (.ireturn, 1) := by decide +kernel
theorem zd_M_ofCell_160 : decode zb_M_ofCell 160 = .ok (.aload_n 0, 1) := by decide +kernel
theorem zd_M_ofCell_161 : decode zb_M_ofCell 161 = .ok (.getfield 34, 3) := by decide +kernel
theorem zd_M_ofCell_164 : decode zb_M_ofCell 164 = .ok (.iload_n 1, 1) := by decide +kernel
theorem zd_M_ofCell_165 : decode zb_M_ofCell 165 = .ok (.iaload, 1) := by decide +kernel
theorem zd_M_ofCell_166 : decode zb_M_ofCell 166 = .ok (.ireturn, 1) := by decide +kernel
theorem zd_M_ofCell_167 : decode zb_M_ofCell 167 = .ok (.aload_n 0, 1) := by decide +kernel
theorem zd_M_ofCell_168 : decode zb_M_ofCell 168 = .ok (.getfield 43, 3) := by decide +kernel
theorem zd_M_ofCell_171 : decode zb_M_ofCell 171 = .ok (.iload_n 1, 1) := by decide +kernel
theorem zd_M_ofCell_172 : decode zb_M_ofCell 172 = .ok (.iaload, 1) := by decide +kernel
theorem zd_M_ofCell_173 : decode zb_M_ofCell 173 = .ok (.ireturn, 1) := by decide +kernel
theorem zd_M_ofCell_174 : decode zb_M_ofCell 174 = .ok (.bipush (-2), 2) := by decide +kernel
theorem zd_M_ofCell_176 : decode zb_M_ofCell 176 = .ok (.ireturn, 1) := by decide +kernel
def zf_M_ofCell_b144  (u0 : Int32) (m0 : nk_M) : Option (Int32 × nk_M) := some (u0, m0)
set_option maxHeartbeats 4000000 in
set_option maxRecDepth 100000 in
theorem zs_M_ofCell_b144 {G : nk_V} {X : nk_X}   (C : nk_C "NeedOnceModel" zb_M_ofCell 3 nk_wR G X) (hR : X.2.2.2.1 = nk_rm 3) (hr : X.2.2.2.2.2.2.2.2.1.sig.returnType = (some .int))  : ∀ (u0 : Int32) (m0 : nk_M), nk_Sim nk_wR G X 3 nk_oi 144 [nk_r G 0, .null, .null] [.int u0] m0 (zf_M_ofCell_b144 u0 m0) := by
  intro u0 m0
  unfold zf_M_ofCell_b144
  exact nk_iret C hr zd_M_ofCell_144
def zf_M_ofCell_b159  (u0 : Int32) (m0 : nk_M) : Option (Int32 × nk_M) := some (u0, m0)
set_option maxHeartbeats 4000000 in
set_option maxRecDepth 100000 in
theorem zs_M_ofCell_b159 {G : nk_V} {X : nk_X}   (C : nk_C "NeedOnceModel" zb_M_ofCell 3 nk_wR G X) (hR : X.2.2.2.1 = nk_rm 3) (hr : X.2.2.2.2.2.2.2.2.1.sig.returnType = (some .int))  : ∀ (u0 : Int32) (m0 : nk_M), nk_Sim nk_wR G X 3 nk_oi 159 [nk_r G 0, .null, .null] [.int u0] m0 (zf_M_ofCell_b159 u0 m0) := by
  intro u0 m0
  unfold zf_M_ofCell_b159
  exact nk_iret C hr zd_M_ofCell_159
def zf_M_ofCell_b58  (u0 : Int32) (m0 : nk_M) : Option (Int32 × nk_M) := some (u0, m0)
set_option maxHeartbeats 4000000 in
set_option maxRecDepth 100000 in
theorem zs_M_ofCell_b58 {G : nk_V} {X : nk_X}   (C : nk_C "NeedOnceModel" zb_M_ofCell 3 nk_wR G X) (hR : X.2.2.2.1 = nk_rm 3) (hr : X.2.2.2.2.2.2.2.2.1.sig.returnType = (some .int))  : ∀ (u0 : Int32) (m0 : nk_M), nk_Sim nk_wR G X 3 nk_oi 58 [nk_r G 0, .null, .null] [.int u0] m0 (zf_M_ofCell_b58 u0 m0) := by
  intro u0 m0
  unfold zf_M_ofCell_b58
  exact nk_iret C hr zd_M_ofCell_58
def zf_M_ofCell  (a1 : Int32) (a2 : Int32) (m0 : nk_M) : Option (Int32 × nk_M) := nk_bd (zf_M_noOne a1 m0) (fun r1 m1 => (if r1 = 0 then nk_bd (zf_M_in (a2.toInt64) (10 : Int64) (12 : Int64) m1) (fun r2 m2 => (if r2 = 0 then (if a2 = (0 : Int32) then nk_ald m2 1 8 a1 (fun x3 => some (x3, m2)) else if a2 = (1 : Int32) then nk_ald m2 2 8 a1 (fun x4 => some (x4, m2)) else if a2 = (2 : Int32) then nk_bd (zf_M_cost a1 m2) (fun r5 m3 => some (r5, m3)) else if a2 = (3 : Int32) then nk_ald m2 12 8 a1 (fun x6 => (if x6 < 0 then nk_ald m2 3 8 a1 (fun x7 => (zf_M_ofCell_b144 x7 m2)) else (zf_M_ofCell_b144 (7 : Int32) m2))) else if a2 = (4 : Int32) then nk_ald m2 9 8 a1 (fun x8 => (if x8 < 0 then (zf_M_ofCell_b159 (0 : Int32) m2) else (zf_M_ofCell_b159 (1 : Int32) m2))) else if a2 = (5 : Int32) then nk_ald m2 9 8 a1 (fun x9 => some (x9, m2)) else if a2 = (6 : Int32) then nk_ald m2 12 8 a1 (fun x10 => some (x10, m2)) else some ((-2 : Int32), m2)) else nk_ald m2 3 8 a1 (fun x11 => nk_bd (zf_M_partsOf x11 m2) (fun r12 m4 => (if r12 ≤ (a2 - (10 : Int32)) then (zf_M_ofCell_b58 (-9 : Int32) m4) else nk_ald m4 4 24 ((((3 : Int32) * a1) + a2) - (10 : Int32)) (fun x13 => (zf_M_ofCell_b58 x13 m4))))))) else some ((-1 : Int32), m1)))
set_option maxHeartbeats 4000000 in
set_option maxRecDepth 100000 in
theorem zc_M_ofCell {l : Launch} {G : nk_V}   (a1 : Int32) (a2 : Int32) (m0 : nk_M) : nk_Ct l nk_wR G 3 zy_M_ofCell zb_M_ofCell 3 (some .int) nk_oi [nk_r G 0, .int a1, .int a2] m0 (zf_M_ofCell  a1 a2 m0) := by
  refine nk_ent (own := "NeedOnceModel") (lv := [nk_r G 0, .int a1, .int a2]) 0 rfl (by decide) (Nat.le_of_ble_eq_true rfl) rfl (fun X hl hR C hr => ?_)
  subst hl
  unfold zf_M_ofCell
  refine nk_aload_n C zd_M_ofCell_0 rfl rfl ?_
  refine nk_iload_n C zd_M_ofCell_1 rfl rfl ?_
  refine nk_callVi C [.int a1] zv_M_240 hR (zc_M_noOne a1 m0) (by omega) (Nat.le_of_ble_eq_true rfl) rfl rfl rfl rfl (Nat.le_of_ble_eq_true rfl) zd_M_ofCell_2 (fun r1 m1 => ?_)
  refine nk_if_eq (tgt := 10) C zd_M_ofCell_5 (by decide) ?_ ?_
  · refine nk_iload_n C zd_M_ofCell_10 rfl rfl ?_
    refine nk_i2l C zd_M_ofCell_11 ?_
    refine nk_ldc2 (v := 10) C zw_762 zd_M_ofCell_12 ?_
    refine nk_ldc2 (v := 12) C zw_763 zd_M_ofCell_15 ?_
    refine nk_callSi C [.long (a2.toInt64), .long (10 : Int64), .long (12 : Int64)] zv_M_107 hR (zc_M_in (a2.toInt64) (10 : Int64) (12 : Int64) m1) (by omega) rfl rfl (Nat.le_of_ble_eq_true rfl) zd_M_ofCell_18 (fun r2 m2 => ?_)
    refine nk_if_eq (tgt := 59) C zd_M_ofCell_21 (by decide) ?_ ?_
    · refine nk_iload_n C zd_M_ofCell_59 rfl rfl ?_
      refine nk_tbl C (0 : Int32) (off := 44) (tgt := 104) zd_M_ofCell_60 ⟨by decide, by decide, by decide, by decide⟩ ?_ (fun h0 => ?_)
      · refine nk_aload_n C zd_M_ofCell_104 rfl rfl ?_
        refine nk_getR C (r := 1) za_M_7 (Nat.le_of_ble_eq_true rfl) rfl rfl zd_M_ofCell_105 ?_
        refine nk_iload_n C zd_M_ofCell_108 rfl rfl ?_
        refine nk_iald C (Nat.le_of_ble_eq_true rfl) rfl zd_M_ofCell_109 (fun x3 => ?_)
        exact nk_iret C hr zd_M_ofCell_110
      refine nk_tbl C (1 : Int32) (off := 51) (tgt := 111) zd_M_ofCell_60 ⟨by decide, by decide, by decide, by decide⟩ ?_ (fun h1 => ?_)
      · refine nk_aload_n C zd_M_ofCell_111 rfl rfl ?_
        refine nk_getR C (r := 2) za_M_13 (Nat.le_of_ble_eq_true rfl) rfl rfl zd_M_ofCell_112 ?_
        refine nk_iload_n C zd_M_ofCell_115 rfl rfl ?_
        refine nk_iald C (Nat.le_of_ble_eq_true rfl) rfl zd_M_ofCell_116 (fun x4 => ?_)
        exact nk_iret C hr zd_M_ofCell_117
      refine nk_tbl C (2 : Int32) (off := 58) (tgt := 118) zd_M_ofCell_60 ⟨by decide, by decide, by decide, by decide⟩ ?_ (fun h2 => ?_)
      · refine nk_aload_n C zd_M_ofCell_118 rfl rfl ?_
        refine nk_iload_n C zd_M_ofCell_119 rfl rfl ?_
        refine nk_callVi C [.int a1] zv_M_215 hR (zc_M_cost a1 m2) (by omega) (Nat.le_of_ble_eq_true rfl) rfl rfl rfl rfl (Nat.le_of_ble_eq_true rfl) zd_M_ofCell_120 (fun r5 m3 => ?_)
        exact nk_iret C hr zd_M_ofCell_123
      refine nk_tbl C (3 : Int32) (off := 64) (tgt := 124) zd_M_ofCell_60 ⟨by decide, by decide, by decide, by decide⟩ ?_ (fun h3 => ?_)
      · refine nk_aload_n C zd_M_ofCell_124 rfl rfl ?_
        refine nk_getR C (r := 12) za_M_43 (Nat.le_of_ble_eq_true rfl) rfl rfl zd_M_ofCell_125 ?_
        refine nk_iload_n C zd_M_ofCell_128 rfl rfl ?_
        refine nk_iald C (Nat.le_of_ble_eq_true rfl) rfl zd_M_ofCell_129 (fun x6 => ?_)
        refine nk_if_lt (tgt := 138) C zd_M_ofCell_130 (by decide) ?_ ?_
        · refine nk_aload_n C zd_M_ofCell_138 rfl rfl ?_
          refine nk_getR C (r := 3) za_M_16 (Nat.le_of_ble_eq_true rfl) rfl rfl zd_M_ofCell_139 ?_
          refine nk_iload_n C zd_M_ofCell_142 rfl rfl ?_
          refine nk_iald C (Nat.le_of_ble_eq_true rfl) rfl zd_M_ofCell_143 (fun x7 => ?_)
          refine nk_wk [true, false, false] ?_
          exact zs_M_ofCell_b144 C hR hr x7 m2
        · refine nk_bipush (v := 7) C zd_M_ofCell_133 (by decide) ?_
          refine nk_goto (tgt := 144) C zd_M_ofCell_135 (by decide) ?_
          refine nk_wk [true, false, false] ?_
          exact zs_M_ofCell_b144 C hR hr (7 : Int32) m2
      refine nk_tbl C (4 : Int32) (off := 85) (tgt := 145) zd_M_ofCell_60 ⟨by decide, by decide, by decide, by decide⟩ ?_ (fun h4 => ?_)
      · refine nk_aload_n C zd_M_ofCell_145 rfl rfl ?_
        refine nk_getR C (r := 9) za_M_34 (Nat.le_of_ble_eq_true rfl) rfl rfl zd_M_ofCell_146 ?_
        refine nk_iload_n C zd_M_ofCell_149 rfl rfl ?_
        refine nk_iald C (Nat.le_of_ble_eq_true rfl) rfl zd_M_ofCell_150 (fun x8 => ?_)
        refine nk_if_lt (tgt := 158) C zd_M_ofCell_151 (by decide) ?_ ?_
        · refine nk_iconst (v := 0) C zd_M_ofCell_158 (by decide) ?_
          refine nk_wk [true, false, false] ?_
          exact zs_M_ofCell_b159 C hR hr (0 : Int32) m2
        · refine nk_iconst (v := 1) C zd_M_ofCell_154 (by decide) ?_
          refine nk_goto (tgt := 159) C zd_M_ofCell_155 (by decide) ?_
          refine nk_wk [true, false, false] ?_
          exact zs_M_ofCell_b159 C hR hr (1 : Int32) m2
      refine nk_tbl C (5 : Int32) (off := 100) (tgt := 160) zd_M_ofCell_60 ⟨by decide, by decide, by decide, by decide⟩ ?_ (fun h5 => ?_)
      · refine nk_aload_n C zd_M_ofCell_160 rfl rfl ?_
        refine nk_getR C (r := 9) za_M_34 (Nat.le_of_ble_eq_true rfl) rfl rfl zd_M_ofCell_161 ?_
        refine nk_iload_n C zd_M_ofCell_164 rfl rfl ?_
        refine nk_iald C (Nat.le_of_ble_eq_true rfl) rfl zd_M_ofCell_165 (fun x9 => ?_)
        exact nk_iret C hr zd_M_ofCell_166
      refine nk_tbl C (6 : Int32) (off := 107) (tgt := 167) zd_M_ofCell_60 ⟨by decide, by decide, by decide, by decide⟩ ?_ (fun h6 => ?_)
      · refine nk_aload_n C zd_M_ofCell_167 rfl rfl ?_
        refine nk_getR C (r := 12) za_M_43 (Nat.le_of_ble_eq_true rfl) rfl rfl zd_M_ofCell_168 ?_
        refine nk_iload_n C zd_M_ofCell_171 rfl rfl ?_
        refine nk_iald C (Nat.le_of_ble_eq_true rfl) rfl zd_M_ofCell_172 (fun x10 => ?_)
        exact nk_iret C hr zd_M_ofCell_173
      refine nk_tblD C (tgt := 174) zd_M_ofCell_60 (by
          have g0 := nk_neK (i := 0) (by decide) h0; have g1 := nk_neK (i := 1) (by decide) h1; have g2 := nk_neK (i := 2) (by decide) h2; have g3 := nk_neK (i := 3) (by decide) h3; have g4 := nk_neK (i := 4) (by decide) h4; have g5 := nk_neK (i := 5) (by decide) h5; have g6 := nk_neK (i := 6) (by decide) h6
          by_cases a0 : Int32.toInt a2 < 0
          · exact Or.inl a0
          by_cases b0 : 6 < Int32.toInt a2
          · exact Or.inr (Or.inl b0)
          exfalso; omega) (by decide) ?_
      refine nk_bipush (v := -2) C zd_M_ofCell_174 (by decide) ?_
      exact nk_iret C hr zd_M_ofCell_176
    · refine nk_iload_n C zd_M_ofCell_24 rfl rfl ?_
      refine nk_bipush (v := 10) C zd_M_ofCell_25 (by decide) ?_
      refine nk_isub C zd_M_ofCell_27 ?_
      refine nk_aload_n C zd_M_ofCell_28 rfl rfl ?_
      refine nk_getR C (r := 3) za_M_16 (Nat.le_of_ble_eq_true rfl) rfl rfl zd_M_ofCell_29 ?_
      refine nk_iload_n C zd_M_ofCell_32 rfl rfl ?_
      refine nk_iald C (Nat.le_of_ble_eq_true rfl) rfl zd_M_ofCell_33 (fun x11 => ?_)
      refine nk_callSi C [.int x11] zv_M_125 hR (zc_M_partsOf x11 m2) (by omega) rfl rfl (Nat.le_of_ble_eq_true rfl) zd_M_ofCell_34 (fun r12 m4 => ?_)
      refine nk_icmp_ge (tgt := 56) C zd_M_ofCell_37 (by decide) ?_ ?_
      · refine nk_bipush (v := -9) C zd_M_ofCell_56 (by decide) ?_
        refine nk_wk [true, false, false] ?_
        exact zs_M_ofCell_b58 C hR hr (-9 : Int32) m4
      · refine nk_aload_n C zd_M_ofCell_40 rfl rfl ?_
        refine nk_getR C (r := 4) za_M_19 (Nat.le_of_ble_eq_true rfl) rfl rfl zd_M_ofCell_41 ?_
        refine nk_iconst (v := 3) C zd_M_ofCell_44 (by decide) ?_
        refine nk_iload_n C zd_M_ofCell_45 rfl rfl ?_
        refine nk_imul C zd_M_ofCell_46 ?_
        refine nk_iload_n C zd_M_ofCell_47 rfl rfl ?_
        refine nk_iadd C zd_M_ofCell_48 ?_
        refine nk_bipush (v := 10) C zd_M_ofCell_49 (by decide) ?_
        refine nk_isub C zd_M_ofCell_51 ?_
        refine nk_iald C (Nat.le_of_ble_eq_true rfl) rfl zd_M_ofCell_52 (fun x13 => ?_)
        refine nk_goto (tgt := 58) C zd_M_ofCell_53 (by decide) ?_
        refine nk_wk [true, false, false] ?_
        exact zs_M_ofCell_b58 C hR hr x13 m4
  · refine nk_iconst (v := -1) C zd_M_ofCell_8 (by decide) ?_
    exact nk_iret C hr zd_M_ofCell_9
theorem zd_M_isPrice_0 : decode zb_M_isPrice 0 = .ok (.iload_n 0, 1) := by decide +kernel
theorem zd_M_isPrice_1 : decode zb_M_isPrice 1 = .ok (.i2l, 1) := by decide +kernel
theorem zd_M_isPrice_2 : decode zb_M_isPrice 2 = .ok (.lconst 1, 1) := by decide +kernel
theorem zd_M_isPrice_3 : decode zb_M_isPrice 3 = .ok (.ldc2_w 128, 3) := by decide +kernel
theorem zd_M_isPrice_6 : decode zb_M_isPrice 6 = .ok (.invokestatic 107, 3) := by decide +kernel
theorem zd_M_isPrice_9 : decode zb_M_isPrice 9 = .ok (.ireturn, 1) := by decide +kernel
def zf_M_isPrice  (a1 : Int32) (m0 : nk_M) : Option (Int32 × nk_M) := nk_bd (zf_M_in (a1.toInt64) (1 : Int64) (9 : Int64) m0) (fun r1 m1 => nk_zr r1 m1)
set_option maxHeartbeats 4000000 in
set_option maxRecDepth 100000 in
theorem zc_M_isPrice {l : Launch} {G : nk_V}   (a1 : Int32) (m0 : nk_M) : nk_Ct l nk_wR G 2 zy_M_isPrice zb_M_isPrice 1 (some .boolean) nk_oi [.int a1] m0 (zf_M_isPrice  a1 m0) := by
  refine nk_ent (own := "NeedOnceModel") (lv := [.int a1]) 0 rfl (by decide) (Nat.le_of_ble_eq_true rfl) rfl (fun X hl hR C hr => ?_)
  subst hl
  unfold zf_M_isPrice
  refine nk_iload_n C zd_M_isPrice_0 rfl rfl ?_
  refine nk_i2l C zd_M_isPrice_1 ?_
  refine nk_lconst (v := 1) C zd_M_isPrice_2 (by decide) ?_
  refine nk_ldc2 (v := 9) C zw_734 zd_M_isPrice_3 ?_
  refine nk_callSi C [.long (a1.toInt64), .long (1 : Int64), .long (9 : Int64)] zv_M_107 hR (zc_M_in (a1.toInt64) (1 : Int64) (9 : Int64) m0) (by omega) rfl rfl (Nat.le_of_ble_eq_true rfl) zd_M_isPrice_6 (fun r1 m1 => ?_)
  exact nk_zret C hr zd_M_isPrice_9
theorem zd_M_price_0 : decode zb_M_price 0 = .ok (.aload_n 0, 1) := by decide +kernel
theorem zd_M_price_1 : decode zb_M_price 1 = .ok (.iload_n 1, 1) := by decide +kernel
theorem zd_M_price_2 : decode zb_M_price 2 = .ok (.invokevirtual 240, 3) := by decide +kernel
theorem zd_M_price_5 : decode zb_M_price 5 = .ok (.ifCond .eq 5, 3) := by decide +kernel
theorem zd_M_price_8 : decode zb_M_price 8 = .ok (.iconst (-1), 1) := by decide +kernel
theorem zd_M_price_9 : decode zb_M_price 9 = .ok (.ireturn, 1) := by decide +kernel
theorem zd_M_price_10 : decode zb_M_price 10 = .ok (.iload_n 2, 1) := by decide +kernel
theorem zd_M_price_11 : decode zb_M_price 11 = .ok (.invokestatic 247, 3) := by decide +kernel
theorem zd_M_price_14 : decode zb_M_price 14 = .ok (.ifCond .ne 6, 3) := by decide +kernel
theorem zd_M_price_17 : decode zb_M_price 17 = .ok (.bipush (-2), 2) := by decide +kernel
theorem zd_M_price_19 : decode zb_M_price 19 = .ok (.ireturn, 1) := by decide +kernel
theorem zd_M_price_20 : decode zb_M_price 20 = .ok (.aload_n 0, 1) := by decide +kernel
theorem zd_M_price_21 : decode zb_M_price 21 = .ok (.getfield 13, 3) := by decide +kernel
theorem zd_M_price_24 : decode zb_M_price 24 = .ok (.iload_n 1, 1) := by decide +kernel
theorem zd_M_price_25 : decode zb_M_price 25 = .ok (.iaload, 1) := by decide +kernel
theorem zd_M_price_26 : decode zb_M_price 26 = .ok (.istore_n 3, 1) := by decide +kernel
theorem zd_M_price_27 : decode zb_M_price 27 = .ok (.aload_n 0, 1) := by decide +kernel
theorem zd_M_price_28 : decode zb_M_price 28 = .ok (.getfield 13, 3) := by decide +kernel
theorem zd_M_price_31 : decode zb_M_price 31 = .ok (.iload_n 1, 1) := by decide +kernel
theorem zd_M_price_32 : decode zb_M_price 32 = .ok (.iload_n 2, 1) := by decide +kernel
theorem zd_M_price_33 : decode zb_M_price 33 = .ok (.iastore, 1) := by decide +kernel
theorem zd_M_price_34 : decode zb_M_price 34 = .ok (.iload_n 3, 1) := by decide +kernel
theorem zd_M_price_35 : decode zb_M_price 35 = .ok (.ireturn, 1) := by decide +kernel
def zf_M_price  (a1 : Int32) (a2 : Int32) (m0 : nk_M) : Option (Int32 × nk_M) := nk_bd (zf_M_noOne a1 m0) (fun r1 m1 => (if r1 = 0 then nk_bd (zf_M_isPrice a2 m1) (fun r2 m2 => (if r2 = 0 then some ((-2 : Int32), m2) else nk_ald m2 2 8 a1 (fun x3 => nk_ast m2 2 8 a1 a2 (fun m3 => some (x3, m3))))) else some ((-1 : Int32), m1)))
set_option maxHeartbeats 4000000 in
set_option maxRecDepth 100000 in
theorem zc_M_price {l : Launch} {G : nk_V}   (a1 : Int32) (a2 : Int32) (m0 : nk_M) : nk_Ct l nk_wR G 3 zy_M_price zb_M_price 4 (some .int) nk_oi [nk_r G 0, .int a1, .int a2] m0 (zf_M_price  a1 a2 m0) := by
  refine nk_ent (own := "NeedOnceModel") (lv := [nk_r G 0, .int a1, .int a2, .null]) 1 rfl (by decide) (Nat.le_of_ble_eq_true rfl) rfl (fun X hl hR C hr => ?_)
  subst hl
  unfold zf_M_price
  refine nk_aload_n C zd_M_price_0 rfl rfl ?_
  refine nk_iload_n C zd_M_price_1 rfl rfl ?_
  refine nk_callVi C [.int a1] zv_M_240 hR (zc_M_noOne a1 m0) (by omega) (Nat.le_of_ble_eq_true rfl) rfl rfl rfl rfl (Nat.le_of_ble_eq_true rfl) zd_M_price_2 (fun r1 m1 => ?_)
  refine nk_if_eq (tgt := 10) C zd_M_price_5 (by decide) ?_ ?_
  · refine nk_iload_n C zd_M_price_10 rfl rfl ?_
    refine nk_callSi C [.int a2] zv_M_247 hR (zc_M_isPrice a2 m1) (by omega) rfl rfl (Nat.le_of_ble_eq_true rfl) zd_M_price_11 (fun r2 m2 => ?_)
    refine nk_if_ne (tgt := 20) C zd_M_price_14 (by decide) ?_ ?_
    · refine nk_aload_n C zd_M_price_20 rfl rfl ?_
      refine nk_getR C (r := 2) za_M_13 (Nat.le_of_ble_eq_true rfl) rfl rfl zd_M_price_21 ?_
      refine nk_iload_n C zd_M_price_24 rfl rfl ?_
      refine nk_iald C (Nat.le_of_ble_eq_true rfl) rfl zd_M_price_25 (fun x3 => ?_)
      refine nk_istore_n C zd_M_price_26 rfl (Nat.le_of_ble_eq_true rfl) rfl ?_
      refine nk_aload_n C zd_M_price_27 rfl rfl ?_
      refine nk_getR C (r := 2) za_M_13 (Nat.le_of_ble_eq_true rfl) rfl rfl zd_M_price_28 ?_
      refine nk_iload_n C zd_M_price_31 rfl rfl ?_
      refine nk_iload_n C zd_M_price_32 rfl rfl ?_
      refine nk_iast C (Nat.le_of_ble_eq_true rfl) rfl zd_M_price_33 (fun m3 => ?_)
      refine nk_iload_n C zd_M_price_34 rfl rfl ?_
      exact nk_iret C hr zd_M_price_35
    · refine nk_bipush (v := -2) C zd_M_price_17 (by decide) ?_
      exact nk_iret C hr zd_M_price_19
  · refine nk_iconst (v := -1) C zd_M_price_8 (by decide) ?_
    exact nk_iret C hr zd_M_price_9
theorem zd_M_isOn_0 : decode zb_M_isOn 0 = .ok (.iconst 0, 1) := by decide +kernel
theorem zd_M_isOn_1 : decode zb_M_isOn 1 = .ok (.istore_n 2, 1) := by decide +kernel
theorem zd_M_isOn_2 : decode zb_M_isOn 2 = .ok (.iconst 0, 1) := by decide +kernel
theorem zd_M_isOn_3 : decode zb_M_isOn 3 = .ok (.istore_n 3, 1) := by decide +kernel
theorem zd_M_isOn_4 : decode zb_M_isOn 4 = .ok (.iload_n 3, 1) := by decide +kernel
theorem zd_M_isOn_5 : decode zb_M_isOn 5 = .ok (.aload_n 0, 1) := by decide +kernel
theorem zd_M_isOn_6 : decode zb_M_isOn 6 = .ok (.getfield 184, 3) := by decide +kernel
theorem zd_M_isOn_9 : decode zb_M_isOn 9 = .ok (.if_icmp .ge 29, 3) := by decide +kernel
theorem zd_M_isOn_12 : decode zb_M_isOn 12 = .ok (.iload_n 2, 1) := by decide +kernel
theorem zd_M_isOn_13 : decode zb_M_isOn 13 = .ok (.ifCond .ne 13, 3) := by decide +kernel
theorem zd_M_isOn_16 : decode zb_M_isOn 16 = .ok (.aload_n 0, 1) := by decide +kernel
theorem zd_M_isOn_17 : decode zb_M_isOn 17 = .ok (.getfield 46, 3) := by decide +kernel
theorem zd_M_isOn_20 : decode zb_M_isOn 20 = .ok (.iload_n 3, 1) := by decide +kernel
theorem zd_M_isOn_21 : decode zb_M_isOn 21 = .ok (.iaload, 1) := by decide +kernel
theorem zd_M_isOn_22 : decode zb_M_isOn 22 = .ok (.iload_n 1, 1) := by decide +kernel
theorem zd_M_isOn_23 : decode zb_M_isOn 23 = .ok (.if_icmp .ne 7, 3) := by decide +kernel
theorem zd_M_isOn_26 : decode zb_M_isOn 26 = .ok (.iconst 1, 1) := by decide +kernel
theorem zd_M_isOn_27 : decode zb_M_isOn 27 = .ok (.goto 4, 3) := by decide +kernel
theorem zd_M_isOn_30 : decode zb_M_isOn 30 = .ok (.iconst 0, 1) := by decide +kernel
theorem zd_M_isOn_31 : decode zb_M_isOn 31 = .ok (.istore_n 2, 1) := by decide +kernel
theorem zd_M_isOn_32 : decode zb_M_isOn 32 = .ok (.iinc 3 1, 3) := by decide +kernel
theorem zd_M_isOn_35 : decode zb_M_isOn 35 = .ok (.goto (-31), 3) := by decide +kernel
theorem zd_M_isOn_38 : decode zb_M_isOn 38 = .ok (.iload_n 2, 1) := by decide +kernel
theorem zd_M_isOn_39 : decode zb_M_isOn 39 = .ok (.ireturn, 1) := by decide +kernel
def zf_M_isOn_b31 (rc4 : Int32 → Int32 → Int32 → nk_M → Option (Int32 × nk_M)) (y1 : Int32) (y3 : Int32) (u0 : Int32) (m0 : nk_M) : Option (Int32 × nk_M) := (rc4 y1 u0 (y3 + 1) m0)
set_option maxHeartbeats 4000000 in
set_option maxRecDepth 100000 in
theorem zs_M_isOn_b31 {G : nk_V} {X : nk_X}   (C : nk_C "NeedOnceModel" zb_M_isOn 4 nk_wR G X) (hR : X.2.2.2.1 = nk_rm 1) (hr : X.2.2.2.2.2.2.2.2.1.sig.returnType = (some .boolean)) (rc4 : Int32 → Int32 → Int32 → nk_M → Option (Int32 × nk_M)) (hr4 : ∀ (y1 : Int32) (y2 : Int32) (y3 : Int32) (m0 : nk_M), nk_Sim nk_wR G X 4 nk_oi 4 [nk_r G 0, .int y1, .int y2, .int y3] [] m0 (rc4 y1 y2 y3 m0)) : ∀ (y1 : Int32) (y3 : Int32) (u0 : Int32) (m0 : nk_M), nk_Sim nk_wR G X 4 nk_oi 31 [nk_r G 0, .int y1, .null, .int y3] [.int u0] m0 (zf_M_isOn_b31 rc4 y1 y3 u0 m0) := by
  intro y1 y3 u0 m0
  unfold zf_M_isOn_b31
  refine nk_istore_n C zd_M_isOn_31 rfl (Nat.le_of_ble_eq_true rfl) rfl ?_
  refine nk_iinc (v0 := y3 + 1) C zd_M_isOn_32 rfl (nk_inc _ (by decide)) (Nat.le_of_ble_eq_true rfl) rfl ?_
  refine nk_goto (tgt := 4) C zd_M_isOn_35 (by decide) ?_
  exact hr4 y1 u0 (y3 + 1) m0
def zf_M_isOn_b26 (rc4 : Int32 → Int32 → Int32 → nk_M → Option (Int32 × nk_M)) (y1 : Int32) (y3 : Int32) (m0 : nk_M) : Option (Int32 × nk_M) := (zf_M_isOn_b31 rc4 y1 y3 (1 : Int32) m0)
set_option maxHeartbeats 4000000 in
set_option maxRecDepth 100000 in
theorem zs_M_isOn_b26 {G : nk_V} {X : nk_X}   (C : nk_C "NeedOnceModel" zb_M_isOn 4 nk_wR G X) (hR : X.2.2.2.1 = nk_rm 1) (hr : X.2.2.2.2.2.2.2.2.1.sig.returnType = (some .boolean)) (rc4 : Int32 → Int32 → Int32 → nk_M → Option (Int32 × nk_M)) (hr4 : ∀ (y1 : Int32) (y2 : Int32) (y3 : Int32) (m0 : nk_M), nk_Sim nk_wR G X 4 nk_oi 4 [nk_r G 0, .int y1, .int y2, .int y3] [] m0 (rc4 y1 y2 y3 m0)) : ∀ (y1 : Int32) (y3 : Int32) (m0 : nk_M), nk_Sim nk_wR G X 4 nk_oi 26 [nk_r G 0, .int y1, .null, .int y3] [] m0 (zf_M_isOn_b26 rc4 y1 y3 m0) := by
  intro y1 y3 m0
  unfold zf_M_isOn_b26
  refine nk_iconst (v := 1) C zd_M_isOn_26 (by decide) ?_
  refine nk_goto (tgt := 31) C zd_M_isOn_27 (by decide) ?_
  exact zs_M_isOn_b31 C hR hr rc4 hr4 y1 y3 (1 : Int32) m0
def zf_M_isOn_b4  : Nat → Int32 → Int32 → Int32 → nk_M → Option (Int32 × nk_M)
  | 0, _, _, _, _ => none
  | n0 + 1, y1, y2, y3, m0 => (if (m0 0 17) ≤ y3 then nk_zr y2 m0 else (if y2 = 0 then nk_ald m0 13 8 y3 (fun x1 => (if x1 = y1 then (zf_M_isOn_b26 (zf_M_isOn_b4 n0) y1 y3 m0) else (zf_M_isOn_b31 (zf_M_isOn_b4 n0) y1 y3 (0 : Int32) m0))) else (zf_M_isOn_b26 (zf_M_isOn_b4 n0) y1 y3 m0)))
set_option maxHeartbeats 4000000 in
set_option maxRecDepth 100000 in
theorem zs_M_isOn_b4 {G : nk_V} {X : nk_X}   (C : nk_C "NeedOnceModel" zb_M_isOn 4 nk_wR G X) (hR : X.2.2.2.1 = nk_rm 1) (hr : X.2.2.2.2.2.2.2.2.1.sig.returnType = (some .boolean))  : ∀ (n0 : Nat) (y1 : Int32) (y2 : Int32) (y3 : Int32) (m0 : nk_M), nk_Sim nk_wR G X 4 nk_oi 4 [nk_r G 0, .int y1, .int y2, .int y3] [] m0 (zf_M_isOn_b4 n0 y1 y2 y3 m0) := by
  intro n0
  induction n0 with
  | zero => intros; exact nk_none
  | succ n0 ih =>
    intro y1 y2 y3 m0
    rw [zf_M_isOn_b4]
    refine nk_iload_n C zd_M_isOn_4 rfl rfl ?_
    refine nk_aload_n C zd_M_isOn_5 rfl rfl ?_
    refine nk_getI C za_M_184 (Nat.le_of_ble_eq_true rfl) rfl rfl zd_M_isOn_6 ?_
    refine nk_icmp_ge (tgt := 38) C zd_M_isOn_9 (by decide) ?_ ?_
    · refine nk_iload_n C zd_M_isOn_38 rfl rfl ?_
      exact nk_zret C hr zd_M_isOn_39
    · refine nk_iload_n C zd_M_isOn_12 rfl rfl ?_
      refine nk_if_ne (tgt := 26) C zd_M_isOn_13 (by decide) ?_ ?_
      · refine nk_wk [true, true, false, true] ?_
        exact zs_M_isOn_b26 C hR hr (zf_M_isOn_b4 n0) ih y1 y3 m0
      · refine nk_aload_n C zd_M_isOn_16 rfl rfl ?_
        refine nk_getR C (r := 13) za_M_46 (Nat.le_of_ble_eq_true rfl) rfl rfl zd_M_isOn_17 ?_
        refine nk_iload_n C zd_M_isOn_20 rfl rfl ?_
        refine nk_iald C (Nat.le_of_ble_eq_true rfl) rfl zd_M_isOn_21 (fun x1 => ?_)
        refine nk_iload_n C zd_M_isOn_22 rfl rfl ?_
        refine nk_icmp_ne (tgt := 30) C zd_M_isOn_23 (by decide) ?_ ?_
        · refine nk_iconst (v := 0) C zd_M_isOn_30 (by decide) ?_
          refine nk_wk [true, true, false, true] ?_
          exact zs_M_isOn_b31 C hR hr (zf_M_isOn_b4 n0) ih y1 y3 (0 : Int32) m0
        · refine nk_wk [true, true, false, true] ?_
          exact zs_M_isOn_b26 C hR hr (zf_M_isOn_b4 n0) ih y1 y3 m0
def zf_M_isOn  (a1 : Int32) (m0 : nk_M) : Option (Int32 × nk_M) := (zf_M_isOn_b4 nk_fu a1 (0 : Int32) (0 : Int32) m0)
set_option maxHeartbeats 4000000 in
set_option maxRecDepth 100000 in
theorem zc_M_isOn {l : Launch} {G : nk_V}   (a1 : Int32) (m0 : nk_M) : nk_Ct l nk_wR G 1 zy_M_isOn zb_M_isOn 4 (some .boolean) nk_oi [nk_r G 0, .int a1] m0 (zf_M_isOn  a1 m0) := by
  refine nk_ent (own := "NeedOnceModel") (lv := [nk_r G 0, .int a1, .null, .null]) 2 rfl (by decide) (Nat.le_of_ble_eq_true rfl) rfl (fun X hl hR C hr => ?_)
  subst hl
  unfold zf_M_isOn
  refine nk_iconst (v := 0) C zd_M_isOn_0 (by decide) ?_
  refine nk_istore_n C zd_M_isOn_1 rfl (Nat.le_of_ble_eq_true rfl) rfl ?_
  refine nk_iconst (v := 0) C zd_M_isOn_2 (by decide) ?_
  refine nk_istore_n C zd_M_isOn_3 rfl (Nat.le_of_ble_eq_true rfl) rfl ?_
  exact zs_M_isOn_b4 C hR hr nk_fu a1 (0 : Int32) (0 : Int32) m0
theorem zd_M_wants_0 : decode zb_M_wants 0 = .ok (.aload_n 0, 1) := by decide +kernel
theorem zd_M_wants_1 : decode zb_M_wants 1 = .ok (.getfield 187, 3) := by decide +kernel
theorem zd_M_wants_4 : decode zb_M_wants 4 = .ok (.ifCond .ne 43, 3) := by decide +kernel
theorem zd_M_wants_7 : decode zb_M_wants 7 = .ok (.aload_n 0, 1) := by decide +kernel
theorem zd_M_wants_8 : decode zb_M_wants 8 = .ok (.getfield 34, 3) := by decide +kernel
theorem zd_M_wants_11 : decode zb_M_wants 11 = .ok (.iload_n 1, 1) := by decide +kernel
theorem zd_M_wants_12 : decode zb_M_wants 12 = .ok (.iaload, 1) := by decide +kernel
theorem zd_M_wants_13 : decode zb_M_wants 13 = .ok (.ifCond .lt 34, 3) := by decide +kernel
theorem zd_M_wants_16 : decode zb_M_wants 16 = .ok (.aload_n 0, 1) := by decide +kernel
theorem zd_M_wants_17 : decode zb_M_wants 17 = .ok (.aload_n 0, 1) := by decide +kernel
theorem zd_M_wants_18 : decode zb_M_wants 18 = .ok (.getfield 34, 3) := by decide +kernel
theorem zd_M_wants_21 : decode zb_M_wants 21 = .ok (.iload_n 1, 1) := by decide +kernel
theorem zd_M_wants_22 : decode zb_M_wants 22 = .ok (.iaload, 1) := by decide +kernel
theorem zd_M_wants_23 : decode zb_M_wants 23 = .ok (.putfield 191, 3) := by decide +kernel
theorem zd_M_wants_26 : decode zb_M_wants 26 = .ok (.aload_n 0, 1) := by decide +kernel
theorem zd_M_wants_27 : decode zb_M_wants 27 = .ok (.aload_n 0, 1) := by decide +kernel
theorem zd_M_wants_28 : decode zb_M_wants 28 = .ok (.getfield 37, 3) := by decide +kernel
theorem zd_M_wants_31 : decode zb_M_wants 31 = .ok (.iload_n 1, 1) := by decide +kernel
theorem zd_M_wants_32 : decode zb_M_wants 32 = .ok (.iaload, 1) := by decide +kernel
theorem zd_M_wants_33 : decode zb_M_wants 33 = .ok (.putfield 194, 3) := by decide +kernel
theorem zd_M_wants_36 : decode zb_M_wants 36 = .ok (.aload_n 0, 1) := by decide +kernel
theorem zd_M_wants_37 : decode zb_M_wants 37 = .ok (.aload_n 0, 1) := by decide +kernel
theorem zd_M_wants_38 : decode zb_M_wants 38 = .ok (.getfield 40, 3) := by decide +kernel
theorem zd_M_wants_41 : decode zb_M_wants 41 = .ok (.iload_n 1, 1) := by decide +kernel
theorem zd_M_wants_42 : decode zb_M_wants 42 = .ok (.iaload, 1) := by decide +kernel
theorem zd_M_wants_43 : decode zb_M_wants 43 = .ok (.putfield 197, 3) := by decide +kernel
theorem zd_M_wants_46 : decode zb_M_wants 46 = .ok (.return_, 1) := by decide +kernel
theorem zd_M_wants_47 : decode zb_M_wants 47 = .ok (.aload_n 0, 1) := by decide +kernel
theorem zd_M_wants_48 : decode zb_M_wants 48 = .ok (.iload_n 1, 1) := by decide +kernel
theorem zd_M_wants_49 : decode zb_M_wants 49 = .ok (.invokevirtual 200, 3) := by decide +kernel
theorem zd_M_wants_52 : decode zb_M_wants 52 = .ok (.ifCond .eq 15, 3) := by decide +kernel
theorem zd_M_wants_55 : decode zb_M_wants 55 = .ok (.aload_n 0, 1) := by decide +kernel
theorem zd_M_wants_56 : decode zb_M_wants 56 = .ok (.bipush 101, 2) := by decide +kernel
theorem zd_M_wants_58 : decode zb_M_wants 58 = .ok (.putfield 191, 3) := by decide +kernel
theorem zd_M_wants_61 : decode zb_M_wants 61 = .ok (.aload_n 0, 1) := by decide +kernel
theorem zd_M_wants_62 : decode zb_M_wants 62 = .ok (.iconst 1, 1) := by decide +kernel
theorem zd_M_wants_63 : decode zb_M_wants 63 = .ok (.putfield 203, 3) := by decide +kernel
theorem zd_M_wants_66 : decode zb_M_wants 66 = .ok (.return_, 1) := by decide +kernel
theorem zd_M_wants_67 : decode zb_M_wants 67 = .ok (.aload_n 0, 1) := by decide +kernel
theorem zd_M_wants_68 : decode zb_M_wants 68 = .ok (.getfield 46, 3) := by decide +kernel
theorem zd_M_wants_71 : decode zb_M_wants 71 = .ok (.aload_n 0, 1) := by decide +kernel
theorem zd_M_wants_72 : decode zb_M_wants 72 = .ok (.getfield 184, 3) := by decide +kernel
theorem zd_M_wants_75 : decode zb_M_wants 75 = .ok (.iload_n 1, 1) := by decide +kernel
theorem zd_M_wants_76 : decode zb_M_wants 76 = .ok (.iastore, 1) := by decide +kernel
theorem zd_M_wants_77 : decode zb_M_wants 77 = .ok (.aload_n 0, 1) := by decide +kernel
theorem zd_M_wants_78 : decode zb_M_wants 78 = .ok (.getfield 49, 3) := by decide +kernel
theorem zd_M_wants_81 : decode zb_M_wants 81 = .ok (.aload_n 0, 1) := by decide +kernel
theorem zd_M_wants_82 : decode zb_M_wants 82 = .ok (.getfield 184, 3) := by decide +kernel
theorem zd_M_wants_85 : decode zb_M_wants 85 = .ok (.iconst 0, 1) := by decide +kernel
theorem zd_M_wants_86 : decode zb_M_wants 86 = .ok (.iastore, 1) := by decide +kernel
theorem zd_M_wants_87 : decode zb_M_wants 87 = .ok (.aload_n 0, 1) := by decide +kernel
theorem zd_M_wants_88 : decode zb_M_wants 88 = .ok (.dup, 1) := by decide +kernel
theorem zd_M_wants_89 : decode zb_M_wants 89 = .ok (.getfield 184, 3) := by decide +kernel
theorem zd_M_wants_92 : decode zb_M_wants 92 = .ok (.iconst 1, 1) := by decide +kernel
theorem zd_M_wants_93 : decode zb_M_wants 93 = .ok (.iadd, 1) := by decide +kernel
theorem zd_M_wants_94 : decode zb_M_wants 94 = .ok (.putfield 184, 3) := by decide +kernel
theorem zd_M_wants_97 : decode zb_M_wants 97 = .ok (.aload_n 0, 1) := by decide +kernel
theorem zd_M_wants_98 : decode zb_M_wants 98 = .ok (.dup, 1) := by decide +kernel
theorem zd_M_wants_99 : decode zb_M_wants 99 = .ok (.getfield 206, 3) := by decide +kernel
theorem zd_M_wants_102 : decode zb_M_wants 102 = .ok (.iconst 1, 1) := by decide +kernel
theorem zd_M_wants_103 : decode zb_M_wants 103 = .ok (.iadd, 1) := by decide +kernel
theorem zd_M_wants_104 : decode zb_M_wants 104 = .ok (.putfield 206, 3) := by decide +kernel
theorem zd_M_wants_107 : decode zb_M_wants 107 = .ok (.aload_n 0, 1) := by decide +kernel
theorem zd_M_wants_108 : decode zb_M_wants 108 = .ok (.aload_n 0, 1) := by decide +kernel
theorem zd_M_wants_109 : decode zb_M_wants 109 = .ok (.getfield 184, 3) := by decide +kernel
theorem zd_M_wants_112 : decode zb_M_wants 112 = .ok (.aload_n 0, 1) := by decide +kernel
theorem zd_M_wants_113 : decode zb_M_wants 113 = .ok (.getfield 209, 3) := by decide +kernel
theorem zd_M_wants_116 : decode zb_M_wants 116 = .ok (.if_icmp .le 10, 3) := by decide +kernel
theorem zd_M_wants_119 : decode zb_M_wants 119 = .ok (.aload_n 0, 1) := by decide +kernel
theorem zd_M_wants_120 : decode zb_M_wants 120 = .ok (.getfield 184, 3) := by decide +kernel
theorem zd_M_wants_123 : decode zb_M_wants 123 = .ok (.goto 7, 3) := by decide +kernel
theorem zd_M_wants_126 : decode zb_M_wants 126 = .ok (.aload_n 0, 1) := by decide +kernel
theorem zd_M_wants_127 : decode zb_M_wants 127 = .ok (.getfield 209, 3) := by decide +kernel
theorem zd_M_wants_130 : decode zb_M_wants 130 = .ok (.putfield 209, 3) := by decide +kernel
theorem zd_M_wants_133 : decode zb_M_wants 133 = .ok (.aload_n 0, 1) := by decide +kernel
theorem zd_M_wants_134 : decode zb_M_wants 134 = .ok (.dup, 1) := by decide +kernel
theorem zd_M_wants_135 : decode zb_M_wants 135 = .ok (.getfield 212, 3) := by decide +kernel
theorem zd_M_wants_138 : decode zb_M_wants 138 = .ok (.aload_n 0, 1) := by decide +kernel
theorem zd_M_wants_139 : decode zb_M_wants 139 = .ok (.getfield 187, 3) := by decide +kernel
theorem zd_M_wants_142 : decode zb_M_wants 142 = .ok (.ifCond .ne 16, 3) := by decide +kernel
theorem zd_M_wants_145 : decode zb_M_wants 145 = .ok (.aload_n 0, 1) := by decide +kernel
theorem zd_M_wants_146 : decode zb_M_wants 146 = .ok (.getfield 43, 3) := by decide +kernel
theorem zd_M_wants_149 : decode zb_M_wants 149 = .ok (.iload_n 1, 1) := by decide +kernel
theorem zd_M_wants_150 : decode zb_M_wants 150 = .ok (.iaload, 1) := by decide +kernel
theorem zd_M_wants_151 : decode zb_M_wants 151 = .ok (.ifCond .lt 7, 3) := by decide +kernel
theorem zd_M_wants_154 : decode zb_M_wants 154 = .ok (.iconst 0, 1) := by decide +kernel
theorem zd_M_wants_155 : decode zb_M_wants 155 = .ok (.goto 8, 3) := by decide +kernel
theorem zd_M_wants_158 : decode zb_M_wants 158 = .ok (.aload_n 0, 1) := by decide +kernel
theorem zd_M_wants_159 : decode zb_M_wants 159 = .ok (.iload_n 1, 1) := by decide +kernel
theorem zd_M_wants_160 : decode zb_M_wants 160 = .ok (.invokevirtual 215, 3) := by decide +kernel
theorem zd_M_wants_163 : decode zb_M_wants 163 = .ok (.iadd, 1) := by decide +kernel
theorem zd_M_wants_164 : decode zb_M_wants 164 = .ok (.putfield 212, 3) := by decide +kernel
theorem zd_M_wants_167 : decode zb_M_wants 167 = .ok (.return_, 1) := by decide +kernel
def zf_M_wants_b163  (u1 : Int32) (u2 : Int32) (m0 : nk_M) : Option (Unit × nk_M) := nk_pf m0 0 26 (u1 + u2) (fun m1 => some ((), m1))
set_option maxHeartbeats 4000000 in
set_option maxRecDepth 100000 in
theorem zs_M_wants_b163 {G : nk_V} {X : nk_X}   (C : nk_C "NeedOnceModel" zb_M_wants 2 nk_wR G X) (hR : X.2.2.2.1 = nk_rm 2) (hr : X.2.2.2.2.2.2.2.2.1.sig.returnType = none)  : ∀ (u1 : Int32) (u2 : Int32) (m0 : nk_M), nk_Sim nk_wR G X 2 nk_ov 163 [nk_r G 0, .null] [.int u2, .int u1, nk_r G 0] m0 (zf_M_wants_b163 u1 u2 m0) := by
  intro u1 u2 m0
  unfold zf_M_wants_b163
  refine nk_iadd C zd_M_wants_163 ?_
  refine nk_putI C zp_M_212 (Nat.le_of_ble_eq_true rfl) rfl rfl zd_M_wants_164 (fun m1 => ?_)
  exact nk_vret C hr zd_M_wants_167
def zf_M_wants_b158  (y1 : Int32) (u1 : Int32) (m0 : nk_M) : Option (Unit × nk_M) := nk_bd (zf_M_cost y1 m0) (fun r1 m1 => (zf_M_wants_b163 u1 r1 m1))
set_option maxHeartbeats 4000000 in
set_option maxRecDepth 100000 in
theorem zs_M_wants_b158 {G : nk_V} {X : nk_X}   (C : nk_C "NeedOnceModel" zb_M_wants 2 nk_wR G X) (hR : X.2.2.2.1 = nk_rm 2) (hr : X.2.2.2.2.2.2.2.2.1.sig.returnType = none)  : ∀ (y1 : Int32) (u1 : Int32) (m0 : nk_M), nk_Sim nk_wR G X 2 nk_ov 158 [nk_r G 0, .int y1] [.int u1, nk_r G 0] m0 (zf_M_wants_b158 y1 u1 m0) := by
  intro y1 u1 m0
  unfold zf_M_wants_b158
  refine nk_aload_n C zd_M_wants_158 rfl rfl ?_
  refine nk_iload_n C zd_M_wants_159 rfl rfl ?_
  refine nk_callVi C [.int y1] zv_M_215 hR (zc_M_cost y1 m0) (by omega) (Nat.le_of_ble_eq_true rfl) rfl rfl rfl rfl (Nat.le_of_ble_eq_true rfl) zd_M_wants_160 (fun r1 m1 => ?_)
  refine nk_wk [true, false] ?_
  exact zs_M_wants_b163 C hR hr u1 r1 m1
def zf_M_wants_b130  (y1 : Int32) (u1 : Int32) (m0 : nk_M) : Option (Unit × nk_M) := nk_pf m0 0 25 u1 (fun m1 => (if (m1 0 29) = 0 then nk_ald m1 12 8 y1 (fun x1 => (if x1 < 0 then (zf_M_wants_b158 y1 (m1 0 26) m1) else (zf_M_wants_b163 (m1 0 26) (0 : Int32) m1))) else (zf_M_wants_b158 y1 (m1 0 26) m1)))
set_option maxHeartbeats 4000000 in
set_option maxRecDepth 100000 in
theorem zs_M_wants_b130 {G : nk_V} {X : nk_X}   (C : nk_C "NeedOnceModel" zb_M_wants 2 nk_wR G X) (hR : X.2.2.2.1 = nk_rm 2) (hr : X.2.2.2.2.2.2.2.2.1.sig.returnType = none)  : ∀ (y1 : Int32) (u1 : Int32) (m0 : nk_M), nk_Sim nk_wR G X 2 nk_ov 130 [nk_r G 0, .int y1] [.int u1, nk_r G 0] m0 (zf_M_wants_b130 y1 u1 m0) := by
  intro y1 u1 m0
  unfold zf_M_wants_b130
  refine nk_putI C zp_M_209 (Nat.le_of_ble_eq_true rfl) rfl rfl zd_M_wants_130 (fun m1 => ?_)
  refine nk_aload_n C zd_M_wants_133 rfl rfl ?_
  refine nk_dup C zd_M_wants_134 rfl ?_
  refine nk_getI C za_M_212 (Nat.le_of_ble_eq_true rfl) rfl rfl zd_M_wants_135 ?_
  refine nk_aload_n C zd_M_wants_138 rfl rfl ?_
  refine nk_getI C za_M_187 (Nat.le_of_ble_eq_true rfl) rfl rfl zd_M_wants_139 ?_
  refine nk_if_ne (tgt := 158) C zd_M_wants_142 (by decide) ?_ ?_
  · exact zs_M_wants_b158 C hR hr y1 (m1 0 26) m1
  · refine nk_aload_n C zd_M_wants_145 rfl rfl ?_
    refine nk_getR C (r := 12) za_M_43 (Nat.le_of_ble_eq_true rfl) rfl rfl zd_M_wants_146 ?_
    refine nk_iload_n C zd_M_wants_149 rfl rfl ?_
    refine nk_iald C (Nat.le_of_ble_eq_true rfl) rfl zd_M_wants_150 (fun x1 => ?_)
    refine nk_if_lt (tgt := 158) C zd_M_wants_151 (by decide) ?_ ?_
    · exact zs_M_wants_b158 C hR hr y1 (m1 0 26) m1
    · refine nk_iconst (v := 0) C zd_M_wants_154 (by decide) ?_
      refine nk_goto (tgt := 163) C zd_M_wants_155 (by decide) ?_
      refine nk_wk [true, false] ?_
      exact zs_M_wants_b163 C hR hr (m1 0 26) (0 : Int32) m1
def zf_M_wants_b47  (y1 : Int32) (m0 : nk_M) : Option (Unit × nk_M) := nk_bd (zf_M_isOn y1 m0) (fun r1 m1 => (if r1 = 0 then nk_ast m1 13 8 (m1 0 17) y1 (fun m2 => nk_ast m2 14 8 (m2 0 17) (0 : Int32) (fun m3 => nk_pf m3 0 17 ((m3 0 17) + (1 : Int32)) (fun m4 => nk_pf m4 0 24 ((m4 0 24) + (1 : Int32)) (fun m5 => (if (m5 0 17) ≤ (m5 0 25) then (zf_M_wants_b130 y1 (m5 0 25) m5) else (zf_M_wants_b130 y1 (m5 0 17) m5)))))) else nk_pf m1 0 21 (101 : Int32) (fun m6 => nk_pf m6 0 30 (1 : Int32) (fun m7 => some ((), m7)))))
set_option maxHeartbeats 4000000 in
set_option maxRecDepth 100000 in
theorem zs_M_wants_b47 {G : nk_V} {X : nk_X}   (C : nk_C "NeedOnceModel" zb_M_wants 2 nk_wR G X) (hR : X.2.2.2.1 = nk_rm 2) (hr : X.2.2.2.2.2.2.2.2.1.sig.returnType = none)  : ∀ (y1 : Int32) (m0 : nk_M), nk_Sim nk_wR G X 2 nk_ov 47 [nk_r G 0, .int y1] [] m0 (zf_M_wants_b47 y1 m0) := by
  intro y1 m0
  unfold zf_M_wants_b47
  refine nk_aload_n C zd_M_wants_47 rfl rfl ?_
  refine nk_iload_n C zd_M_wants_48 rfl rfl ?_
  refine nk_callVi C [.int y1] zv_M_200 hR (zc_M_isOn y1 m0) (by omega) (Nat.le_of_ble_eq_true rfl) rfl rfl rfl rfl (Nat.le_of_ble_eq_true rfl) zd_M_wants_49 (fun r1 m1 => ?_)
  refine nk_if_eq (tgt := 67) C zd_M_wants_52 (by decide) ?_ ?_
  · refine nk_aload_n C zd_M_wants_67 rfl rfl ?_
    refine nk_getR C (r := 13) za_M_46 (Nat.le_of_ble_eq_true rfl) rfl rfl zd_M_wants_68 ?_
    refine nk_aload_n C zd_M_wants_71 rfl rfl ?_
    refine nk_getI C za_M_184 (Nat.le_of_ble_eq_true rfl) rfl rfl zd_M_wants_72 ?_
    refine nk_iload_n C zd_M_wants_75 rfl rfl ?_
    refine nk_iast C (Nat.le_of_ble_eq_true rfl) rfl zd_M_wants_76 (fun m2 => ?_)
    refine nk_aload_n C zd_M_wants_77 rfl rfl ?_
    refine nk_getR C (r := 14) za_M_49 (Nat.le_of_ble_eq_true rfl) rfl rfl zd_M_wants_78 ?_
    refine nk_aload_n C zd_M_wants_81 rfl rfl ?_
    refine nk_getI C za_M_184 (Nat.le_of_ble_eq_true rfl) rfl rfl zd_M_wants_82 ?_
    refine nk_iconst (v := 0) C zd_M_wants_85 (by decide) ?_
    refine nk_iast C (Nat.le_of_ble_eq_true rfl) rfl zd_M_wants_86 (fun m3 => ?_)
    refine nk_aload_n C zd_M_wants_87 rfl rfl ?_
    refine nk_dup C zd_M_wants_88 rfl ?_
    refine nk_getI C za_M_184 (Nat.le_of_ble_eq_true rfl) rfl rfl zd_M_wants_89 ?_
    refine nk_iconst (v := 1) C zd_M_wants_92 (by decide) ?_
    refine nk_iadd C zd_M_wants_93 ?_
    refine nk_putI C zp_M_184 (Nat.le_of_ble_eq_true rfl) rfl rfl zd_M_wants_94 (fun m4 => ?_)
    refine nk_aload_n C zd_M_wants_97 rfl rfl ?_
    refine nk_dup C zd_M_wants_98 rfl ?_
    refine nk_getI C za_M_206 (Nat.le_of_ble_eq_true rfl) rfl rfl zd_M_wants_99 ?_
    refine nk_iconst (v := 1) C zd_M_wants_102 (by decide) ?_
    refine nk_iadd C zd_M_wants_103 ?_
    refine nk_putI C zp_M_206 (Nat.le_of_ble_eq_true rfl) rfl rfl zd_M_wants_104 (fun m5 => ?_)
    refine nk_aload_n C zd_M_wants_107 rfl rfl ?_
    refine nk_aload_n C zd_M_wants_108 rfl rfl ?_
    refine nk_getI C za_M_184 (Nat.le_of_ble_eq_true rfl) rfl rfl zd_M_wants_109 ?_
    refine nk_aload_n C zd_M_wants_112 rfl rfl ?_
    refine nk_getI C za_M_209 (Nat.le_of_ble_eq_true rfl) rfl rfl zd_M_wants_113 ?_
    refine nk_icmp_le (tgt := 126) C zd_M_wants_116 (by decide) ?_ ?_
    · refine nk_aload_n C zd_M_wants_126 rfl rfl ?_
      refine nk_getI C za_M_209 (Nat.le_of_ble_eq_true rfl) rfl rfl zd_M_wants_127 ?_
      exact zs_M_wants_b130 C hR hr y1 (m5 0 25) m5
    · refine nk_aload_n C zd_M_wants_119 rfl rfl ?_
      refine nk_getI C za_M_184 (Nat.le_of_ble_eq_true rfl) rfl rfl zd_M_wants_120 ?_
      refine nk_goto (tgt := 130) C zd_M_wants_123 (by decide) ?_
      exact zs_M_wants_b130 C hR hr y1 (m5 0 17) m5
  · refine nk_aload_n C zd_M_wants_55 rfl rfl ?_
    refine nk_bipush (v := 101) C zd_M_wants_56 (by decide) ?_
    refine nk_putI C zp_M_191 (Nat.le_of_ble_eq_true rfl) rfl rfl zd_M_wants_58 (fun m6 => ?_)
    refine nk_aload_n C zd_M_wants_61 rfl rfl ?_
    refine nk_iconst (v := 1) C zd_M_wants_62 (by decide) ?_
    refine nk_put C zp_M_203 (Nat.le_of_ble_eq_true rfl) rfl rfl (by decide) (by decide) zd_M_wants_63 (fun m7 => ?_)
    exact nk_vret C hr zd_M_wants_66
def zf_M_wants  (a1 : Int32) (m0 : nk_M) : Option (Unit × nk_M) := (if (m0 0 29) = 0 then nk_ald m0 9 8 a1 (fun x1 => (if x1 < 0 then (zf_M_wants_b47 a1 m0) else nk_ald m0 9 8 a1 (fun x2 => nk_pf m0 0 21 x2 (fun m1 => nk_ald m1 10 8 a1 (fun x3 => nk_pf m1 0 22 x3 (fun m2 => nk_ald m2 11 8 a1 (fun x4 => nk_pf m2 0 23 x4 (fun m3 => some ((), m3))))))))) else (zf_M_wants_b47 a1 m0))
set_option maxHeartbeats 4000000 in
set_option maxRecDepth 100000 in
theorem zc_M_wants {l : Launch} {G : nk_V}   (a1 : Int32) (m0 : nk_M) : nk_Ct l nk_wR G 2 zy_M_wants zb_M_wants 2 none nk_ov [nk_r G 0, .int a1] m0 (zf_M_wants  a1 m0) := by
  refine nk_ent (own := "NeedOnceModel") (lv := [nk_r G 0, .int a1]) 0 rfl (by decide) (Nat.le_of_ble_eq_true rfl) rfl (fun X hl hR C hr => ?_)
  subst hl
  unfold zf_M_wants
  refine nk_aload_n C zd_M_wants_0 rfl rfl ?_
  refine nk_getI C za_M_187 (Nat.le_of_ble_eq_true rfl) rfl rfl zd_M_wants_1 ?_
  refine nk_if_ne (tgt := 47) C zd_M_wants_4 (by decide) ?_ ?_
  · exact zs_M_wants_b47 C hR hr a1 m0
  · refine nk_aload_n C zd_M_wants_7 rfl rfl ?_
    refine nk_getR C (r := 9) za_M_34 (Nat.le_of_ble_eq_true rfl) rfl rfl zd_M_wants_8 ?_
    refine nk_iload_n C zd_M_wants_11 rfl rfl ?_
    refine nk_iald C (Nat.le_of_ble_eq_true rfl) rfl zd_M_wants_12 (fun x1 => ?_)
    refine nk_if_lt (tgt := 47) C zd_M_wants_13 (by decide) ?_ ?_
    · exact zs_M_wants_b47 C hR hr a1 m0
    · refine nk_aload_n C zd_M_wants_16 rfl rfl ?_
      refine nk_aload_n C zd_M_wants_17 rfl rfl ?_
      refine nk_getR C (r := 9) za_M_34 (Nat.le_of_ble_eq_true rfl) rfl rfl zd_M_wants_18 ?_
      refine nk_iload_n C zd_M_wants_21 rfl rfl ?_
      refine nk_iald C (Nat.le_of_ble_eq_true rfl) rfl zd_M_wants_22 (fun x2 => ?_)
      refine nk_putI C zp_M_191 (Nat.le_of_ble_eq_true rfl) rfl rfl zd_M_wants_23 (fun m1 => ?_)
      refine nk_aload_n C zd_M_wants_26 rfl rfl ?_
      refine nk_aload_n C zd_M_wants_27 rfl rfl ?_
      refine nk_getR C (r := 10) za_M_37 (Nat.le_of_ble_eq_true rfl) rfl rfl zd_M_wants_28 ?_
      refine nk_iload_n C zd_M_wants_31 rfl rfl ?_
      refine nk_iald C (Nat.le_of_ble_eq_true rfl) rfl zd_M_wants_32 (fun x3 => ?_)
      refine nk_putI C zp_M_194 (Nat.le_of_ble_eq_true rfl) rfl rfl zd_M_wants_33 (fun m2 => ?_)
      refine nk_aload_n C zd_M_wants_36 rfl rfl ?_
      refine nk_aload_n C zd_M_wants_37 rfl rfl ?_
      refine nk_getR C (r := 11) za_M_40 (Nat.le_of_ble_eq_true rfl) rfl rfl zd_M_wants_38 ?_
      refine nk_iload_n C zd_M_wants_41 rfl rfl ?_
      refine nk_iald C (Nat.le_of_ble_eq_true rfl) rfl zd_M_wants_42 (fun x4 => ?_)
      refine nk_putI C zp_M_197 (Nat.le_of_ble_eq_true rfl) rfl rfl zd_M_wants_43 (fun m3 => ?_)
      exact nk_vret C hr zd_M_wants_46
theorem zd_M_isDone_0 : decode zb_M_isDone 0 = .ok (.aload_n 0, 1) := by decide +kernel
theorem zd_M_isDone_1 : decode zb_M_isDone 1 = .ok (.dup, 1) := by decide +kernel
theorem zd_M_isDone_2 : decode zb_M_isDone 2 = .ok (.getfield 184, 3) := by decide +kernel
theorem zd_M_isDone_5 : decode zb_M_isDone 5 = .ok (.iconst 1, 1) := by decide +kernel
theorem zd_M_isDone_6 : decode zb_M_isDone 6 = .ok (.isub, 1) := by decide +kernel
theorem zd_M_isDone_7 : decode zb_M_isDone 7 = .ok (.putfield 184, 3) := by decide +kernel
theorem zd_M_isDone_10 : decode zb_M_isDone 10 = .ok (.aload_n 0, 1) := by decide +kernel
theorem zd_M_isDone_11 : decode zb_M_isDone 11 = .ok (.iload_n 1, 1) := by decide +kernel
theorem zd_M_isDone_12 : decode zb_M_isDone 12 = .ok (.putfield 191, 3) := by decide +kernel
theorem zd_M_isDone_15 : decode zb_M_isDone 15 = .ok (.aload_n 0, 1) := by decide +kernel
theorem zd_M_isDone_16 : decode zb_M_isDone 16 = .ok (.getfield 187, 3) := by decide +kernel
theorem zd_M_isDone_19 : decode zb_M_isDone 19 = .ok (.ifCond .ne 60, 3) := by decide +kernel
theorem zd_M_isDone_22 : decode zb_M_isDone 22 = .ok (.aload_n 0, 1) := by decide +kernel
theorem zd_M_isDone_23 : decode zb_M_isDone 23 = .ok (.getfield 46, 3) := by decide +kernel
theorem zd_M_isDone_26 : decode zb_M_isDone 26 = .ok (.aload_n 0, 1) := by decide +kernel
theorem zd_M_isDone_27 : decode zb_M_isDone 27 = .ok (.getfield 184, 3) := by decide +kernel
theorem zd_M_isDone_30 : decode zb_M_isDone 30 = .ok (.iaload, 1) := by decide +kernel
theorem zd_M_isDone_31 : decode zb_M_isDone 31 = .ok (.istore_n 2, 1) := by decide +kernel
theorem zd_M_isDone_32 : decode zb_M_isDone 32 = .ok (.aload_n 0, 1) := by decide +kernel
theorem zd_M_isDone_33 : decode zb_M_isDone 33 = .ok (.getfield 34, 3) := by decide +kernel
theorem zd_M_isDone_36 : decode zb_M_isDone 36 = .ok (.iload_n 2, 1) := by decide +kernel
theorem zd_M_isDone_37 : decode zb_M_isDone 37 = .ok (.iload_n 1, 1) := by decide +kernel
theorem zd_M_isDone_38 : decode zb_M_isDone 38 = .ok (.iastore, 1) := by decide +kernel
theorem zd_M_isDone_39 : decode zb_M_isDone 39 = .ok (.aload_n 0, 1) := by decide +kernel
theorem zd_M_isDone_40 : decode zb_M_isDone 40 = .ok (.getfield 37, 3) := by decide +kernel
theorem zd_M_isDone_43 : decode zb_M_isDone 43 = .ok (.iload_n 2, 1) := by decide +kernel
theorem zd_M_isDone_44 : decode zb_M_isDone 44 = .ok (.aload_n 0, 1) := by decide +kernel
theorem zd_M_isDone_45 : decode zb_M_isDone 45 = .ok (.getfield 194, 3) := by decide +kernel
theorem zd_M_isDone_48 : decode zb_M_isDone 48 = .ok (.iastore, 1) := by decide +kernel
theorem zd_M_isDone_49 : decode zb_M_isDone 49 = .ok (.aload_n 0, 1) := by decide +kernel
theorem zd_M_isDone_50 : decode zb_M_isDone 50 = .ok (.getfield 40, 3) := by decide +kernel
theorem zd_M_isDone_53 : decode zb_M_isDone 53 = .ok (.iload_n 2, 1) := by decide +kernel
theorem zd_M_isDone_54 : decode zb_M_isDone 54 = .ok (.aload_n 0, 1) := by decide +kernel
theorem zd_M_isDone_55 : decode zb_M_isDone 55 = .ok (.getfield 197, 3) := by decide +kernel
theorem zd_M_isDone_58 : decode zb_M_isDone 58 = .ok (.iastore, 1) := by decide +kernel
theorem zd_M_isDone_59 : decode zb_M_isDone 59 = .ok (.aload_n 0, 1) := by decide +kernel
theorem zd_M_isDone_60 : decode zb_M_isDone 60 = .ok (.getfield 55, 3) := by decide +kernel
theorem zd_M_isDone_63 : decode zb_M_isDone 63 = .ok (.aload_n 0, 1) := by decide +kernel
theorem zd_M_isDone_64 : decode zb_M_isDone 64 = .ok (.getfield 218, 3) := by decide +kernel
theorem zd_M_isDone_67 : decode zb_M_isDone 67 = .ok (.iload_n 2, 1) := by decide +kernel
theorem zd_M_isDone_68 : decode zb_M_isDone 68 = .ok (.iastore, 1) := by decide +kernel
theorem zd_M_isDone_69 : decode zb_M_isDone 69 = .ok (.aload_n 0, 1) := by decide +kernel
theorem zd_M_isDone_70 : decode zb_M_isDone 70 = .ok (.dup, 1) := by decide +kernel
theorem zd_M_isDone_71 : decode zb_M_isDone 71 = .ok (.getfield 218, 3) := by decide +kernel
theorem zd_M_isDone_74 : decode zb_M_isDone 74 = .ok (.iconst 1, 1) := by decide +kernel
theorem zd_M_isDone_75 : decode zb_M_isDone 75 = .ok (.iadd, 1) := by decide +kernel
theorem zd_M_isDone_76 : decode zb_M_isDone 76 = .ok (.putfield 218, 3) := by decide +kernel
theorem zd_M_isDone_79 : decode zb_M_isDone 79 = .ok (.return_, 1) := by decide +kernel
def zf_M_isDone_b79   (m0 : nk_M) : Option (Unit × nk_M) := some ((), m0)
set_option maxHeartbeats 4000000 in
set_option maxRecDepth 100000 in
theorem zs_M_isDone_b79 {G : nk_V} {X : nk_X}   (C : nk_C "NeedOnceModel" zb_M_isDone 3 nk_wR G X) (hR : X.2.2.2.1 = nk_rm 1) (hr : X.2.2.2.2.2.2.2.2.1.sig.returnType = none)  : ∀  (m0 : nk_M), nk_Sim nk_wR G X 3 nk_ov 79 [nk_r G 0, .null, .null] [] m0 (zf_M_isDone_b79  m0) := by
  intro m0
  unfold zf_M_isDone_b79
  exact nk_vret C hr zd_M_isDone_79
def zf_M_isDone  (a1 : Int32) (m0 : nk_M) : Option (Unit × nk_M) := nk_pf m0 0 17 ((m0 0 17) - (1 : Int32)) (fun m1 => nk_pf m1 0 21 a1 (fun m2 => (if (m2 0 29) = 0 then nk_ald m2 13 8 (m2 0 17) (fun x1 => nk_ast m2 9 8 x1 a1 (fun m3 => nk_ast m3 10 8 x1 (m3 0 22) (fun m4 => nk_ast m4 11 8 x1 (m4 0 23) (fun m5 => nk_ast m5 16 8 (m5 0 27) x1 (fun m6 => nk_pf m6 0 27 ((m6 0 27) + (1 : Int32)) (fun m7 => (zf_M_isDone_b79 m7))))))) else (zf_M_isDone_b79 m2))))
set_option maxHeartbeats 4000000 in
set_option maxRecDepth 100000 in
theorem zc_M_isDone {l : Launch} {G : nk_V}   (a1 : Int32) (m0 : nk_M) : nk_Ct l nk_wR G 1 zy_M_isDone zb_M_isDone 3 none nk_ov [nk_r G 0, .int a1] m0 (zf_M_isDone  a1 m0) := by
  refine nk_ent (own := "NeedOnceModel") (lv := [nk_r G 0, .int a1, .null]) 1 rfl (by decide) (Nat.le_of_ble_eq_true rfl) rfl (fun X hl hR C hr => ?_)
  subst hl
  unfold zf_M_isDone
  refine nk_aload_n C zd_M_isDone_0 rfl rfl ?_
  refine nk_dup C zd_M_isDone_1 rfl ?_
  refine nk_getI C za_M_184 (Nat.le_of_ble_eq_true rfl) rfl rfl zd_M_isDone_2 ?_
  refine nk_iconst (v := 1) C zd_M_isDone_5 (by decide) ?_
  refine nk_isub C zd_M_isDone_6 ?_
  refine nk_putI C zp_M_184 (Nat.le_of_ble_eq_true rfl) rfl rfl zd_M_isDone_7 (fun m1 => ?_)
  refine nk_aload_n C zd_M_isDone_10 rfl rfl ?_
  refine nk_iload_n C zd_M_isDone_11 rfl rfl ?_
  refine nk_putI C zp_M_191 (Nat.le_of_ble_eq_true rfl) rfl rfl zd_M_isDone_12 (fun m2 => ?_)
  refine nk_aload_n C zd_M_isDone_15 rfl rfl ?_
  refine nk_getI C za_M_187 (Nat.le_of_ble_eq_true rfl) rfl rfl zd_M_isDone_16 ?_
  refine nk_if_ne (tgt := 79) C zd_M_isDone_19 (by decide) ?_ ?_
  · refine nk_wk [true, false, false] ?_
    exact zs_M_isDone_b79 C hR hr m2
  · refine nk_aload_n C zd_M_isDone_22 rfl rfl ?_
    refine nk_getR C (r := 13) za_M_46 (Nat.le_of_ble_eq_true rfl) rfl rfl zd_M_isDone_23 ?_
    refine nk_aload_n C zd_M_isDone_26 rfl rfl ?_
    refine nk_getI C za_M_184 (Nat.le_of_ble_eq_true rfl) rfl rfl zd_M_isDone_27 ?_
    refine nk_iald C (Nat.le_of_ble_eq_true rfl) rfl zd_M_isDone_30 (fun x1 => ?_)
    refine nk_istore_n C zd_M_isDone_31 rfl (Nat.le_of_ble_eq_true rfl) rfl ?_
    refine nk_aload_n C zd_M_isDone_32 rfl rfl ?_
    refine nk_getR C (r := 9) za_M_34 (Nat.le_of_ble_eq_true rfl) rfl rfl zd_M_isDone_33 ?_
    refine nk_iload_n C zd_M_isDone_36 rfl rfl ?_
    refine nk_iload_n C zd_M_isDone_37 rfl rfl ?_
    refine nk_iast C (Nat.le_of_ble_eq_true rfl) rfl zd_M_isDone_38 (fun m3 => ?_)
    refine nk_aload_n C zd_M_isDone_39 rfl rfl ?_
    refine nk_getR C (r := 10) za_M_37 (Nat.le_of_ble_eq_true rfl) rfl rfl zd_M_isDone_40 ?_
    refine nk_iload_n C zd_M_isDone_43 rfl rfl ?_
    refine nk_aload_n C zd_M_isDone_44 rfl rfl ?_
    refine nk_getI C za_M_194 (Nat.le_of_ble_eq_true rfl) rfl rfl zd_M_isDone_45 ?_
    refine nk_iast C (Nat.le_of_ble_eq_true rfl) rfl zd_M_isDone_48 (fun m4 => ?_)
    refine nk_aload_n C zd_M_isDone_49 rfl rfl ?_
    refine nk_getR C (r := 11) za_M_40 (Nat.le_of_ble_eq_true rfl) rfl rfl zd_M_isDone_50 ?_
    refine nk_iload_n C zd_M_isDone_53 rfl rfl ?_
    refine nk_aload_n C zd_M_isDone_54 rfl rfl ?_
    refine nk_getI C za_M_197 (Nat.le_of_ble_eq_true rfl) rfl rfl zd_M_isDone_55 ?_
    refine nk_iast C (Nat.le_of_ble_eq_true rfl) rfl zd_M_isDone_58 (fun m5 => ?_)
    refine nk_aload_n C zd_M_isDone_59 rfl rfl ?_
    refine nk_getR C (r := 16) za_M_55 (Nat.le_of_ble_eq_true rfl) rfl rfl zd_M_isDone_60 ?_
    refine nk_aload_n C zd_M_isDone_63 rfl rfl ?_
    refine nk_getI C za_M_218 (Nat.le_of_ble_eq_true rfl) rfl rfl zd_M_isDone_64 ?_
    refine nk_iload_n C zd_M_isDone_67 rfl rfl ?_
    refine nk_iast C (Nat.le_of_ble_eq_true rfl) rfl zd_M_isDone_68 (fun m6 => ?_)
    refine nk_aload_n C zd_M_isDone_69 rfl rfl ?_
    refine nk_dup C zd_M_isDone_70 rfl ?_
    refine nk_getI C za_M_218 (Nat.le_of_ble_eq_true rfl) rfl rfl zd_M_isDone_71 ?_
    refine nk_iconst (v := 1) C zd_M_isDone_74 (by decide) ?_
    refine nk_iadd C zd_M_isDone_75 ?_
    refine nk_putI C zp_M_218 (Nat.le_of_ble_eq_true rfl) rfl rfl zd_M_isDone_76 (fun m7 => ?_)
    refine nk_wk [true, false, false] ?_
    exact zs_M_isDone_b79 C hR hr m7

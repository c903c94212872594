/-! ===== 47: the constructors (written by program) ===== -/
abbrev zb_T_init : ByteArray := prog_5_method_1_code
abbrev zy_T_init : MethodName := ⟨"NeedOnce$TextReader", "<init>", "()V"⟩
theorem zd_T_init_0 : decode zb_T_init 0 = .ok (.aload_n 0, 1) := by decide +kernel
theorem zd_T_init_1 : decode zb_T_init 1 = .ok (.invokespecial 3, 3) := by decide +kernel
theorem zd_T_init_4 : decode zb_T_init 4 = .ok (.return_, 1) := by decide +kernel
abbrev zb_R_init : ByteArray := prog_3_method_1_code
abbrev zy_R_init : MethodName := ⟨"NeedOnce$Readings", "<init>", "()V"⟩
theorem zd_R_init_0 : decode zb_R_init 0 = .ok (.aload_n 0, 1) := by decide +kernel
theorem zd_R_init_1 : decode zb_R_init 1 = .ok (.invokespecial 3, 3) := by decide +kernel
theorem zd_R_init_4 : decode zb_R_init 4 = .ok (.aload_n 0, 1) := by decide +kernel
theorem zd_R_init_5 : decode zb_R_init 5 = .ok (.bipush 8, 2) := by decide +kernel
theorem zd_R_init_7 : decode zb_R_init 7 = .ok (.newarray .int, 2) := by decide +kernel
theorem zd_R_init_9 : decode zb_R_init 9 = .ok (.putfield 9, 3) := by decide +kernel
theorem zd_R_init_12 : decode zb_R_init 12 = .ok (.aload_n 0, 1) := by decide +kernel
theorem zd_R_init_13 : decode zb_R_init 13 = .ok (.bipush 8, 2) := by decide +kernel
theorem zd_R_init_15 : decode zb_R_init 15 = .ok (.newarray .int, 2) := by decide +kernel
theorem zd_R_init_17 : decode zb_R_init 17 = .ok (.putfield 15, 3) := by decide +kernel
theorem zd_R_init_20 : decode zb_R_init 20 = .ok (.return_, 1) := by decide +kernel
abbrev zb_S_init : ByteArray := prog_4_method_1_code
abbrev zy_S_init : MethodName := ⟨"NeedOnce$Sheets", "<init>", "()V"⟩
theorem zd_S_init_0 : decode zb_S_init 0 = .ok (.aload_n 0, 1) := by decide +kernel
theorem zd_S_init_1 : decode zb_S_init 1 = .ok (.invokespecial 3, 3) := by decide +kernel
theorem zd_S_init_4 : decode zb_S_init 4 = .ok (.aload_n 0, 1) := by decide +kernel
theorem zd_S_init_5 : decode zb_S_init 5 = .ok (.iconst 4, 1) := by decide +kernel
theorem zd_S_init_6 : decode zb_S_init 6 = .ok (.bipush 60, 2) := by decide +kernel
theorem zd_S_init_8 : decode zb_S_init 8 = .ok (.multianewarray 9 2, 4) := by decide +kernel
theorem zd_S_init_12 : decode zb_S_init 12 = .ok (.putfield 11, 3) := by decide +kernel
theorem zd_S_init_15 : decode zb_S_init 15 = .ok (.aload_n 0, 1) := by decide +kernel
theorem zd_S_init_16 : decode zb_S_init 16 = .ok (.iconst 4, 1) := by decide +kernel
theorem zd_S_init_17 : decode zb_S_init 17 = .ok (.newarray .int, 2) := by decide +kernel
theorem zd_S_init_19 : decode zb_S_init 19 = .ok (.dup, 1) := by decide +kernel
theorem zd_S_init_20 : decode zb_S_init 20 = .ok (.iconst 0, 1) := by decide +kernel
theorem zd_S_init_21 : decode zb_S_init 21 = .ok (.iconst (-1), 1) := by decide +kernel
theorem zd_S_init_22 : decode zb_S_init 22 = .ok (.iastore, 1) := by decide +kernel
theorem zd_S_init_23 : decode zb_S_init 23 = .ok (.dup, 1) := by decide +kernel
theorem zd_S_init_24 : decode zb_S_init 24 = .ok (.iconst 1, 1) := by decide +kernel
theorem zd_S_init_25 : decode zb_S_init 25 = .ok (.iconst (-1), 1) := by decide +kernel
theorem zd_S_init_26 : decode zb_S_init 26 = .ok (.iastore, 1) := by decide +kernel
theorem zd_S_init_27 : decode zb_S_init 27 = .ok (.dup, 1) := by decide +kernel
theorem zd_S_init_28 : decode zb_S_init 28 = .ok (.iconst 2, 1) := by decide +kernel
theorem zd_S_init_29 : decode zb_S_init 29 = .ok (.iconst (-1), 1) := by decide +kernel
theorem zd_S_init_30 : decode zb_S_init 30 = .ok (.iastore, 1) := by decide +kernel
theorem zd_S_init_31 : decode zb_S_init 31 = .ok (.dup, 1) := by decide +kernel
theorem zd_S_init_32 : decode zb_S_init 32 = .ok (.iconst 3, 1) := by decide +kernel
theorem zd_S_init_33 : decode zb_S_init 33 = .ok (.iconst (-1), 1) := by decide +kernel
theorem zd_S_init_34 : decode zb_S_init 34 = .ok (.iastore, 1) := by decide +kernel
theorem zd_S_init_35 : decode zb_S_init 35 = .ok (.putfield 16, 3) := by decide +kernel
theorem zd_S_init_38 : decode zb_S_init 38 = .ok (.aload_n 0, 1) := by decide +kernel
theorem zd_S_init_39 : decode zb_S_init 39 = .ok (.iconst 4, 1) := by decide +kernel
theorem zd_S_init_40 : decode zb_S_init 40 = .ok (.newarray .int, 2) := by decide +kernel
theorem zd_S_init_42 : decode zb_S_init 42 = .ok (.putfield 20, 3) := by decide +kernel
theorem zd_S_init_45 : decode zb_S_init 45 = .ok (.return_, 1) := by decide +kernel
abbrev zb_C_init : ByteArray := prog_2_method_1_code
abbrev zy_C_init : MethodName := ⟨"NeedOnce$Cells", "<init>", "()V"⟩
theorem zd_C_init_0 : decode zb_C_init 0 = .ok (.aload_n 0, 1) := by decide +kernel
theorem zd_C_init_1 : decode zb_C_init 1 = .ok (.invokespecial 3, 3) := by decide +kernel
theorem zd_C_init_4 : decode zb_C_init 4 = .ok (.aload_n 0, 1) := by decide +kernel
theorem zd_C_init_5 : decode zb_C_init 5 = .ok (.bipush 8, 2) := by decide +kernel
theorem zd_C_init_7 : decode zb_C_init 7 = .ok (.newarray .int, 2) := by decide +kernel
theorem zd_C_init_9 : decode zb_C_init 9 = .ok (.putfield 9, 3) := by decide +kernel
theorem zd_C_init_12 : decode zb_C_init 12 = .ok (.aload_n 0, 1) := by decide +kernel
theorem zd_C_init_13 : decode zb_C_init 13 = .ok (.bipush 8, 2) := by decide +kernel
theorem zd_C_init_15 : decode zb_C_init 15 = .ok (.newarray .int, 2) := by decide +kernel
theorem zd_C_init_17 : decode zb_C_init 17 = .ok (.putfield 15, 3) := by decide +kernel
theorem zd_C_init_20 : decode zb_C_init 20 = .ok (.aload_n 0, 1) := by decide +kernel
theorem zd_C_init_21 : decode zb_C_init 21 = .ok (.bipush 8, 2) := by decide +kernel
theorem zd_C_init_23 : decode zb_C_init 23 = .ok (.newarray .int, 2) := by decide +kernel
theorem zd_C_init_25 : decode zb_C_init 25 = .ok (.putfield 18, 3) := by decide +kernel
theorem zd_C_init_28 : decode zb_C_init 28 = .ok (.aload_n 0, 1) := by decide +kernel
theorem zd_C_init_29 : decode zb_C_init 29 = .ok (.bipush 24, 2) := by decide +kernel
theorem zd_C_init_31 : decode zb_C_init 31 = .ok (.newarray .int, 2) := by decide +kernel
theorem zd_C_init_33 : decode zb_C_init 33 = .ok (.putfield 21, 3) := by decide +kernel
theorem zd_C_init_36 : decode zb_C_init 36 = .ok (.aload_n 0, 1) := by decide +kernel
theorem zd_C_init_37 : decode zb_C_init 37 = .ok (.bipush 8, 2) := by decide +kernel
theorem zd_C_init_39 : decode zb_C_init 39 = .ok (.newarray .int, 2) := by decide +kernel
theorem zd_C_init_41 : decode zb_C_init 41 = .ok (.putfield 24, 3) := by decide +kernel
theorem zd_C_init_44 : decode zb_C_init 44 = .ok (.aload_n 0, 1) := by decide +kernel
theorem zd_C_init_45 : decode zb_C_init 45 = .ok (.bipush 8, 2) := by decide +kernel
theorem zd_C_init_47 : decode zb_C_init 47 = .ok (.newarray .int, 2) := by decide +kernel
theorem zd_C_init_49 : decode zb_C_init 49 = .ok (.putfield 27, 3) := by decide +kernel
theorem zd_C_init_52 : decode zb_C_init 52 = .ok (.aload_n 0, 1) := by decide +kernel
theorem zd_C_init_53 : decode zb_C_init 53 = .ok (.bipush 8, 2) := by decide +kernel
theorem zd_C_init_55 : decode zb_C_init 55 = .ok (.newarray .int, 2) := by decide +kernel
theorem zd_C_init_57 : decode zb_C_init 57 = .ok (.putfield 30, 3) := by decide +kernel
theorem zd_C_init_60 : decode zb_C_init 60 = .ok (.aload_n 0, 1) := by decide +kernel
theorem zd_C_init_61 : decode zb_C_init 61 = .ok (.bipush 8, 2) := by decide +kernel
theorem zd_C_init_63 : decode zb_C_init 63 = .ok (.newarray .boolean, 2) := by decide +kernel
theorem zd_C_init_65 : decode zb_C_init 65 = .ok (.putfield 33, 3) := by decide +kernel
theorem zd_C_init_68 : decode zb_C_init 68 = .ok (.aload_n 0, 1) := by decide +kernel
theorem zd_C_init_69 : decode zb_C_init 69 = .ok (.iconst 1, 1) := by decide +kernel
theorem zd_C_init_70 : decode zb_C_init 70 = .ok (.putfield 37, 3) := by decide +kernel
theorem zd_C_init_73 : decode zb_C_init 73 = .ok (.aload_n 0, 1) := by decide +kernel
theorem zd_C_init_74 : decode zb_C_init 74 = .ok (.bipush 8, 2) := by decide +kernel
theorem zd_C_init_76 : decode zb_C_init 76 = .ok (.newarray .int, 2) := by decide +kernel
theorem zd_C_init_78 : decode zb_C_init 78 = .ok (.putfield 41, 3) := by decide +kernel
theorem zd_C_init_81 : decode zb_C_init 81 = .ok (.aload_n 0, 1) := by decide +kernel
theorem zd_C_init_82 : decode zb_C_init 82 = .ok (.invokevirtual 44, 3) := by decide +kernel
theorem zd_C_init_85 : decode zb_C_init 85 = .ok (.return_, 1) := by decide +kernel
abbrev zb_N_init : ByteArray := prog_1_method_1_code
abbrev zy_N_init : MethodName := ⟨"NeedOnce", "<init>", "()V"⟩
theorem zd_N_init_0 : decode zb_N_init 0 = .ok (.aload_n 0, 1) := by decide +kernel
theorem zd_N_init_1 : decode zb_N_init 1 = .ok (.invokespecial 3, 3) := by decide +kernel
theorem zd_N_init_4 : decode zb_N_init 4 = .ok (.aload_n 0, 1) := by decide +kernel
theorem zd_N_init_5 : decode zb_N_init 5 = .ok (.new 9, 3) := by decide +kernel
theorem zd_N_init_8 : decode zb_N_init 8 = .ok (.dup, 1) := by decide +kernel
theorem zd_N_init_9 : decode zb_N_init 9 = .ok (.invokespecial 11, 3) := by decide +kernel
theorem zd_N_init_12 : decode zb_N_init 12 = .ok (.putfield 12, 3) := by decide +kernel
theorem zd_N_init_15 : decode zb_N_init 15 = .ok (.aload_n 0, 1) := by decide +kernel
theorem zd_N_init_16 : decode zb_N_init 16 = .ok (.new 9, 3) := by decide +kernel
theorem zd_N_init_19 : decode zb_N_init 19 = .ok (.dup, 1) := by decide +kernel
theorem zd_N_init_20 : decode zb_N_init 20 = .ok (.invokespecial 11, 3) := by decide +kernel
theorem zd_N_init_23 : decode zb_N_init 23 = .ok (.putfield 18, 3) := by decide +kernel
theorem zd_N_init_26 : decode zb_N_init 26 = .ok (.aload_n 0, 1) := by decide +kernel
theorem zd_N_init_27 : decode zb_N_init 27 = .ok (.new 21, 3) := by decide +kernel
theorem zd_N_init_30 : decode zb_N_init 30 = .ok (.dup, 1) := by decide +kernel
theorem zd_N_init_31 : decode zb_N_init 31 = .ok (.invokespecial 23, 3) := by decide +kernel
theorem zd_N_init_34 : decode zb_N_init 34 = .ok (.putfield 24, 3) := by decide +kernel
theorem zd_N_init_37 : decode zb_N_init 37 = .ok (.aload_n 0, 1) := by decide +kernel
theorem zd_N_init_38 : decode zb_N_init 38 = .ok (.new 28, 3) := by decide +kernel
theorem zd_N_init_41 : decode zb_N_init 41 = .ok (.dup, 1) := by decide +kernel
theorem zd_N_init_42 : decode zb_N_init 42 = .ok (.invokespecial 30, 3) := by decide +kernel
theorem zd_N_init_45 : decode zb_N_init 45 = .ok (.putfield 31, 3) := by decide +kernel
theorem zd_N_init_48 : decode zb_N_init 48 = .ok (.aload_n 0, 1) := by decide +kernel
theorem zd_N_init_49 : decode zb_N_init 49 = .ok (.new 35, 3) := by decide +kernel
theorem zd_N_init_52 : decode zb_N_init 52 = .ok (.dup, 1) := by decide +kernel
theorem zd_N_init_53 : decode zb_N_init 53 = .ok (.invokespecial 37, 3) := by decide +kernel
theorem zd_N_init_56 : decode zb_N_init 56 = .ok (.putfield 38, 3) := by decide +kernel
theorem zd_N_init_59 : decode zb_N_init 59 = .ok (.return_, 1) := by decide +kernel
abbrev zb_M_init : ByteArray := prog_7_method_1_code
abbrev zy_M_init : MethodName := ⟨"NeedOnceModel", "<init>", "()V"⟩
theorem zd_M_init_0 : decode zb_M_init 0 = .ok (.aload_n 0, 1) := by decide +kernel
theorem zd_M_init_1 : decode zb_M_init 1 = .ok (.invokespecial 1, 3) := by decide +kernel
theorem zd_M_init_4 : decode zb_M_init 4 = .ok (.aload_n 0, 1) := by decide +kernel
theorem zd_M_init_5 : decode zb_M_init 5 = .ok (.bipush 8, 2) := by decide +kernel
theorem zd_M_init_7 : decode zb_M_init 7 = .ok (.newarray .int, 2) := by decide +kernel
theorem zd_M_init_9 : decode zb_M_init 9 = .ok (.putfield 7, 3) := by decide +kernel
theorem zd_M_init_12 : decode zb_M_init 12 = .ok (.aload_n 0, 1) := by decide +kernel
theorem zd_M_init_13 : decode zb_M_init 13 = .ok (.bipush 8, 2) := by decide +kernel
theorem zd_M_init_15 : decode zb_M_init 15 = .ok (.newarray .int, 2) := by decide +kernel
theorem zd_M_init_17 : decode zb_M_init 17 = .ok (.putfield 13, 3) := by decide +kernel
theorem zd_M_init_20 : decode zb_M_init 20 = .ok (.aload_n 0, 1) := by decide +kernel
theorem zd_M_init_21 : decode zb_M_init 21 = .ok (.bipush 8, 2) := by decide +kernel
theorem zd_M_init_23 : decode zb_M_init 23 = .ok (.newarray .int, 2) := by decide +kernel
theorem zd_M_init_25 : decode zb_M_init 25 = .ok (.putfield 16, 3) := by decide +kernel
theorem zd_M_init_28 : decode zb_M_init 28 = .ok (.aload_n 0, 1) := by decide +kernel
theorem zd_M_init_29 : decode zb_M_init 29 = .ok (.bipush 24, 2) := by decide +kernel
theorem zd_M_init_31 : decode zb_M_init 31 = .ok (.newarray .int, 2) := by decide +kernel
theorem zd_M_init_33 : decode zb_M_init 33 = .ok (.putfield 19, 3) := by decide +kernel
theorem zd_M_init_36 : decode zb_M_init 36 = .ok (.aload_n 0, 1) := by decide +kernel
theorem zd_M_init_37 : decode zb_M_init 37 = .ok (.bipush 8, 2) := by decide +kernel
theorem zd_M_init_39 : decode zb_M_init 39 = .ok (.newarray .int, 2) := by decide +kernel
theorem zd_M_init_41 : decode zb_M_init 41 = .ok (.putfield 22, 3) := by decide +kernel
theorem zd_M_init_44 : decode zb_M_init 44 = .ok (.aload_n 0, 1) := by decide +kernel
theorem zd_M_init_45 : decode zb_M_init 45 = .ok (.bipush 8, 2) := by decide +kernel
theorem zd_M_init_47 : decode zb_M_init 47 = .ok (.newarray .int, 2) := by decide +kernel
theorem zd_M_init_49 : decode zb_M_init 49 = .ok (.putfield 25, 3) := by decide +kernel
theorem zd_M_init_52 : decode zb_M_init 52 = .ok (.aload_n 0, 1) := by decide +kernel
theorem zd_M_init_53 : decode zb_M_init 53 = .ok (.bipush 8, 2) := by decide +kernel
theorem zd_M_init_55 : decode zb_M_init 55 = .ok (.newarray .int, 2) := by decide +kernel
theorem zd_M_init_57 : decode zb_M_init 57 = .ok (.putfield 28, 3) := by decide +kernel
theorem zd_M_init_60 : decode zb_M_init 60 = .ok (.aload_n 0, 1) := by decide +kernel
theorem zd_M_init_61 : decode zb_M_init 61 = .ok (.bipush 24, 2) := by decide +kernel
theorem zd_M_init_63 : decode zb_M_init 63 = .ok (.newarray .int, 2) := by decide +kernel
theorem zd_M_init_65 : decode zb_M_init 65 = .ok (.putfield 31, 3) := by decide +kernel
theorem zd_M_init_68 : decode zb_M_init 68 = .ok (.aload_n 0, 1) := by decide +kernel
theorem zd_M_init_69 : decode zb_M_init 69 = .ok (.bipush 8, 2) := by decide +kernel
theorem zd_M_init_71 : decode zb_M_init 71 = .ok (.newarray .int, 2) := by decide +kernel
theorem zd_M_init_73 : decode zb_M_init 73 = .ok (.putfield 34, 3) := by decide +kernel
theorem zd_M_init_76 : decode zb_M_init 76 = .ok (.aload_n 0, 1) := by decide +kernel
theorem zd_M_init_77 : decode zb_M_init 77 = .ok (.bipush 8, 2) := by decide +kernel
theorem zd_M_init_79 : decode zb_M_init 79 = .ok (.newarray .int, 2) := by decide +kernel
theorem zd_M_init_81 : decode zb_M_init 81 = .ok (.putfield 37, 3) := by decide +kernel
theorem zd_M_init_84 : decode zb_M_init 84 = .ok (.aload_n 0, 1) := by decide +kernel
theorem zd_M_init_85 : decode zb_M_init 85 = .ok (.bipush 8, 2) := by decide +kernel
theorem zd_M_init_87 : decode zb_M_init 87 = .ok (.newarray .int, 2) := by decide +kernel
theorem zd_M_init_89 : decode zb_M_init 89 = .ok (.putfield 40, 3) := by decide +kernel
theorem zd_M_init_92 : decode zb_M_init 92 = .ok (.aload_n 0, 1) := by decide +kernel
theorem zd_M_init_93 : decode zb_M_init 93 = .ok (.bipush 8, 2) := by decide +kernel
theorem zd_M_init_95 : decode zb_M_init 95 = .ok (.newarray .int, 2) := by decide +kernel
theorem zd_M_init_97 : decode zb_M_init 97 = .ok (.putfield 43, 3) := by decide +kernel
theorem zd_M_init_100 : decode zb_M_init 100 = .ok (.aload_n 0, 1) := by decide +kernel
theorem zd_M_init_101 : decode zb_M_init 101 = .ok (.bipush 8, 2) := by decide +kernel
theorem zd_M_init_103 : decode zb_M_init 103 = .ok (.newarray .int, 2) := by decide +kernel
theorem zd_M_init_105 : decode zb_M_init 105 = .ok (.putfield 46, 3) := by decide +kernel
theorem zd_M_init_108 : decode zb_M_init 108 = .ok (.aload_n 0, 1) := by decide +kernel
theorem zd_M_init_109 : decode zb_M_init 109 = .ok (.bipush 8, 2) := by decide +kernel
theorem zd_M_init_111 : decode zb_M_init 111 = .ok (.newarray .int, 2) := by decide +kernel
theorem zd_M_init_113 : decode zb_M_init 113 = .ok (.putfield 49, 3) := by decide +kernel
theorem zd_M_init_116 : decode zb_M_init 116 = .ok (.aload_n 0, 1) := by decide +kernel
theorem zd_M_init_117 : decode zb_M_init 117 = .ok (.bipush 8, 2) := by decide +kernel
theorem zd_M_init_119 : decode zb_M_init 119 = .ok (.newarray .int, 2) := by decide +kernel
theorem zd_M_init_121 : decode zb_M_init 121 = .ok (.putfield 52, 3) := by decide +kernel
theorem zd_M_init_124 : decode zb_M_init 124 = .ok (.aload_n 0, 1) := by decide +kernel
theorem zd_M_init_125 : decode zb_M_init 125 = .ok (.bipush 8, 2) := by decide +kernel
theorem zd_M_init_127 : decode zb_M_init 127 = .ok (.newarray .int, 2) := by decide +kernel
theorem zd_M_init_129 : decode zb_M_init 129 = .ok (.putfield 55, 3) := by decide +kernel
theorem zd_M_init_132 : decode zb_M_init 132 = .ok (.aload_n 0, 1) := by decide +kernel
theorem zd_M_init_133 : decode zb_M_init 133 = .ok (.bipush 8, 2) := by decide +kernel
theorem zd_M_init_135 : decode zb_M_init 135 = .ok (.newarray .int, 2) := by decide +kernel
theorem zd_M_init_137 : decode zb_M_init 137 = .ok (.putfield 58, 3) := by decide +kernel
theorem zd_M_init_140 : decode zb_M_init 140 = .ok (.aload_n 0, 1) := by decide +kernel
theorem zd_M_init_141 : decode zb_M_init 141 = .ok (.bipush 8, 2) := by decide +kernel
theorem zd_M_init_143 : decode zb_M_init 143 = .ok (.newarray .int, 2) := by decide +kernel
theorem zd_M_init_145 : decode zb_M_init 145 = .ok (.putfield 61, 3) := by decide +kernel
theorem zd_M_init_148 : decode zb_M_init 148 = .ok (.aload_n 0, 1) := by decide +kernel
theorem zd_M_init_149 : decode zb_M_init 149 = .ok (.bipush 8, 2) := by decide +kernel
theorem zd_M_init_151 : decode zb_M_init 151 = .ok (.newarray .int, 2) := by decide +kernel
theorem zd_M_init_153 : decode zb_M_init 153 = .ok (.putfield 64, 3) := by decide +kernel
theorem zd_M_init_156 : decode zb_M_init 156 = .ok (.aload_n 0, 1) := by decide +kernel
theorem zd_M_init_157 : decode zb_M_init 157 = .ok (.bipush 8, 2) := by decide +kernel
theorem zd_M_init_159 : decode zb_M_init 159 = .ok (.newarray .int, 2) := by decide +kernel
theorem zd_M_init_161 : decode zb_M_init 161 = .ok (.putfield 67, 3) := by decide +kernel
theorem zd_M_init_164 : decode zb_M_init 164 = .ok (.aload_n 0, 1) := by decide +kernel
theorem zd_M_init_165 : decode zb_M_init 165 = .ok (.bipush 8, 2) := by decide +kernel
theorem zd_M_init_167 : decode zb_M_init 167 = .ok (.newarray .int, 2) := by decide +kernel
theorem zd_M_init_169 : decode zb_M_init 169 = .ok (.putfield 70, 3) := by decide +kernel
theorem zd_M_init_172 : decode zb_M_init 172 = .ok (.aload_n 0, 1) := by decide +kernel
theorem zd_M_init_173 : decode zb_M_init 173 = .ok (.bipush 8, 2) := by decide +kernel
theorem zd_M_init_175 : decode zb_M_init 175 = .ok (.newarray .int, 2) := by decide +kernel
theorem zd_M_init_177 : decode zb_M_init 177 = .ok (.putfield 73, 3) := by decide +kernel
theorem zd_M_init_180 : decode zb_M_init 180 = .ok (.aload_n 0, 1) := by decide +kernel
theorem zd_M_init_181 : decode zb_M_init 181 = .ok (.bipush 8, 2) := by decide +kernel
theorem zd_M_init_183 : decode zb_M_init 183 = .ok (.newarray .int, 2) := by decide +kernel
theorem zd_M_init_185 : decode zb_M_init 185 = .ok (.putfield 76, 3) := by decide +kernel
theorem zd_M_init_188 : decode zb_M_init 188 = .ok (.aload_n 0, 1) := by decide +kernel
theorem zd_M_init_189 : decode zb_M_init 189 = .ok (.bipush 8, 2) := by decide +kernel
theorem zd_M_init_191 : decode zb_M_init 191 = .ok (.newarray .int, 2) := by decide +kernel
theorem zd_M_init_193 : decode zb_M_init 193 = .ok (.putfield 79, 3) := by decide +kernel
theorem zd_M_init_196 : decode zb_M_init 196 = .ok (.aload_n 0, 1) := by decide +kernel
theorem zd_M_init_197 : decode zb_M_init 197 = .ok (.iconst 4, 1) := by decide +kernel
theorem zd_M_init_198 : decode zb_M_init 198 = .ok (.newarray .int, 2) := by decide +kernel
theorem zd_M_init_200 : decode zb_M_init 200 = .ok (.putfield 82, 3) := by decide +kernel
theorem zd_M_init_203 : decode zb_M_init 203 = .ok (.aload_n 0, 1) := by decide +kernel
theorem zd_M_init_204 : decode zb_M_init 204 = .ok (.iconst 4, 1) := by decide +kernel
theorem zd_M_init_205 : decode zb_M_init 205 = .ok (.newarray .int, 2) := by decide +kernel
theorem zd_M_init_207 : decode zb_M_init 207 = .ok (.putfield 85, 3) := by decide +kernel
theorem zd_M_init_210 : decode zb_M_init 210 = .ok (.aload_n 0, 1) := by decide +kernel
theorem zd_M_init_211 : decode zb_M_init 211 = .ok (.sipush 240, 3) := by decide +kernel
theorem zd_M_init_214 : decode zb_M_init 214 = .ok (.newarray .int, 2) := by decide +kernel
theorem zd_M_init_216 : decode zb_M_init 216 = .ok (.putfield 88, 3) := by decide +kernel
theorem zd_M_init_219 : decode zb_M_init 219 = .ok (.aload_n 0, 1) := by decide +kernel
theorem zd_M_init_220 : decode zb_M_init 220 = .ok (.bipush 60, 2) := by decide +kernel
theorem zd_M_init_222 : decode zb_M_init 222 = .ok (.newarray .int, 2) := by decide +kernel
theorem zd_M_init_224 : decode zb_M_init 224 = .ok (.putfield 91, 3) := by decide +kernel
theorem zd_M_init_227 : decode zb_M_init 227 = .ok (.iconst 0, 1) := by decide +kernel
theorem zd_M_init_228 : decode zb_M_init 228 = .ok (.istore_n 1, 1) := by decide +kernel
theorem zd_M_init_229 : decode zb_M_init 229 = .ok (.iload_n 1, 1) := by decide +kernel
theorem zd_M_init_230 : decode zb_M_init 230 = .ok (.iconst 4, 1) := by decide +kernel
theorem zd_M_init_231 : decode zb_M_init 231 = .ok (.if_icmp .ge 16, 3) := by decide +kernel
theorem zd_M_init_234 : decode zb_M_init 234 = .ok (.aload_n 0, 1) := by decide +kernel
theorem zd_M_init_235 : decode zb_M_init 235 = .ok (.getfield 82, 3) := by decide +kernel
theorem zd_M_init_238 : decode zb_M_init 238 = .ok (.iload_n 1, 1) := by decide +kernel
theorem zd_M_init_239 : decode zb_M_init 239 = .ok (.iconst (-1), 1) := by decide +kernel
theorem zd_M_init_240 : decode zb_M_init 240 = .ok (.iastore, 1) := by decide +kernel
theorem zd_M_init_241 : decode zb_M_init 241 = .ok (.iinc 1 1, 3) := by decide +kernel
theorem zd_M_init_244 : decode zb_M_init 244 = .ok (.goto (-15), 3) := by decide +kernel
theorem zd_M_init_247 : decode zb_M_init 247 = .ok (.return_, 1) := by decide +kernel
theorem zx_16 : Cond.instanceMethod objectInit ∈ nk_GT := nk_tm 16 (by decide +kernel) rfl
set_option maxRecDepth 100000 in
theorem zx_17 : Cond.code objectInit ⟨#[0xb1]⟩ 1 none ∈ nk_GT := nk_tm 17 rfl rfl
theorem zx_23 : Cond.methodLink "NeedOnce$Cells" 3 objectInit ∈ nk_GT := nk_tm 23 (by decide +kernel) rfl
theorem zx_34 : Cond.fieldLink "NeedOnce$Cells" 9 "NeedOnce$Cells" "kindOf" "[I" ∈ nk_GT := nk_tm 34 (by decide +kernel) rfl
theorem zx_37 : Cond.fieldLink "NeedOnce$Cells" 15 "NeedOnce$Cells" "priceOf" "[I" ∈ nk_GT := nk_tm 37 (by decide +kernel) rfl
theorem zx_40 : Cond.fieldLink "NeedOnce$Cells" 18 "NeedOnce$Cells" "formOf" "[I" ∈ nk_GT := nk_tm 40 (by decide +kernel) rfl
theorem zx_43 : Cond.fieldLink "NeedOnce$Cells" 21 "NeedOnce$Cells" "partOf" "[I" ∈ nk_GT := nk_tm 43 (by decide +kernel) rfl
theorem zx_44 : Cond.fieldLink "NeedOnce$Cells" 24 "NeedOnce$Cells" "cameTo" "[I" ∈ nk_GT := nk_tm 44 (by decide +kernel) rfl
theorem zx_46 : Cond.fieldLink "NeedOnce$Cells" 27 "NeedOnce$Cells" "pairOf" "[I" ∈ nk_GT := nk_tm 46 (by decide +kernel) rfl
theorem zx_47 : Cond.fieldLink "NeedOnce$Cells" 30 "NeedOnce$Cells" "linkTo" "[I" ∈ nk_GT := nk_tm 47 (by decide +kernel) rfl
theorem zx_49 : Cond.fieldLink "NeedOnce$Cells" 33 "NeedOnce$Cells" "beingWorked" "[Z" ∈ nk_GT := nk_tm 49 (by decide +kernel) rfl
theorem zx_50 : Cond.fieldLink "NeedOnce$Cells" 37 "NeedOnce$Cells" "keeps" "Z" ∈ nk_GT := nk_tm 50 (by decide +kernel) rfl
theorem zx_61 : Cond.fieldLink "NeedOnce$Cells" 41 "NeedOnce$Cells" "done" "[I" ∈ nk_GT := nk_tm 61 (by decide +kernel) rfl
theorem zx_96 : Cond.arrayClass .int ∈ nk_GT := nk_tm 96 (by decide +kernel) rfl
theorem zx_97 : Cond.arrayClass .boolean ∈ nk_GT := nk_tm 97 (by decide +kernel) rfl
theorem zx_103 : Cond.methodLink "NeedOnce$TextReader" 3 objectInit ∈ nk_GT := nk_tm 103 (by decide +kernel) rfl
theorem zx_116 : Cond.methodLink "NeedOnce$Readings" 3 objectInit ∈ nk_GT := nk_tm 116 (by decide +kernel) rfl
theorem zx_119 : Cond.fieldLink "NeedOnce$Readings" 9 "NeedOnce$Readings" "cellOf" "[I" ∈ nk_GT := nk_tm 119 (by decide +kernel) rfl
theorem zx_120 : Cond.fieldLink "NeedOnce$Readings" 15 "NeedOnce$Readings" "costOf" "[I" ∈ nk_GT := nk_tm 120 (by decide +kernel) rfl
theorem zx_133 : Cond.methodLink "NeedOnce$Sheets" 3 objectInit ∈ nk_GT := nk_tm 133 (by decide +kernel) rfl
theorem zx_134 : Cond.classLink "NeedOnce$Sheets" 9 "[[I" ∈ nk_GT := nk_tm 134 (by decide +kernel) rfl
theorem zx_136 : Cond.fieldLink "NeedOnce$Sheets" 11 "NeedOnce$Sheets" "rows" "[[I" ∈ nk_GT := nk_tm 136 (by decide +kernel) rfl
theorem zx_137 : Cond.fieldLink "NeedOnce$Sheets" 16 "NeedOnce$Sheets" "laneOf" "[I" ∈ nk_GT := nk_tm 137 (by decide +kernel) rfl
theorem zx_139 : Cond.fieldLink "NeedOnce$Sheets" 20 "NeedOnce$Sheets" "lengthOf" "[I" ∈ nk_GT := nk_tm 139 (by decide +kernel) rfl
theorem zl_C_44 : Cond.methodLink "NeedOnce$Cells" 44 zy_C_putToSleep ∈ nk_GT := nk_tm 24 (by decide +kernel) rfl
set_option maxHeartbeats 4000000 in
set_option maxRecDepth 100000 in
theorem zi_T (l : Launch) (D : va_G) (h0 sz : Nat) : nk_In l zy_T_init zb_T_init 1 1 D nk_clC (h0, .inr (3, [.int 0, .int 0])) 0 0 (fun ws tys => ws = [(h0, .inr (3, [.int 0, .int 0]))] ∧ tys = []) sz := by
  refine Met.ofW (cc := zb_T_init) (maxL := 1) (ret := none) (by decide) rfl ?_
  intro p e s m args below meth c s₁ B hml hv
  obtain ⟨rfl, hsz, hP, hB⟩ := hv
  have hx := B.exec
  have hb := B.bytes
  have hr := B.returns
  have hts0 := atoms_spec (ws := Cond.code zy_T_init zb_T_init 1 none :: nk_GT) B.pre
  have hts : ∀ w ∈ nk_GT, w.before _ s = true := fun w hw => hts0 w (List.mem_cons_of_mem _ hw)
  have hown : s.vm.findClass "NeedOnce$TextReader" = some m.cls := findClass_of_methodNamed B.named
  have hlocks := B.notSynchronized
  have hin : meth.name = "<init>" := (name_of_methodNamed B.named B.method).1
  have hK := hB.1
  subst hsz
  have hD := nk_D1 (x := (h0, .inr (3, [.int 0, .int 0]))) (sz := s.heap.size)
  generalize hAe : va_A [(h0, .inr (3, [.int 0, .int 0]))] s.heap.size = A at hD ⊢
  have hA : ∀ q : Nat, s.heap.size ≤ q → A q := fun q h => by rw [← hAe]; exact Or.inr h
  have hS : va_S A s.heap s.heap [] := va_S.rf
  have hl := lv_entry ([.ref h0]) (n := 1) (Nat.le_of_ble_eq_true rfl)
  rw [lg_entry_eq]
  generalize (lg_sl [Value.ref h0] ++ List.replicate (1 - (lg_sl [Value.ref h0]).length) Slot.unset).toArray = ls at hl ⊢
  have hl : lv_has ls 1 [(0, .ref h0)] := hl
  refine lv_aload_n hx hb zd_T_init_0 rfl (lv_at hl 0 rfl) ?_
  refine W.objInit hx hb hown (hts _ zx_103) (hts _ zx_16) (hts _ zx_17) rfl (by rw [hml]; exact hl.1) rfl zd_T_init_1 (Nat.le_of_ble_eq_true rfl) (Nat.le_of_ble_eq_true rfl) ?_
  refine W.eq (g2 := F0 m 4 ls []) rfl ?_
  refine W.widen (k := 0) (n := 0) (Nat.le_of_ble_eq_true rfl) (Nat.le_of_ble_eq_true rfl) ?_
  exact W.vret hx hb hr (fun t ht hW => ⟨⟨(), rfl, trivial, _, _, ⟨rfl, rfl⟩, by rw [ht]; exact hP, va_K.moved hW.alike hK, hD⟩, hS.F ht⟩) hS.2.2 zd_T_init_4 hlocks
set_option maxHeartbeats 4000000 in
set_option maxRecDepth 100000 in
theorem zi_R (l : Launch) (D : va_G) (h0 sz : Nat) : nk_In l zy_R_init zb_R_init 1 1 D nk_clC (h0, .inr (1, [.int 0, .null, .null])) 2 16 (fun ws tys => ∃ (q1 : Nat), ∃ (c0 : ClassId), ∃ (q2 : Nat), ∃ (c1 : ClassId), ws = [(h0, .inr (1, [.int 0, .ref q1, .ref q2])), (q1, .inl (c0, 8, .inl (fun _ => 0))), (q2, .inl (c1, 8, .inl (fun _ => 0)))] ∧ tys = [(c0, .int), (c1, .int)]) sz := by
  refine Met.ofW (cc := zb_R_init) (maxL := 1) (ret := none) (by decide) rfl ?_
  intro p e s m args below meth c s₁ B hml hv
  obtain ⟨rfl, hsz, hP, hB⟩ := hv
  have hx := B.exec
  have hb := B.bytes
  have hr := B.returns
  have hts0 := atoms_spec (ws := Cond.code zy_R_init zb_R_init 1 none :: nk_GT) B.pre
  have hts : ∀ w ∈ nk_GT, w.before _ s = true := fun w hw => hts0 w (List.mem_cons_of_mem _ hw)
  have hown : s.vm.findClass "NeedOnce$Readings" = some m.cls := findClass_of_methodNamed B.named
  have hlocks := B.notSynchronized
  have hin : meth.name = "<init>" := (name_of_methodNamed B.named B.method).1
  have hK := hB.1
  subst hsz
  have hD := nk_D1 (x := (h0, .inr (1, [.int 0, .null, .null]))) (sz := s.heap.size)
  generalize hAe : va_A [(h0, .inr (1, [.int 0, .null, .null]))] s.heap.size = A at hD ⊢
  have hA : ∀ q : Nat, s.heap.size ≤ q → A q := fun q h => by rw [← hAe]; exact Or.inr h
  have hS : va_S A s.heap s.heap [] := va_S.rf
  have hl := lv_entry ([.ref h0]) (n := 1) (Nat.le_of_ble_eq_true rfl)
  rw [lg_entry_eq]
  generalize (lg_sl [Value.ref h0] ++ List.replicate (1 - (lg_sl [Value.ref h0]).length) Slot.unset).toArray = ls at hl ⊢
  have hl : lv_has ls 1 [(0, .ref h0)] := hl
  refine lv_aload_n hx hb zd_R_init_0 rfl (lv_at hl 0 rfl) ?_
  refine W.objInit hx hb hown (hts _ zx_116) (hts _ zx_16) (hts _ zx_17) rfl (by rw [hml]; exact hl.1) rfl zd_R_init_1 (Nat.le_of_ble_eq_true rfl) (Nat.le_of_ble_eq_true rfl) ?_
  refine W.eq (g2 := F0 m 4 ls []) rfl ?_
  refine lv_aload_n hx hb zd_R_init_4 rfl (lv_at hl 0 rfl) ?_
  refine lv_bipush (v := 8) hx hb zd_R_init_5 (by decide) ?_
  refine va_newa (atype := .int) (ty := .int) (a0 := (8, .inl (fun _ => 0))) (N' := 8) hx hb (hts _ zx_96) rfl hK hP hD hS hA (fun _ => rfl) (by decide) rfl (by decide) (Nat.le_of_ble_eq_true rfl) (Nat.le_of_ble_eq_true rfl) zd_R_init_7 (fun q1 c0 H hK hP hD hS => ?_)
  have hP : va_P D nk_clC [(h0, .inr (1, [.int 0, .null, .null])), (q1, .inl (c0, 8, .inl (fun _ => 0)))] H := hP
  have hD : va_D A [(h0, .inr (1, [.int 0, .null, .null])), (q1, .inl (c0, 8, .inl (fun _ => 0)))] := hD
  have hK : va_K D nk_clC [(c0, .int)] s := hK
  refine W.widen (k := 1) (n := 8) (Nat.le_of_ble_eq_true rfl) (Nat.le_of_ble_eq_true rfl) ?_
  refine va_putF (D := D) (ci := 1) (v := .ref q1) (ty := .array .int) (C := "NeedOnce$Readings") (T := zt_R) (N := 3) hx hb hts zu_R zq_R zk_R zm_R hown hK hP hD hS 0 rfl rfl 1 (by decide) (hts _ zx_119) (fun _ h9 => h9) rfl hin rfl (by decide +kernel) rfl rfl (Nat.le_of_ble_eq_true rfl) zd_R_init_9 (fun H locs hP hD hS => ?_)
  have hP : va_P D nk_clC [(h0, .inr (1, [.int 0, .ref q1, .null])), (q1, .inl (c0, 8, .inl (fun _ => 0)))] H := hP
  have hD : va_D A [(h0, .inr (1, [.int 0, .ref q1, .null])), (q1, .inl (c0, 8, .inl (fun _ => 0)))] := hD
  refine lv_aload_n hx hb zd_R_init_12 rfl (lv_at hl 0 rfl) ?_
  refine lv_bipush (v := 8) hx hb zd_R_init_13 (by decide) ?_
  refine va_newa (atype := .int) (ty := .int) (a0 := (8, .inl (fun _ => 0))) (N' := 8) hx hb (hts _ zx_96) rfl hK hP hD hS hA (fun _ => rfl) (by decide) rfl (by decide) (Nat.le_of_ble_eq_true rfl) (Nat.le_of_ble_eq_true rfl) zd_R_init_15 (fun q2 c1 H hK hP hD hS => ?_)
  have hP : va_P D nk_clC [(h0, .inr (1, [.int 0, .ref q1, .null])), (q1, .inl (c0, 8, .inl (fun _ => 0))), (q2, .inl (c1, 8, .inl (fun _ => 0)))] H := hP
  have hD : va_D A [(h0, .inr (1, [.int 0, .ref q1, .null])), (q1, .inl (c0, 8, .inl (fun _ => 0))), (q2, .inl (c1, 8, .inl (fun _ => 0)))] := hD
  have hK : va_K D nk_clC [(c0, .int), (c1, .int)] s := hK
  refine W.widen (k := 2) (n := 16) (Nat.le_of_ble_eq_true rfl) (Nat.le_of_ble_eq_true rfl) ?_
  refine va_putF (D := D) (ci := 1) (v := .ref q2) (ty := .array .int) (C := "NeedOnce$Readings") (T := zt_R) (N := 3) hx hb hts zu_R zq_R zk_R zm_R hown hK hP hD hS 0 rfl rfl 2 (by decide) (hts _ zx_120) (fun _ h9 => h9) rfl hin rfl (by decide +kernel) rfl rfl (Nat.le_of_ble_eq_true rfl) zd_R_init_17 (fun H locs hP hD hS => ?_)
  have hP : va_P D nk_clC [(h0, .inr (1, [.int 0, .ref q1, .ref q2])), (q1, .inl (c0, 8, .inl (fun _ => 0))), (q2, .inl (c1, 8, .inl (fun _ => 0)))] H := hP
  have hD : va_D A [(h0, .inr (1, [.int 0, .ref q1, .ref q2])), (q1, .inl (c0, 8, .inl (fun _ => 0))), (q2, .inl (c1, 8, .inl (fun _ => 0)))] := hD
  refine W.widen (k := 2) (n := 16) (Nat.le_of_ble_eq_true rfl) (Nat.le_of_ble_eq_true rfl) ?_
  exact W.vret hx hb hr (fun t ht hW => ⟨⟨(), rfl, trivial, _, _, ⟨q1, c0, q2, c1, rfl, rfl⟩, by rw [ht]; exact hP, va_K.moved hW.alike hK, hD⟩, hS.F ht⟩) hS.2.2 zd_R_init_20 hlocks
set_option maxHeartbeats 4000000 in
set_option maxRecDepth 100000 in
theorem zi_S (l : Launch) (D : va_G) (h0 sz : Nat) : nk_In l zy_S_init zb_S_init 1 1 D nk_clC (h0, .inr (2, [.null, .null, .null])) 7 252 (fun ws tys => ∃ (qo : Nat), ∃ (r0 : Nat), ∃ (r1 : Nat), ∃ (r2 : Nat), ∃ (r3 : Nat), ∃ (cA : ClassId), ∃ (cy : ClassId), ∃ (F : Nat → Option Nat), ∃ (q6 : Nat), ∃ (c2 : ClassId), ∃ (q7 : Nat), ∃ (c3 : ClassId), ws = [(h0, .inr (2, [.ref qo, .ref q6, .ref q7])), (qo, .inl (cA, 4, .inr (.inr (.inr (.inr F))))), (r0, .inl (cy, 60, .inl (fun _ => 0))), (r1, .inl (cy, 60, .inl (fun _ => 0))), (r2, .inl (cy, 60, .inl (fun _ => 0))), (r3, .inl (cy, 60, .inl (fun _ => 0))), (q6, .inl (c2, 4, .inl (upd (upd (upd (upd (fun _ => 0) 0 (-1)) 1 (-1)) 2 (-1)) 3 (-1)))), (q7, .inl (c3, 4, .inl (fun _ => 0)))] ∧ tys = [(cA, .array .int), (cy, .int), (c2, .int), (c3, .int)] ∧ F 0 = some r0 ∧ F 1 = some r1 ∧ F 2 = some r2 ∧ F 3 = some r3) sz := by
  refine Met.ofW (cc := zb_S_init) (maxL := 1) (ret := none) (by decide) rfl ?_
  intro p e s m args below meth c s₁ B hml hv
  obtain ⟨rfl, hsz, hP, hB⟩ := hv
  have hx := B.exec
  have hb := B.bytes
  have hr := B.returns
  have hts0 := atoms_spec (ws := Cond.code zy_S_init zb_S_init 1 none :: nk_GT) B.pre
  have hts : ∀ w ∈ nk_GT, w.before _ s = true := fun w hw => hts0 w (List.mem_cons_of_mem _ hw)
  have hown : s.vm.findClass "NeedOnce$Sheets" = some m.cls := findClass_of_methodNamed B.named
  have hlocks := B.notSynchronized
  have hin : meth.name = "<init>" := (name_of_methodNamed B.named B.method).1
  have hK := hB.1
  subst hsz
  have hD := nk_D1 (x := (h0, .inr (2, [.null, .null, .null]))) (sz := s.heap.size)
  generalize hAe : va_A [(h0, .inr (2, [.null, .null, .null]))] s.heap.size = A at hD ⊢
  have hA : ∀ q : Nat, s.heap.size ≤ q → A q := fun q h => by rw [← hAe]; exact Or.inr h
  have hS : va_S A s.heap s.heap [] := va_S.rf
  have hl := lv_entry ([.ref h0]) (n := 1) (Nat.le_of_ble_eq_true rfl)
  rw [lg_entry_eq]
  generalize (lg_sl [Value.ref h0] ++ List.replicate (1 - (lg_sl [Value.ref h0]).length) Slot.unset).toArray = ls at hl ⊢
  have hl : lv_has ls 1 [(0, .ref h0)] := hl
  refine lv_aload_n hx hb zd_S_init_0 rfl (lv_at hl 0 rfl) ?_
  refine W.objInit hx hb hown (hts _ zx_133) (hts _ zx_16) (hts _ zx_17) rfl (by rw [hml]; exact hl.1) rfl zd_S_init_1 (Nat.le_of_ble_eq_true rfl) (Nat.le_of_ble_eq_true rfl) ?_
  refine W.eq (g2 := F0 m 4 ls []) rfl ?_
  refine lv_aload_n hx hb zd_S_init_4 rfl (lv_at hl 0 rfl) ?_
  refine lv_iconst (v := 4) hx hb zd_S_init_5 (by decide) ?_
  refine lv_bipush (v := 60) hx hb zd_S_init_6 (by decide) ?_
  refine nk_mna hx hb hown (hts _ zx_134) hB.2.2 (hts _ zx_96) hK hP hD hS hA (Nat.le_of_ble_eq_true rfl) (Nat.le_of_ble_eq_true rfl) zd_S_init_8 (fun qo r0 r1 r2 r3 cA cy F H hF0 hF1 hF2 hF3 hK hP hD hS => ?_)
  have hP : va_P D nk_clC [(h0, .inr (2, [.null, .null, .null])), (qo, .inl (cA, 4, .inr (.inr (.inr (.inr F))))), (r0, .inl (cy, 60, .inl (fun _ => 0))), (r1, .inl (cy, 60, .inl (fun _ => 0))), (r2, .inl (cy, 60, .inl (fun _ => 0))), (r3, .inl (cy, 60, .inl (fun _ => 0)))] H := hP
  have hD : va_D A [(h0, .inr (2, [.null, .null, .null])), (qo, .inl (cA, 4, .inr (.inr (.inr (.inr F))))), (r0, .inl (cy, 60, .inl (fun _ => 0))), (r1, .inl (cy, 60, .inl (fun _ => 0))), (r2, .inl (cy, 60, .inl (fun _ => 0))), (r3, .inl (cy, 60, .inl (fun _ => 0)))] := hD
  have hK : va_K D nk_clC [(cA, .array .int), (cy, .int)] s := hK
  refine W.widen (k := 5) (n := 244) (Nat.le_of_ble_eq_true rfl) (Nat.le_of_ble_eq_true rfl) ?_
  refine va_putF (D := D) (ci := 2) (v := .ref qo) (ty := .array (.array .int)) (C := "NeedOnce$Sheets") (T := zt_S) (N := 3) hx hb hts zu_S zq_S zk_S zm_S hown hK hP hD hS 0 rfl rfl 0 (by decide) (hts _ zx_136) (fun _ h9 => h9) rfl hin rfl (by decide +kernel) rfl rfl (Nat.le_of_ble_eq_true rfl) zd_S_init_12 (fun H locs hP hD hS => ?_)
  have hP : va_P D nk_clC [(h0, .inr (2, [.ref qo, .null, .null])), (qo, .inl (cA, 4, .inr (.inr (.inr (.inr F))))), (r0, .inl (cy, 60, .inl (fun _ => 0))), (r1, .inl (cy, 60, .inl (fun _ => 0))), (r2, .inl (cy, 60, .inl (fun _ => 0))), (r3, .inl (cy, 60, .inl (fun _ => 0)))] H := hP
  have hD : va_D A [(h0, .inr (2, [.ref qo, .null, .null])), (qo, .inl (cA, 4, .inr (.inr (.inr (.inr F))))), (r0, .inl (cy, 60, .inl (fun _ => 0))), (r1, .inl (cy, 60, .inl (fun _ => 0))), (r2, .inl (cy, 60, .inl (fun _ => 0))), (r3, .inl (cy, 60, .inl (fun _ => 0)))] := hD
  refine lv_aload_n hx hb zd_S_init_15 rfl (lv_at hl 0 rfl) ?_
  refine lv_iconst (v := 4) hx hb zd_S_init_16 (by decide) ?_
  refine va_newa (atype := .int) (ty := .int) (a0 := (4, .inl (fun _ => 0))) (N' := 4) hx hb (hts _ zx_96) rfl hK hP hD hS hA (fun _ => rfl) (by decide) rfl (by decide) (Nat.le_of_ble_eq_true rfl) (Nat.le_of_ble_eq_true rfl) zd_S_init_17 (fun q6 c2 H hK hP hD hS => ?_)
  have hP : va_P D nk_clC [(h0, .inr (2, [.ref qo, .null, .null])), (qo, .inl (cA, 4, .inr (.inr (.inr (.inr F))))), (r0, .inl (cy, 60, .inl (fun _ => 0))), (r1, .inl (cy, 60, .inl (fun _ => 0))), (r2, .inl (cy, 60, .inl (fun _ => 0))), (r3, .inl (cy, 60, .inl (fun _ => 0))), (q6, .inl (c2, 4, .inl (fun _ => 0)))] H := hP
  have hD : va_D A [(h0, .inr (2, [.ref qo, .null, .null])), (qo, .inl (cA, 4, .inr (.inr (.inr (.inr F))))), (r0, .inl (cy, 60, .inl (fun _ => 0))), (r1, .inl (cy, 60, .inl (fun _ => 0))), (r2, .inl (cy, 60, .inl (fun _ => 0))), (r3, .inl (cy, 60, .inl (fun _ => 0))), (q6, .inl (c2, 4, .inl (fun _ => 0)))] := hD
  have hK : va_K D nk_clC [(cA, .array .int), (cy, .int), (c2, .int)] s := hK
  refine W.widen (k := 6) (n := 248) (Nat.le_of_ble_eq_true rfl) (Nat.le_of_ble_eq_true rfl) ?_
  refine lv_dup hx hb zd_S_init_19 rfl ?_
  refine lv_iconst (v := 0) hx hb zd_S_init_20 (by decide) ?_
  refine lv_iconst (v := -1) hx hb zd_S_init_21 (by decide) ?_
  refine va_iast (x := (-1)) hx hb hK hP hD hS 6 2 rfl rfl (i := 0) (by unfold vp_in; decide) zd_S_init_22 (fun H locs hP hD hS => ?_)
  have hP : va_P D nk_clC [(h0, .inr (2, [.ref qo, .null, .null])), (qo, .inl (cA, 4, .inr (.inr (.inr (.inr F))))), (r0, .inl (cy, 60, .inl (fun _ => 0))), (r1, .inl (cy, 60, .inl (fun _ => 0))), (r2, .inl (cy, 60, .inl (fun _ => 0))), (r3, .inl (cy, 60, .inl (fun _ => 0))), (q6, .inl (c2, 4, .inl (upd (fun _ => 0) 0 (-1))))] H := hP
  have hD : va_D A [(h0, .inr (2, [.ref qo, .null, .null])), (qo, .inl (cA, 4, .inr (.inr (.inr (.inr F))))), (r0, .inl (cy, 60, .inl (fun _ => 0))), (r1, .inl (cy, 60, .inl (fun _ => 0))), (r2, .inl (cy, 60, .inl (fun _ => 0))), (r3, .inl (cy, 60, .inl (fun _ => 0))), (q6, .inl (c2, 4, .inl (upd (fun _ => 0) 0 (-1))))] := hD
  refine lv_dup hx hb zd_S_init_23 rfl ?_
  refine lv_iconst (v := 1) hx hb zd_S_init_24 (by decide) ?_
  refine lv_iconst (v := -1) hx hb zd_S_init_25 (by decide) ?_
  refine va_iast (x := (-1)) hx hb hK hP hD hS 6 2 rfl rfl (i := 1) (by unfold vp_in; decide) zd_S_init_26 (fun H locs hP hD hS => ?_)
  have hP : va_P D nk_clC [(h0, .inr (2, [.ref qo, .null, .null])), (qo, .inl (cA, 4, .inr (.inr (.inr (.inr F))))), (r0, .inl (cy, 60, .inl (fun _ => 0))), (r1, .inl (cy, 60, .inl (fun _ => 0))), (r2, .inl (cy, 60, .inl (fun _ => 0))), (r3, .inl (cy, 60, .inl (fun _ => 0))), (q6, .inl (c2, 4, .inl (upd (upd (fun _ => 0) 0 (-1)) 1 (-1))))] H := hP
  have hD : va_D A [(h0, .inr (2, [.ref qo, .null, .null])), (qo, .inl (cA, 4, .inr (.inr (.inr (.inr F))))), (r0, .inl (cy, 60, .inl (fun _ => 0))), (r1, .inl (cy, 60, .inl (fun _ => 0))), (r2, .inl (cy, 60, .inl (fun _ => 0))), (r3, .inl (cy, 60, .inl (fun _ => 0))), (q6, .inl (c2, 4, .inl (upd (upd (fun _ => 0) 0 (-1)) 1 (-1))))] := hD
  refine lv_dup hx hb zd_S_init_27 rfl ?_
  refine lv_iconst (v := 2) hx hb zd_S_init_28 (by decide) ?_
  refine lv_iconst (v := -1) hx hb zd_S_init_29 (by decide) ?_
  refine va_iast (x := (-1)) hx hb hK hP hD hS 6 2 rfl rfl (i := 2) (by unfold vp_in; decide) zd_S_init_30 (fun H locs hP hD hS => ?_)
  have hP : va_P D nk_clC [(h0, .inr (2, [.ref qo, .null, .null])), (qo, .inl (cA, 4, .inr (.inr (.inr (.inr F))))), (r0, .inl (cy, 60, .inl (fun _ => 0))), (r1, .inl (cy, 60, .inl (fun _ => 0))), (r2, .inl (cy, 60, .inl (fun _ => 0))), (r3, .inl (cy, 60, .inl (fun _ => 0))), (q6, .inl (c2, 4, .inl (upd (upd (upd (fun _ => 0) 0 (-1)) 1 (-1)) 2 (-1))))] H := hP
  have hD : va_D A [(h0, .inr (2, [.ref qo, .null, .null])), (qo, .inl (cA, 4, .inr (.inr (.inr (.inr F))))), (r0, .inl (cy, 60, .inl (fun _ => 0))), (r1, .inl (cy, 60, .inl (fun _ => 0))), (r2, .inl (cy, 60, .inl (fun _ => 0))), (r3, .inl (cy, 60, .inl (fun _ => 0))), (q6, .inl (c2, 4, .inl (upd (upd (upd (fun _ => 0) 0 (-1)) 1 (-1)) 2 (-1))))] := hD
  refine lv_dup hx hb zd_S_init_31 rfl ?_
  refine lv_iconst (v := 3) hx hb zd_S_init_32 (by decide) ?_
  refine lv_iconst (v := -1) hx hb zd_S_init_33 (by decide) ?_
  refine va_iast (x := (-1)) hx hb hK hP hD hS 6 2 rfl rfl (i := 3) (by unfold vp_in; decide) zd_S_init_34 (fun H locs hP hD hS => ?_)
  have hP : va_P D nk_clC [(h0, .inr (2, [.ref qo, .null, .null])), (qo, .inl (cA, 4, .inr (.inr (.inr (.inr F))))), (r0, .inl (cy, 60, .inl (fun _ => 0))), (r1, .inl (cy, 60, .inl (fun _ => 0))), (r2, .inl (cy, 60, .inl (fun _ => 0))), (r3, .inl (cy, 60, .inl (fun _ => 0))), (q6, .inl (c2, 4, .inl (upd (upd (upd (upd (fun _ => 0) 0 (-1)) 1 (-1)) 2 (-1)) 3 (-1))))] H := hP
  have hD : va_D A [(h0, .inr (2, [.ref qo, .null, .null])), (qo, .inl (cA, 4, .inr (.inr (.inr (.inr F))))), (r0, .inl (cy, 60, .inl (fun _ => 0))), (r1, .inl (cy, 60, .inl (fun _ => 0))), (r2, .inl (cy, 60, .inl (fun _ => 0))), (r3, .inl (cy, 60, .inl (fun _ => 0))), (q6, .inl (c2, 4, .inl (upd (upd (upd (upd (fun _ => 0) 0 (-1)) 1 (-1)) 2 (-1)) 3 (-1))))] := hD
  refine va_putF (D := D) (ci := 2) (v := .ref q6) (ty := .array .int) (C := "NeedOnce$Sheets") (T := zt_S) (N := 3) hx hb hts zu_S zq_S zk_S zm_S hown hK hP hD hS 0 rfl rfl 1 (by decide) (hts _ zx_137) (fun _ h9 => h9) rfl hin rfl (by decide +kernel) rfl rfl (Nat.le_of_ble_eq_true rfl) zd_S_init_35 (fun H locs hP hD hS => ?_)
  have hP : va_P D nk_clC [(h0, .inr (2, [.ref qo, .ref q6, .null])), (qo, .inl (cA, 4, .inr (.inr (.inr (.inr F))))), (r0, .inl (cy, 60, .inl (fun _ => 0))), (r1, .inl (cy, 60, .inl (fun _ => 0))), (r2, .inl (cy, 60, .inl (fun _ => 0))), (r3, .inl (cy, 60, .inl (fun _ => 0))), (q6, .inl (c2, 4, .inl (upd (upd (upd (upd (fun _ => 0) 0 (-1)) 1 (-1)) 2 (-1)) 3 (-1))))] H := hP
  have hD : va_D A [(h0, .inr (2, [.ref qo, .ref q6, .null])), (qo, .inl (cA, 4, .inr (.inr (.inr (.inr F))))), (r0, .inl (cy, 60, .inl (fun _ => 0))), (r1, .inl (cy, 60, .inl (fun _ => 0))), (r2, .inl (cy, 60, .inl (fun _ => 0))), (r3, .inl (cy, 60, .inl (fun _ => 0))), (q6, .inl (c2, 4, .inl (upd (upd (upd (upd (fun _ => 0) 0 (-1)) 1 (-1)) 2 (-1)) 3 (-1))))] := hD
  refine lv_aload_n hx hb zd_S_init_38 rfl (lv_at hl 0 rfl) ?_
  refine lv_iconst (v := 4) hx hb zd_S_init_39 (by decide) ?_
  refine va_newa (atype := .int) (ty := .int) (a0 := (4, .inl (fun _ => 0))) (N' := 4) hx hb (hts _ zx_96) rfl hK hP hD hS hA (fun _ => rfl) (by decide) rfl (by decide) (Nat.le_of_ble_eq_true rfl) (Nat.le_of_ble_eq_true rfl) zd_S_init_40 (fun q7 c3 H hK hP hD hS => ?_)
  have hP : va_P D nk_clC [(h0, .inr (2, [.ref qo, .ref q6, .null])), (qo, .inl (cA, 4, .inr (.inr (.inr (.inr F))))), (r0, .inl (cy, 60, .inl (fun _ => 0))), (r1, .inl (cy, 60, .inl (fun _ => 0))), (r2, .inl (cy, 60, .inl (fun _ => 0))), (r3, .inl (cy, 60, .inl (fun _ => 0))), (q6, .inl (c2, 4, .inl (upd (upd (upd (upd (fun _ => 0) 0 (-1)) 1 (-1)) 2 (-1)) 3 (-1)))), (q7, .inl (c3, 4, .inl (fun _ => 0)))] H := hP
  have hD : va_D A [(h0, .inr (2, [.ref qo, .ref q6, .null])), (qo, .inl (cA, 4, .inr (.inr (.inr (.inr F))))), (r0, .inl (cy, 60, .inl (fun _ => 0))), (r1, .inl (cy, 60, .inl (fun _ => 0))), (r2, .inl (cy, 60, .inl (fun _ => 0))), (r3, .inl (cy, 60, .inl (fun _ => 0))), (q6, .inl (c2, 4, .inl (upd (upd (upd (upd (fun _ => 0) 0 (-1)) 1 (-1)) 2 (-1)) 3 (-1)))), (q7, .inl (c3, 4, .inl (fun _ => 0)))] := hD
  have hK : va_K D nk_clC [(cA, .array .int), (cy, .int), (c2, .int), (c3, .int)] s := hK
  refine W.widen (k := 7) (n := 252) (Nat.le_of_ble_eq_true rfl) (Nat.le_of_ble_eq_true rfl) ?_
  refine va_putF (D := D) (ci := 2) (v := .ref q7) (ty := .array .int) (C := "NeedOnce$Sheets") (T := zt_S) (N := 3) hx hb hts zu_S zq_S zk_S zm_S hown hK hP hD hS 0 rfl rfl 2 (by decide) (hts _ zx_139) (fun _ h9 => h9) rfl hin rfl (by decide +kernel) rfl rfl (Nat.le_of_ble_eq_true rfl) zd_S_init_42 (fun H locs hP hD hS => ?_)
  have hP : va_P D nk_clC [(h0, .inr (2, [.ref qo, .ref q6, .ref q7])), (qo, .inl (cA, 4, .inr (.inr (.inr (.inr F))))), (r0, .inl (cy, 60, .inl (fun _ => 0))), (r1, .inl (cy, 60, .inl (fun _ => 0))), (r2, .inl (cy, 60, .inl (fun _ => 0))), (r3, .inl (cy, 60, .inl (fun _ => 0))), (q6, .inl (c2, 4, .inl (upd (upd (upd (upd (fun _ => 0) 0 (-1)) 1 (-1)) 2 (-1)) 3 (-1)))), (q7, .inl (c3, 4, .inl (fun _ => 0)))] H := hP
  have hD : va_D A [(h0, .inr (2, [.ref qo, .ref q6, .ref q7])), (qo, .inl (cA, 4, .inr (.inr (.inr (.inr F))))), (r0, .inl (cy, 60, .inl (fun _ => 0))), (r1, .inl (cy, 60, .inl (fun _ => 0))), (r2, .inl (cy, 60, .inl (fun _ => 0))), (r3, .inl (cy, 60, .inl (fun _ => 0))), (q6, .inl (c2, 4, .inl (upd (upd (upd (upd (fun _ => 0) 0 (-1)) 1 (-1)) 2 (-1)) 3 (-1)))), (q7, .inl (c3, 4, .inl (fun _ => 0)))] := hD
  refine W.widen (k := 7) (n := 252) (Nat.le_of_ble_eq_true rfl) (Nat.le_of_ble_eq_true rfl) ?_
  exact W.vret hx hb hr (fun t ht hW => ⟨⟨(), rfl, trivial, _, _, ⟨qo, r0, r1, r2, r3, cA, cy, F, q6, c2, q7, c3, rfl, rfl, hF0, hF1, hF2, hF3⟩, by rw [ht]; exact hP, va_K.moved hW.alike hK, hD⟩, hS.F ht⟩) hS.2.2 zd_S_init_45 hlocks
set_option maxHeartbeats 4000000 in
set_option maxRecDepth 100000 in
theorem zi_C (l : Launch) (D : va_G) (h0 sz : Nat) : nk_In l zy_C_init zb_C_init 1 3 D nk_clC (h0, .inr (0, [.int 0, .null, .null, .null, .null, .null, .null, .null, .null, .int 0, .int 0, .int 0, .int 0, .int 0, .int 0, .null])) 9 88 (fun ws tys => ∃ (q1 : Nat), ∃ (c0 : ClassId), ∃ (q2 : Nat), ∃ (c1 : ClassId), ∃ (q3 : Nat), ∃ (c2 : ClassId), ∃ (q4 : Nat), ∃ (c3 : ClassId), ∃ (q5 : Nat), ∃ (c4 : ClassId), ∃ (q6 : Nat), ∃ (c5 : ClassId), ∃ (q7 : Nat), ∃ (c6 : ClassId), ∃ (q8 : Nat), ∃ (c7 : ClassId), ∃ (q9 : Nat), ∃ (c8 : ClassId), ∃ (f5 : Nat → Int32), ∃ (f6 : Nat → Int32), ∃ (f7 : Nat → Int32), ws = [(h0, .inr (0, [.int 0, .ref q1, .ref q2, .ref q3, .ref q4, .ref q5, .ref q6, .ref q7, .ref q8, .int 1, .int 0, .int 0, .int 0, .int 0, .int 0, .ref q9])), (q1, .inl (c0, 8, .inl (fun _ => 0))), (q2, .inl (c1, 8, .inl (fun _ => 0))), (q3, .inl (c2, 8, .inl (fun _ => 0))), (q4, .inl (c3, 24, .inl (fun _ => 0))), (q5, .inl (c4, 8, .inl f5)), (q6, .inl (c5, 8, .inl f6)), (q7, .inl (c6, 8, .inl f7)), (q8, .inl (c7, 8, .inl (fun _ => 0))), (q9, .inl (c8, 8, .inl (fun _ => 0)))] ∧ tys = [(c0, .int), (c1, .int), (c2, .int), (c3, .int), (c4, .int), (c5, .int), (c6, .int), (c7, .boolean), (c8, .int)]) sz := by
  refine Met.ofW (cc := zb_C_init) (maxL := 1) (ret := none) (by decide) rfl ?_
  intro p e s m args below meth c s₁ B hml hv
  obtain ⟨rfl, hsz, hP, hB⟩ := hv
  have hx := B.exec
  have hb := B.bytes
  have hr := B.returns
  have hts0 := atoms_spec (ws := Cond.code zy_C_init zb_C_init 1 none :: nk_GT) B.pre
  have hts : ∀ w ∈ nk_GT, w.before _ s = true := fun w hw => hts0 w (List.mem_cons_of_mem _ hw)
  have hown : s.vm.findClass "NeedOnce$Cells" = some m.cls := findClass_of_methodNamed B.named
  have hlocks := B.notSynchronized
  have hin : meth.name = "<init>" := (name_of_methodNamed B.named B.method).1
  have hK := hB.1
  subst hsz
  have hD := nk_D1 (x := (h0, .inr (0, [.int 0, .null, .null, .null, .null, .null, .null, .null, .null, .int 0, .int 0, .int 0, .int 0, .int 0, .int 0, .null]))) (sz := s.heap.size)
  generalize hAe : va_A [(h0, .inr (0, [.int 0, .null, .null, .null, .null, .null, .null, .null, .null, .int 0, .int 0, .int 0, .int 0, .int 0, .int 0, .null]))] s.heap.size = A at hD ⊢
  have hA : ∀ q : Nat, s.heap.size ≤ q → A q := fun q h => by rw [← hAe]; exact Or.inr h
  have hS : va_S A s.heap s.heap [] := va_S.rf
  have hl := lv_entry ([.ref h0]) (n := 1) (Nat.le_of_ble_eq_true rfl)
  rw [lg_entry_eq]
  generalize (lg_sl [Value.ref h0] ++ List.replicate (1 - (lg_sl [Value.ref h0]).length) Slot.unset).toArray = ls at hl ⊢
  have hl : lv_has ls 1 [(0, .ref h0)] := hl
  refine lv_aload_n hx hb zd_C_init_0 rfl (lv_at hl 0 rfl) ?_
  refine W.objInit hx hb hown (hts _ zx_23) (hts _ zx_16) (hts _ zx_17) rfl (by rw [hml]; exact hl.1) rfl zd_C_init_1 (Nat.le_of_ble_eq_true rfl) (Nat.le_of_ble_eq_true rfl) ?_
  refine W.eq (g2 := F0 m 4 ls []) rfl ?_
  refine lv_aload_n hx hb zd_C_init_4 rfl (lv_at hl 0 rfl) ?_
  refine lv_bipush (v := 8) hx hb zd_C_init_5 (by decide) ?_
  refine va_newa (atype := .int) (ty := .int) (a0 := (8, .inl (fun _ => 0))) (N' := 8) hx hb (hts _ zx_96) rfl hK hP hD hS hA (fun _ => rfl) (by decide) rfl (by decide) (Nat.le_of_ble_eq_true rfl) (Nat.le_of_ble_eq_true rfl) zd_C_init_7 (fun q1 c0 H hK hP hD hS => ?_)
  have hP : va_P D nk_clC [(h0, .inr (0, [.int 0, .null, .null, .null, .null, .null, .null, .null, .null, .int 0, .int 0, .int 0, .int 0, .int 0, .int 0, .null])), (q1, .inl (c0, 8, .inl (fun _ => 0)))] H := hP
  have hD : va_D A [(h0, .inr (0, [.int 0, .null, .null, .null, .null, .null, .null, .null, .null, .int 0, .int 0, .int 0, .int 0, .int 0, .int 0, .null])), (q1, .inl (c0, 8, .inl (fun _ => 0)))] := hD
  have hK : va_K D nk_clC [(c0, .int)] s := hK
  refine W.widen (k := 1) (n := 8) (Nat.le_of_ble_eq_true rfl) (Nat.le_of_ble_eq_true rfl) ?_
  refine va_putF (D := D) (ci := 0) (v := .ref q1) (ty := .array .int) (C := "NeedOnce$Cells") (T := zt_C) (N := 16) hx hb hts zu_C zq_C zk_C zm_C hown hK hP hD hS 0 rfl rfl 1 (by decide) (hts _ zx_34) (fun _ h9 => h9) rfl hin rfl (by decide +kernel) rfl rfl (Nat.le_of_ble_eq_true rfl) zd_C_init_9 (fun H locs hP hD hS => ?_)
  have hP : va_P D nk_clC [(h0, .inr (0, [.int 0, .ref q1, .null, .null, .null, .null, .null, .null, .null, .int 0, .int 0, .int 0, .int 0, .int 0, .int 0, .null])), (q1, .inl (c0, 8, .inl (fun _ => 0)))] H := hP
  have hD : va_D A [(h0, .inr (0, [.int 0, .ref q1, .null, .null, .null, .null, .null, .null, .null, .int 0, .int 0, .int 0, .int 0, .int 0, .int 0, .null])), (q1, .inl (c0, 8, .inl (fun _ => 0)))] := hD
  refine lv_aload_n hx hb zd_C_init_12 rfl (lv_at hl 0 rfl) ?_
  refine lv_bipush (v := 8) hx hb zd_C_init_13 (by decide) ?_
  refine va_newa (atype := .int) (ty := .int) (a0 := (8, .inl (fun _ => 0))) (N' := 8) hx hb (hts _ zx_96) rfl hK hP hD hS hA (fun _ => rfl) (by decide) rfl (by decide) (Nat.le_of_ble_eq_true rfl) (Nat.le_of_ble_eq_true rfl) zd_C_init_15 (fun q2 c1 H hK hP hD hS => ?_)
  have hP : va_P D nk_clC [(h0, .inr (0, [.int 0, .ref q1, .null, .null, .null, .null, .null, .null, .null, .int 0, .int 0, .int 0, .int 0, .int 0, .int 0, .null])), (q1, .inl (c0, 8, .inl (fun _ => 0))), (q2, .inl (c1, 8, .inl (fun _ => 0)))] H := hP
  have hD : va_D A [(h0, .inr (0, [.int 0, .ref q1, .null, .null, .null, .null, .null, .null, .null, .int 0, .int 0, .int 0, .int 0, .int 0, .int 0, .null])), (q1, .inl (c0, 8, .inl (fun _ => 0))), (q2, .inl (c1, 8, .inl (fun _ => 0)))] := hD
  have hK : va_K D nk_clC [(c0, .int), (c1, .int)] s := hK
  refine W.widen (k := 2) (n := 16) (Nat.le_of_ble_eq_true rfl) (Nat.le_of_ble_eq_true rfl) ?_
  refine va_putF (D := D) (ci := 0) (v := .ref q2) (ty := .array .int) (C := "NeedOnce$Cells") (T := zt_C) (N := 16) hx hb hts zu_C zq_C zk_C zm_C hown hK hP hD hS 0 rfl rfl 2 (by decide) (hts _ zx_37) (fun _ h9 => h9) rfl hin rfl (by decide +kernel) rfl rfl (Nat.le_of_ble_eq_true rfl) zd_C_init_17 (fun H locs hP hD hS => ?_)
  have hP : va_P D nk_clC [(h0, .inr (0, [.int 0, .ref q1, .ref q2, .null, .null, .null, .null, .null, .null, .int 0, .int 0, .int 0, .int 0, .int 0, .int 0, .null])), (q1, .inl (c0, 8, .inl (fun _ => 0))), (q2, .inl (c1, 8, .inl (fun _ => 0)))] H := hP
  have hD : va_D A [(h0, .inr (0, [.int 0, .ref q1, .ref q2, .null, .null, .null, .null, .null, .null, .int 0, .int 0, .int 0, .int 0, .int 0, .int 0, .null])), (q1, .inl (c0, 8, .inl (fun _ => 0))), (q2, .inl (c1, 8, .inl (fun _ => 0)))] := hD
  refine lv_aload_n hx hb zd_C_init_20 rfl (lv_at hl 0 rfl) ?_
  refine lv_bipush (v := 8) hx hb zd_C_init_21 (by decide) ?_
  refine va_newa (atype := .int) (ty := .int) (a0 := (8, .inl (fun _ => 0))) (N' := 8) hx hb (hts _ zx_96) rfl hK hP hD hS hA (fun _ => rfl) (by decide) rfl (by decide) (Nat.le_of_ble_eq_true rfl) (Nat.le_of_ble_eq_true rfl) zd_C_init_23 (fun q3 c2 H hK hP hD hS => ?_)
  have hP : va_P D nk_clC [(h0, .inr (0, [.int 0, .ref q1, .ref q2, .null, .null, .null, .null, .null, .null, .int 0, .int 0, .int 0, .int 0, .int 0, .int 0, .null])), (q1, .inl (c0, 8, .inl (fun _ => 0))), (q2, .inl (c1, 8, .inl (fun _ => 0))), (q3, .inl (c2, 8, .inl (fun _ => 0)))] H := hP
  have hD : va_D A [(h0, .inr (0, [.int 0, .ref q1, .ref q2, .null, .null, .null, .null, .null, .null, .int 0, .int 0, .int 0, .int 0, .int 0, .int 0, .null])), (q1, .inl (c0, 8, .inl (fun _ => 0))), (q2, .inl (c1, 8, .inl (fun _ => 0))), (q3, .inl (c2, 8, .inl (fun _ => 0)))] := hD
  have hK : va_K D nk_clC [(c0, .int), (c1, .int), (c2, .int)] s := hK
  refine W.widen (k := 3) (n := 24) (Nat.le_of_ble_eq_true rfl) (Nat.le_of_ble_eq_true rfl) ?_
  refine va_putF (D := D) (ci := 0) (v := .ref q3) (ty := .array .int) (C := "NeedOnce$Cells") (T := zt_C) (N := 16) hx hb hts zu_C zq_C zk_C zm_C hown hK hP hD hS 0 rfl rfl 3 (by decide) (hts _ zx_40) (fun _ h9 => h9) rfl hin rfl (by decide +kernel) rfl rfl (Nat.le_of_ble_eq_true rfl) zd_C_init_25 (fun H locs hP hD hS => ?_)
  have hP : va_P D nk_clC [(h0, .inr (0, [.int 0, .ref q1, .ref q2, .ref q3, .null, .null, .null, .null, .null, .int 0, .int 0, .int 0, .int 0, .int 0, .int 0, .null])), (q1, .inl (c0, 8, .inl (fun _ => 0))), (q2, .inl (c1, 8, .inl (fun _ => 0))), (q3, .inl (c2, 8, .inl (fun _ => 0)))] H := hP
  have hD : va_D A [(h0, .inr (0, [.int 0, .ref q1, .ref q2, .ref q3, .null, .null, .null, .null, .null, .int 0, .int 0, .int 0, .int 0, .int 0, .int 0, .null])), (q1, .inl (c0, 8, .inl (fun _ => 0))), (q2, .inl (c1, 8, .inl (fun _ => 0))), (q3, .inl (c2, 8, .inl (fun _ => 0)))] := hD
  refine lv_aload_n hx hb zd_C_init_28 rfl (lv_at hl 0 rfl) ?_
  refine lv_bipush (v := 24) hx hb zd_C_init_29 (by decide) ?_
  refine va_newa (atype := .int) (ty := .int) (a0 := (24, .inl (fun _ => 0))) (N' := 24) hx hb (hts _ zx_96) rfl hK hP hD hS hA (fun _ => rfl) (by decide) rfl (by decide) (Nat.le_of_ble_eq_true rfl) (Nat.le_of_ble_eq_true rfl) zd_C_init_31 (fun q4 c3 H hK hP hD hS => ?_)
  have hP : va_P D nk_clC [(h0, .inr (0, [.int 0, .ref q1, .ref q2, .ref q3, .null, .null, .null, .null, .null, .int 0, .int 0, .int 0, .int 0, .int 0, .int 0, .null])), (q1, .inl (c0, 8, .inl (fun _ => 0))), (q2, .inl (c1, 8, .inl (fun _ => 0))), (q3, .inl (c2, 8, .inl (fun _ => 0))), (q4, .inl (c3, 24, .inl (fun _ => 0)))] H := hP
  have hD : va_D A [(h0, .inr (0, [.int 0, .ref q1, .ref q2, .ref q3, .null, .null, .null, .null, .null, .int 0, .int 0, .int 0, .int 0, .int 0, .int 0, .null])), (q1, .inl (c0, 8, .inl (fun _ => 0))), (q2, .inl (c1, 8, .inl (fun _ => 0))), (q3, .inl (c2, 8, .inl (fun _ => 0))), (q4, .inl (c3, 24, .inl (fun _ => 0)))] := hD
  have hK : va_K D nk_clC [(c0, .int), (c1, .int), (c2, .int), (c3, .int)] s := hK
  refine W.widen (k := 4) (n := 48) (Nat.le_of_ble_eq_true rfl) (Nat.le_of_ble_eq_true rfl) ?_
  refine va_putF (D := D) (ci := 0) (v := .ref q4) (ty := .array .int) (C := "NeedOnce$Cells") (T := zt_C) (N := 16) hx hb hts zu_C zq_C zk_C zm_C hown hK hP hD hS 0 rfl rfl 4 (by decide) (hts _ zx_43) (fun _ h9 => h9) rfl hin rfl (by decide +kernel) rfl rfl (Nat.le_of_ble_eq_true rfl) zd_C_init_33 (fun H locs hP hD hS => ?_)
  have hP : va_P D nk_clC [(h0, .inr (0, [.int 0, .ref q1, .ref q2, .ref q3, .ref q4, .null, .null, .null, .null, .int 0, .int 0, .int 0, .int 0, .int 0, .int 0, .null])), (q1, .inl (c0, 8, .inl (fun _ => 0))), (q2, .inl (c1, 8, .inl (fun _ => 0))), (q3, .inl (c2, 8, .inl (fun _ => 0))), (q4, .inl (c3, 24, .inl (fun _ => 0)))] H := hP
  have hD : va_D A [(h0, .inr (0, [.int 0, .ref q1, .ref q2, .ref q3, .ref q4, .null, .null, .null, .null, .int 0, .int 0, .int 0, .int 0, .int 0, .int 0, .null])), (q1, .inl (c0, 8, .inl (fun _ => 0))), (q2, .inl (c1, 8, .inl (fun _ => 0))), (q3, .inl (c2, 8, .inl (fun _ => 0))), (q4, .inl (c3, 24, .inl (fun _ => 0)))] := hD
  refine lv_aload_n hx hb zd_C_init_36 rfl (lv_at hl 0 rfl) ?_
  refine lv_bipush (v := 8) hx hb zd_C_init_37 (by decide) ?_
  refine va_newa (atype := .int) (ty := .int) (a0 := (8, .inl (fun _ => 0))) (N' := 8) hx hb (hts _ zx_96) rfl hK hP hD hS hA (fun _ => rfl) (by decide) rfl (by decide) (Nat.le_of_ble_eq_true rfl) (Nat.le_of_ble_eq_true rfl) zd_C_init_39 (fun q5 c4 H hK hP hD hS => ?_)
  have hP : va_P D nk_clC [(h0, .inr (0, [.int 0, .ref q1, .ref q2, .ref q3, .ref q4, .null, .null, .null, .null, .int 0, .int 0, .int 0, .int 0, .int 0, .int 0, .null])), (q1, .inl (c0, 8, .inl (fun _ => 0))), (q2, .inl (c1, 8, .inl (fun _ => 0))), (q3, .inl (c2, 8, .inl (fun _ => 0))), (q4, .inl (c3, 24, .inl (fun _ => 0))), (q5, .inl (c4, 8, .inl (fun _ => 0)))] H := hP
  have hD : va_D A [(h0, .inr (0, [.int 0, .ref q1, .ref q2, .ref q3, .ref q4, .null, .null, .null, .null, .int 0, .int 0, .int 0, .int 0, .int 0, .int 0, .null])), (q1, .inl (c0, 8, .inl (fun _ => 0))), (q2, .inl (c1, 8, .inl (fun _ => 0))), (q3, .inl (c2, 8, .inl (fun _ => 0))), (q4, .inl (c3, 24, .inl (fun _ => 0))), (q5, .inl (c4, 8, .inl (fun _ => 0)))] := hD
  have hK : va_K D nk_clC [(c0, .int), (c1, .int), (c2, .int), (c3, .int), (c4, .int)] s := hK
  refine W.widen (k := 5) (n := 56) (Nat.le_of_ble_eq_true rfl) (Nat.le_of_ble_eq_true rfl) ?_
  refine va_putF (D := D) (ci := 0) (v := .ref q5) (ty := .array .int) (C := "NeedOnce$Cells") (T := zt_C) (N := 16) hx hb hts zu_C zq_C zk_C zm_C hown hK hP hD hS 0 rfl rfl 5 (by decide) (hts _ zx_44) (fun _ h9 => h9) rfl hin rfl (by decide +kernel) rfl rfl (Nat.le_of_ble_eq_true rfl) zd_C_init_41 (fun H locs hP hD hS => ?_)
  have hP : va_P D nk_clC [(h0, .inr (0, [.int 0, .ref q1, .ref q2, .ref q3, .ref q4, .ref q5, .null, .null, .null, .int 0, .int 0, .int 0, .int 0, .int 0, .int 0, .null])), (q1, .inl (c0, 8, .inl (fun _ => 0))), (q2, .inl (c1, 8, .inl (fun _ => 0))), (q3, .inl (c2, 8, .inl (fun _ => 0))), (q4, .inl (c3, 24, .inl (fun _ => 0))), (q5, .inl (c4, 8, .inl (fun _ => 0)))] H := hP
  have hD : va_D A [(h0, .inr (0, [.int 0, .ref q1, .ref q2, .ref q3, .ref q4, .ref q5, .null, .null, .null, .int 0, .int 0, .int 0, .int 0, .int 0, .int 0, .null])), (q1, .inl (c0, 8, .inl (fun _ => 0))), (q2, .inl (c1, 8, .inl (fun _ => 0))), (q3, .inl (c2, 8, .inl (fun _ => 0))), (q4, .inl (c3, 24, .inl (fun _ => 0))), (q5, .inl (c4, 8, .inl (fun _ => 0)))] := hD
  refine lv_aload_n hx hb zd_C_init_44 rfl (lv_at hl 0 rfl) ?_
  refine lv_bipush (v := 8) hx hb zd_C_init_45 (by decide) ?_
  refine va_newa (atype := .int) (ty := .int) (a0 := (8, .inl (fun _ => 0))) (N' := 8) hx hb (hts _ zx_96) rfl hK hP hD hS hA (fun _ => rfl) (by decide) rfl (by decide) (Nat.le_of_ble_eq_true rfl) (Nat.le_of_ble_eq_true rfl) zd_C_init_47 (fun q6 c5 H hK hP hD hS => ?_)
  have hP : va_P D nk_clC [(h0, .inr (0, [.int 0, .ref q1, .ref q2, .ref q3, .ref q4, .ref q5, .null, .null, .null, .int 0, .int 0, .int 0, .int 0, .int 0, .int 0, .null])), (q1, .inl (c0, 8, .inl (fun _ => 0))), (q2, .inl (c1, 8, .inl (fun _ => 0))), (q3, .inl (c2, 8, .inl (fun _ => 0))), (q4, .inl (c3, 24, .inl (fun _ => 0))), (q5, .inl (c4, 8, .inl (fun _ => 0))), (q6, .inl (c5, 8, .inl (fun _ => 0)))] H := hP
  have hD : va_D A [(h0, .inr (0, [.int 0, .ref q1, .ref q2, .ref q3, .ref q4, .ref q5, .null, .null, .null, .int 0, .int 0, .int 0, .int 0, .int 0, .int 0, .null])), (q1, .inl (c0, 8, .inl (fun _ => 0))), (q2, .inl (c1, 8, .inl (fun _ => 0))), (q3, .inl (c2, 8, .inl (fun _ => 0))), (q4, .inl (c3, 24, .inl (fun _ => 0))), (q5, .inl (c4, 8, .inl (fun _ => 0))), (q6, .inl (c5, 8, .inl (fun _ => 0)))] := hD
  have hK : va_K D nk_clC [(c0, .int), (c1, .int), (c2, .int), (c3, .int), (c4, .int), (c5, .int)] s := hK
  refine W.widen (k := 6) (n := 64) (Nat.le_of_ble_eq_true rfl) (Nat.le_of_ble_eq_true rfl) ?_
  refine va_putF (D := D) (ci := 0) (v := .ref q6) (ty := .array .int) (C := "NeedOnce$Cells") (T := zt_C) (N := 16) hx hb hts zu_C zq_C zk_C zm_C hown hK hP hD hS 0 rfl rfl 6 (by decide) (hts _ zx_46) (fun _ h9 => h9) rfl hin rfl (by decide +kernel) rfl rfl (Nat.le_of_ble_eq_true rfl) zd_C_init_49 (fun H locs hP hD hS => ?_)
  have hP : va_P D nk_clC [(h0, .inr (0, [.int 0, .ref q1, .ref q2, .ref q3, .ref q4, .ref q5, .ref q6, .null, .null, .int 0, .int 0, .int 0, .int 0, .int 0, .int 0, .null])), (q1, .inl (c0, 8, .inl (fun _ => 0))), (q2, .inl (c1, 8, .inl (fun _ => 0))), (q3, .inl (c2, 8, .inl (fun _ => 0))), (q4, .inl (c3, 24, .inl (fun _ => 0))), (q5, .inl (c4, 8, .inl (fun _ => 0))), (q6, .inl (c5, 8, .inl (fun _ => 0)))] H := hP
  have hD : va_D A [(h0, .inr (0, [.int 0, .ref q1, .ref q2, .ref q3, .ref q4, .ref q5, .ref q6, .null, .null, .int 0, .int 0, .int 0, .int 0, .int 0, .int 0, .null])), (q1, .inl (c0, 8, .inl (fun _ => 0))), (q2, .inl (c1, 8, .inl (fun _ => 0))), (q3, .inl (c2, 8, .inl (fun _ => 0))), (q4, .inl (c3, 24, .inl (fun _ => 0))), (q5, .inl (c4, 8, .inl (fun _ => 0))), (q6, .inl (c5, 8, .inl (fun _ => 0)))] := hD
  refine lv_aload_n hx hb zd_C_init_52 rfl (lv_at hl 0 rfl) ?_
  refine lv_bipush (v := 8) hx hb zd_C_init_53 (by decide) ?_
  refine va_newa (atype := .int) (ty := .int) (a0 := (8, .inl (fun _ => 0))) (N' := 8) hx hb (hts _ zx_96) rfl hK hP hD hS hA (fun _ => rfl) (by decide) rfl (by decide) (Nat.le_of_ble_eq_true rfl) (Nat.le_of_ble_eq_true rfl) zd_C_init_55 (fun q7 c6 H hK hP hD hS => ?_)
  have hP : va_P D nk_clC [(h0, .inr (0, [.int 0, .ref q1, .ref q2, .ref q3, .ref q4, .ref q5, .ref q6, .null, .null, .int 0, .int 0, .int 0, .int 0, .int 0, .int 0, .null])), (q1, .inl (c0, 8, .inl (fun _ => 0))), (q2, .inl (c1, 8, .inl (fun _ => 0))), (q3, .inl (c2, 8, .inl (fun _ => 0))), (q4, .inl (c3, 24, .inl (fun _ => 0))), (q5, .inl (c4, 8, .inl (fun _ => 0))), (q6, .inl (c5, 8, .inl (fun _ => 0))), (q7, .inl (c6, 8, .inl (fun _ => 0)))] H := hP
  have hD : va_D A [(h0, .inr (0, [.int 0, .ref q1, .ref q2, .ref q3, .ref q4, .ref q5, .ref q6, .null, .null, .int 0, .int 0, .int 0, .int 0, .int 0, .int 0, .null])), (q1, .inl (c0, 8, .inl (fun _ => 0))), (q2, .inl (c1, 8, .inl (fun _ => 0))), (q3, .inl (c2, 8, .inl (fun _ => 0))), (q4, .inl (c3, 24, .inl (fun _ => 0))), (q5, .inl (c4, 8, .inl (fun _ => 0))), (q6, .inl (c5, 8, .inl (fun _ => 0))), (q7, .inl (c6, 8, .inl (fun _ => 0)))] := hD
  have hK : va_K D nk_clC [(c0, .int), (c1, .int), (c2, .int), (c3, .int), (c4, .int), (c5, .int), (c6, .int)] s := hK
  refine W.widen (k := 7) (n := 72) (Nat.le_of_ble_eq_true rfl) (Nat.le_of_ble_eq_true rfl) ?_
  refine va_putF (D := D) (ci := 0) (v := .ref q7) (ty := .array .int) (C := "NeedOnce$Cells") (T := zt_C) (N := 16) hx hb hts zu_C zq_C zk_C zm_C hown hK hP hD hS 0 rfl rfl 7 (by decide) (hts _ zx_47) (fun _ h9 => h9) rfl hin rfl (by decide +kernel) rfl rfl (Nat.le_of_ble_eq_true rfl) zd_C_init_57 (fun H locs hP hD hS => ?_)
  have hP : va_P D nk_clC [(h0, .inr (0, [.int 0, .ref q1, .ref q2, .ref q3, .ref q4, .ref q5, .ref q6, .ref q7, .null, .int 0, .int 0, .int 0, .int 0, .int 0, .int 0, .null])), (q1, .inl (c0, 8, .inl (fun _ => 0))), (q2, .inl (c1, 8, .inl (fun _ => 0))), (q3, .inl (c2, 8, .inl (fun _ => 0))), (q4, .inl (c3, 24, .inl (fun _ => 0))), (q5, .inl (c4, 8, .inl (fun _ => 0))), (q6, .inl (c5, 8, .inl (fun _ => 0))), (q7, .inl (c6, 8, .inl (fun _ => 0)))] H := hP
  have hD : va_D A [(h0, .inr (0, [.int 0, .ref q1, .ref q2, .ref q3, .ref q4, .ref q5, .ref q6, .ref q7, .null, .int 0, .int 0, .int 0, .int 0, .int 0, .int 0, .null])), (q1, .inl (c0, 8, .inl (fun _ => 0))), (q2, .inl (c1, 8, .inl (fun _ => 0))), (q3, .inl (c2, 8, .inl (fun _ => 0))), (q4, .inl (c3, 24, .inl (fun _ => 0))), (q5, .inl (c4, 8, .inl (fun _ => 0))), (q6, .inl (c5, 8, .inl (fun _ => 0))), (q7, .inl (c6, 8, .inl (fun _ => 0)))] := hD
  refine lv_aload_n hx hb zd_C_init_60 rfl (lv_at hl 0 rfl) ?_
  refine lv_bipush (v := 8) hx hb zd_C_init_61 (by decide) ?_
  refine va_newa (atype := .boolean) (ty := .boolean) (a0 := (8, .inl (fun _ => 0))) (N' := 8) hx hb (hts _ zx_97) rfl hK hP hD hS hA (fun _ => rfl) (by decide) rfl (by decide) (Nat.le_of_ble_eq_true rfl) (Nat.le_of_ble_eq_true rfl) zd_C_init_63 (fun q8 c7 H hK hP hD hS => ?_)
  have hP : va_P D nk_clC [(h0, .inr (0, [.int 0, .ref q1, .ref q2, .ref q3, .ref q4, .ref q5, .ref q6, .ref q7, .null, .int 0, .int 0, .int 0, .int 0, .int 0, .int 0, .null])), (q1, .inl (c0, 8, .inl (fun _ => 0))), (q2, .inl (c1, 8, .inl (fun _ => 0))), (q3, .inl (c2, 8, .inl (fun _ => 0))), (q4, .inl (c3, 24, .inl (fun _ => 0))), (q5, .inl (c4, 8, .inl (fun _ => 0))), (q6, .inl (c5, 8, .inl (fun _ => 0))), (q7, .inl (c6, 8, .inl (fun _ => 0))), (q8, .inl (c7, 8, .inl (fun _ => 0)))] H := hP
  have hD : va_D A [(h0, .inr (0, [.int 0, .ref q1, .ref q2, .ref q3, .ref q4, .ref q5, .ref q6, .ref q7, .null, .int 0, .int 0, .int 0, .int 0, .int 0, .int 0, .null])), (q1, .inl (c0, 8, .inl (fun _ => 0))), (q2, .inl (c1, 8, .inl (fun _ => 0))), (q3, .inl (c2, 8, .inl (fun _ => 0))), (q4, .inl (c3, 24, .inl (fun _ => 0))), (q5, .inl (c4, 8, .inl (fun _ => 0))), (q6, .inl (c5, 8, .inl (fun _ => 0))), (q7, .inl (c6, 8, .inl (fun _ => 0))), (q8, .inl (c7, 8, .inl (fun _ => 0)))] := hD
  have hK : va_K D nk_clC [(c0, .int), (c1, .int), (c2, .int), (c3, .int), (c4, .int), (c5, .int), (c6, .int), (c7, .boolean)] s := hK
  refine W.widen (k := 8) (n := 80) (Nat.le_of_ble_eq_true rfl) (Nat.le_of_ble_eq_true rfl) ?_
  refine va_putF (D := D) (ci := 0) (v := .ref q8) (ty := .array .boolean) (C := "NeedOnce$Cells") (T := zt_C) (N := 16) hx hb hts zu_C zq_C zk_C zm_C hown hK hP hD hS 0 rfl rfl 8 (by decide) (hts _ zx_49) (fun _ h9 => h9) rfl hin rfl (by decide +kernel) rfl rfl (Nat.le_of_ble_eq_true rfl) zd_C_init_65 (fun H locs hP hD hS => ?_)
  have hP : va_P D nk_clC [(h0, .inr (0, [.int 0, .ref q1, .ref q2, .ref q3, .ref q4, .ref q5, .ref q6, .ref q7, .ref q8, .int 0, .int 0, .int 0, .int 0, .int 0, .int 0, .null])), (q1, .inl (c0, 8, .inl (fun _ => 0))), (q2, .inl (c1, 8, .inl (fun _ => 0))), (q3, .inl (c2, 8, .inl (fun _ => 0))), (q4, .inl (c3, 24, .inl (fun _ => 0))), (q5, .inl (c4, 8, .inl (fun _ => 0))), (q6, .inl (c5, 8, .inl (fun _ => 0))), (q7, .inl (c6, 8, .inl (fun _ => 0))), (q8, .inl (c7, 8, .inl (fun _ => 0)))] H := hP
  have hD : va_D A [(h0, .inr (0, [.int 0, .ref q1, .ref q2, .ref q3, .ref q4, .ref q5, .ref q6, .ref q7, .ref q8, .int 0, .int 0, .int 0, .int 0, .int 0, .int 0, .null])), (q1, .inl (c0, 8, .inl (fun _ => 0))), (q2, .inl (c1, 8, .inl (fun _ => 0))), (q3, .inl (c2, 8, .inl (fun _ => 0))), (q4, .inl (c3, 24, .inl (fun _ => 0))), (q5, .inl (c4, 8, .inl (fun _ => 0))), (q6, .inl (c5, 8, .inl (fun _ => 0))), (q7, .inl (c6, 8, .inl (fun _ => 0))), (q8, .inl (c7, 8, .inl (fun _ => 0)))] := hD
  refine lv_aload_n hx hb zd_C_init_68 rfl (lv_at hl 0 rfl) ?_
  refine lv_iconst (v := 1) hx hb zd_C_init_69 (by decide) ?_
  refine va_put (D := D) (ci := 0) (v := .int 1) (ty := .boolean) (C := "NeedOnce$Cells") (T := zt_C) (N := 16) hx hb hts zu_C zq_C zk_C zm_C hown hK hP hD hS 0 rfl rfl 9 (by decide) (hts _ zx_50) (fun _ h9 => h9) rfl (by decide +kernel) rfl rfl (Nat.le_of_ble_eq_true rfl) zd_C_init_70 (fun H locs hP hD hS => ?_)
  have hP : va_P D nk_clC [(h0, .inr (0, [.int 0, .ref q1, .ref q2, .ref q3, .ref q4, .ref q5, .ref q6, .ref q7, .ref q8, .int 1, .int 0, .int 0, .int 0, .int 0, .int 0, .null])), (q1, .inl (c0, 8, .inl (fun _ => 0))), (q2, .inl (c1, 8, .inl (fun _ => 0))), (q3, .inl (c2, 8, .inl (fun _ => 0))), (q4, .inl (c3, 24, .inl (fun _ => 0))), (q5, .inl (c4, 8, .inl (fun _ => 0))), (q6, .inl (c5, 8, .inl (fun _ => 0))), (q7, .inl (c6, 8, .inl (fun _ => 0))), (q8, .inl (c7, 8, .inl (fun _ => 0)))] H := hP
  have hD : va_D A [(h0, .inr (0, [.int 0, .ref q1, .ref q2, .ref q3, .ref q4, .ref q5, .ref q6, .ref q7, .ref q8, .int 1, .int 0, .int 0, .int 0, .int 0, .int 0, .null])), (q1, .inl (c0, 8, .inl (fun _ => 0))), (q2, .inl (c1, 8, .inl (fun _ => 0))), (q3, .inl (c2, 8, .inl (fun _ => 0))), (q4, .inl (c3, 24, .inl (fun _ => 0))), (q5, .inl (c4, 8, .inl (fun _ => 0))), (q6, .inl (c5, 8, .inl (fun _ => 0))), (q7, .inl (c6, 8, .inl (fun _ => 0))), (q8, .inl (c7, 8, .inl (fun _ => 0)))] := hD
  refine lv_aload_n hx hb zd_C_init_73 rfl (lv_at hl 0 rfl) ?_
  refine lv_bipush (v := 8) hx hb zd_C_init_74 (by decide) ?_
  refine va_newa (atype := .int) (ty := .int) (a0 := (8, .inl (fun _ => 0))) (N' := 8) hx hb (hts _ zx_96) rfl hK hP hD hS hA (fun _ => rfl) (by decide) rfl (by decide) (Nat.le_of_ble_eq_true rfl) (Nat.le_of_ble_eq_true rfl) zd_C_init_76 (fun q9 c8 H hK hP hD hS => ?_)
  have hP : va_P D nk_clC [(h0, .inr (0, [.int 0, .ref q1, .ref q2, .ref q3, .ref q4, .ref q5, .ref q6, .ref q7, .ref q8, .int 1, .int 0, .int 0, .int 0, .int 0, .int 0, .null])), (q1, .inl (c0, 8, .inl (fun _ => 0))), (q2, .inl (c1, 8, .inl (fun _ => 0))), (q3, .inl (c2, 8, .inl (fun _ => 0))), (q4, .inl (c3, 24, .inl (fun _ => 0))), (q5, .inl (c4, 8, .inl (fun _ => 0))), (q6, .inl (c5, 8, .inl (fun _ => 0))), (q7, .inl (c6, 8, .inl (fun _ => 0))), (q8, .inl (c7, 8, .inl (fun _ => 0))), (q9, .inl (c8, 8, .inl (fun _ => 0)))] H := hP
  have hD : va_D A [(h0, .inr (0, [.int 0, .ref q1, .ref q2, .ref q3, .ref q4, .ref q5, .ref q6, .ref q7, .ref q8, .int 1, .int 0, .int 0, .int 0, .int 0, .int 0, .null])), (q1, .inl (c0, 8, .inl (fun _ => 0))), (q2, .inl (c1, 8, .inl (fun _ => 0))), (q3, .inl (c2, 8, .inl (fun _ => 0))), (q4, .inl (c3, 24, .inl (fun _ => 0))), (q5, .inl (c4, 8, .inl (fun _ => 0))), (q6, .inl (c5, 8, .inl (fun _ => 0))), (q7, .inl (c6, 8, .inl (fun _ => 0))), (q8, .inl (c7, 8, .inl (fun _ => 0))), (q9, .inl (c8, 8, .inl (fun _ => 0)))] := hD
  have hK : va_K D nk_clC [(c0, .int), (c1, .int), (c2, .int), (c3, .int), (c4, .int), (c5, .int), (c6, .int), (c7, .boolean), (c8, .int)] s := hK
  refine W.widen (k := 9) (n := 88) (Nat.le_of_ble_eq_true rfl) (Nat.le_of_ble_eq_true rfl) ?_
  refine va_putF (D := D) (ci := 0) (v := .ref q9) (ty := .array .int) (C := "NeedOnce$Cells") (T := zt_C) (N := 16) hx hb hts zu_C zq_C zk_C zm_C hown hK hP hD hS 0 rfl rfl 15 (by decide) (hts _ zx_61) (fun _ h9 => h9) rfl hin rfl (by decide +kernel) rfl rfl (Nat.le_of_ble_eq_true rfl) zd_C_init_78 (fun H locs hP hD hS => ?_)
  have hP : va_P D nk_clC [(h0, .inr (0, [.int 0, .ref q1, .ref q2, .ref q3, .ref q4, .ref q5, .ref q6, .ref q7, .ref q8, .int 1, .int 0, .int 0, .int 0, .int 0, .int 0, .ref q9])), (q1, .inl (c0, 8, .inl (fun _ => 0))), (q2, .inl (c1, 8, .inl (fun _ => 0))), (q3, .inl (c2, 8, .inl (fun _ => 0))), (q4, .inl (c3, 24, .inl (fun _ => 0))), (q5, .inl (c4, 8, .inl (fun _ => 0))), (q6, .inl (c5, 8, .inl (fun _ => 0))), (q7, .inl (c6, 8, .inl (fun _ => 0))), (q8, .inl (c7, 8, .inl (fun _ => 0))), (q9, .inl (c8, 8, .inl (fun _ => 0)))] H := hP
  have hD : va_D A [(h0, .inr (0, [.int 0, .ref q1, .ref q2, .ref q3, .ref q4, .ref q5, .ref q6, .ref q7, .ref q8, .int 1, .int 0, .int 0, .int 0, .int 0, .int 0, .ref q9])), (q1, .inl (c0, 8, .inl (fun _ => 0))), (q2, .inl (c1, 8, .inl (fun _ => 0))), (q3, .inl (c2, 8, .inl (fun _ => 0))), (q4, .inl (c3, 24, .inl (fun _ => 0))), (q5, .inl (c4, 8, .inl (fun _ => 0))), (q6, .inl (c5, 8, .inl (fun _ => 0))), (q7, .inl (c6, 8, .inl (fun _ => 0))), (q8, .inl (c7, 8, .inl (fun _ => 0))), (q9, .inl (c8, 8, .inl (fun _ => 0)))] := hD
  refine lv_aload_n hx hb zd_C_init_81 rfl (lv_at hl 0 rfl) ?_
  have hW : nk_wl nk_wK (nk_Gv D [h0, q1, q2, q3, q4, q5, q6, q7, q8, q9] [c0, c0, c1, c2, c3, c4, c5, c6, c7, c8] []) nk_mk = [(h0, .inr (0, [.int 0, .ref q1, .ref q2, .ref q3, .ref q4, .ref q5, .ref q6, .ref q7, .ref q8, .int 1, .int 0, .int 0, .int 0, .int 0, .int 0, .ref q9])), (q1, .inl (c0, 8, .inl (fun _ => 0))), (q2, .inl (c1, 8, .inl (fun _ => 0))), (q3, .inl (c2, 8, .inl (fun _ => 0))), (q4, .inl (c3, 24, .inl (fun _ => 0))), (q5, .inl (c4, 8, .inl (fun _ => 0))), (q6, .inl (c5, 8, .inl (fun _ => 0))), (q7, .inl (c6, 8, .inl (fun _ => 0))), (q8, .inl (c7, 8, .inl (fun _ => 0))), (q9, .inl (c8, 8, .inl (fun _ => 0)))] := rfl
  have hKw : va_K D nk_clC (nk_tys nk_wK (nk_Gv D [h0, q1, q2, q3, q4, q5, q6, q7, q8, q9] [c0, c0, c1, c2, c3, c4, c5, c6, c7, c8] [])) s := hK.sub [0, 0, 1, 2, 3, 4, 5, 6, 7, 8] rfl
  have hDw : va_D A (nk_wl nk_wK (nk_Gv D [h0, q1, q2, q3, q4, q5, q6, q7, q8, q9] [c0, c0, c1, c2, c3, c4, c5, c6, c7, c8] []) nk_mk) := by rw [hW]; exact hD
  have hPw : va_P D nk_clC (nk_wl nk_wK (nk_Gv D [h0, q1, q2, q3, q4, q5, q6, q7, q8, q9] [c0, c0, c1, c2, c3, c4, c5, c6, c7, c8] []) nk_mk) H := by rw [hW]; exact hP
  have hKs : nk_K nk_wK (nk_Gv D [h0, q1, q2, q3, q4, q5, q6, q7, q8, q9] [c0, c0, c1, c2, c3, c4, c5, c6, c7, c8] []) s := nk_Gv_K (w := nk_wK) rfl hDw hKw hB.2.1 (fun i q hq => by simp [nk_wK] at hq)
  refine nk_runW (inj' := nk_ov) (r := ()) (va_runV (b := h0) (As := []) (rest := []) ⟨hx, hb, hml, hown, hts⟩ (zcK_C_putToSleep (l := l) (G := (nk_Gv D [h0, q1, q2, q3, q4, q5, q6, q7, q8, q9] [c0, c0, c1, c2, c3, c4, c5, c6, c7, c8] [])) nk_mk () _ e_putToSleep) ⟨callB_of 0 hts (nk_ws zv_C_44.1.1) rfl rfl rfl (hts _ zv_C_44.1.2.1) (hts _ zl_C_44) zv_C_44.1.2.2.1 ⟨Nat.le_of_ble_eq_true rfl, Nat.le_of_ble_eq_true rfl⟩, hts _ zv_C_44.2.1, hts _ zv_C_44.2.2⟩ ⟨nk_blind, va_recv hKw hPw (ci := 0) (q0 := 0) (q := ("NeedOnce$Cells", zt_C, 16)) (fs := nk_flds (nk_Gv D [h0, q1, q2, q3, q4, q5, q6, q7, q8, q9] [c0, c0, c1, c2, c3, c4, c5, c6, c7, c8] []) (nk_cfl 1) (nk_mk 0)) rfl rfl, fun U hU hW => ⟨rfl, by rw [hU]; exact hPw, nk_KK hW hKs⟩⟩ rfl rfl hl.1 rfl (lv_room (Nat.le_of_ble_eq_true rfl)) zd_C_init_82 ⟨Nat.le_of_ble_eq_true rfl, Nat.le_of_ble_eq_true rfl⟩) hS (nk_Gv_A (w := nk_wK) rfl hDw) (fun H locs hP _ _ hS => ?_)
  rw [nk_mk_slp] at hP
  generalize q_slp 1 nk_mk 5 = f5 at hP
  generalize q_slp 1 nk_mk 6 = f6 at hP
  generalize q_slp 1 nk_mk 7 = f7 at hP
  have hP : va_P D nk_clC [(h0, .inr (0, [.int 0, .ref q1, .ref q2, .ref q3, .ref q4, .ref q5, .ref q6, .ref q7, .ref q8, .int 1, .int 0, .int 0, .int 0, .int 0, .int 0, .ref q9])), (q1, .inl (c0, 8, .inl (fun _ => 0))), (q2, .inl (c1, 8, .inl (fun _ => 0))), (q3, .inl (c2, 8, .inl (fun _ => 0))), (q4, .inl (c3, 24, .inl (fun _ => 0))), (q5, .inl (c4, 8, .inl f5)), (q6, .inl (c5, 8, .inl f6)), (q7, .inl (c6, 8, .inl f7)), (q8, .inl (c7, 8, .inl (fun _ => 0))), (q9, .inl (c8, 8, .inl (fun _ => 0)))] H := hP
  have hD : va_D A [(h0, .inr (0, [.int 0, .ref q1, .ref q2, .ref q3, .ref q4, .ref q5, .ref q6, .ref q7, .ref q8, .int 1, .int 0, .int 0, .int 0, .int 0, .int 0, .ref q9])), (q1, .inl (c0, 8, .inl (fun _ => 0))), (q2, .inl (c1, 8, .inl (fun _ => 0))), (q3, .inl (c2, 8, .inl (fun _ => 0))), (q4, .inl (c3, 24, .inl (fun _ => 0))), (q5, .inl (c4, 8, .inl f5)), (q6, .inl (c5, 8, .inl f6)), (q7, .inl (c6, 8, .inl f7)), (q8, .inl (c7, 8, .inl (fun _ => 0))), (q9, .inl (c8, 8, .inl (fun _ => 0)))] := (nk_Dsame hDw rfl : va_D A [(h0, .inr (0, [.int 0, .ref q1, .ref q2, .ref q3, .ref q4, .ref q5, .ref q6, .ref q7, .ref q8, .int 1, .int 0, .int 0, .int 0, .int 0, .int 0, .ref q9])), (q1, .inl (c0, 8, .inl (fun _ => 0))), (q2, .inl (c1, 8, .inl (fun _ => 0))), (q3, .inl (c2, 8, .inl (fun _ => 0))), (q4, .inl (c3, 24, .inl (fun _ => 0))), (q5, .inl (c4, 8, .inl f5)), (q6, .inl (c5, 8, .inl f6)), (q7, .inl (c6, 8, .inl f7)), (q8, .inl (c7, 8, .inl (fun _ => 0))), (q9, .inl (c8, 8, .inl (fun _ => 0)))])
  refine W.widen (k := 9) (n := 88) (Nat.le_of_ble_eq_true rfl) (Nat.le_of_ble_eq_true rfl) ?_
  exact W.vret hx hb hr (fun t ht hW => ⟨⟨(), rfl, trivial, _, _, ⟨q1, c0, q2, c1, q3, c2, q4, c3, q5, c4, q6, c5, q7, c6, q8, c7, q9, c8, f5, f6, f7, rfl, rfl⟩, by rw [ht]; exact hP, va_K.moved hW.alike hK, hD⟩, hS.F ht⟩) hS.2.2 zd_C_init_85 hlocks

/-! ===== the constructors: words, decoded instructions ===== -/
theorem k_109 : Cond.methodLink qx_R 3 objectInit ∈ gw := gw_at 109 (by decide +kernel) rfl
theorem k_110 : Cond.instanceMethod objectInit ∈ gw := gw_at 110 (by decide +kernel) rfl
theorem k_111 : Cond.code objectInit ⟨#[0xb1]⟩ 1 none ∈ gw := gw_at 111 (by decide +kernel) rfl
theorem k_112 : Cond.classLink qx_R 9 qh_R ∈ gw := gw_at 112 (by decide +kernel) rfl
theorem k_113 : Cond.instantiable qh_R 3 ∈ gw := gw_at 113 (by decide +kernel) rfl
theorem k_114 : Cond.methodLink qx_R 11 qh_init_y ∈ gw := gw_at 114 (by decide +kernel) rfl
theorem k_115 : Cond.instanceMethod qh_init_y ∈ gw := gw_at 115 (by decide +kernel) rfl
theorem k_116 : Cond.code qh_init_y qh_init_c 1 none ∈ gw := gw_at 116 (by decide +kernel) rfl
theorem k_117 : Cond.methodLink qh_R 3 objectInit ∈ gw := gw_at 117 (by decide +kernel) rfl
theorem k_118 : Cond.methodLink qh_R 16 qh_restoreGround_y ∈ gw := gw_at 118 (by decide +kernel) rfl
theorem k_156 : Cond.arrayClass .long ∈ gw := gw_at 156 (by decide +kernel) rfl
theorem k_157 : Cond.classLink qx_R 18 qn_R ∈ gw := gw_at 157 (by decide +kernel) rfl
theorem k_158 : Cond.instantiable qn_R 12 ∈ gw := gw_at 158 (by decide +kernel) rfl
theorem k_159 : Cond.methodLink qx_R 20 qn_init_y ∈ gw := gw_at 159 (by decide +kernel) rfl
theorem k_160 : Cond.instanceMethod qn_init_y ∈ gw := gw_at 160 (by decide +kernel) rfl
theorem k_161 : Cond.code qn_init_y qn_init_c 2 none ∈ gw := gw_at 161 (by decide +kernel) rfl
theorem k_162 : Cond.methodLink qn_R 3 objectInit ∈ gw := gw_at 162 (by decide +kernel) rfl
theorem k_163 : Cond.classLink qn_R 15 qt_R ∈ gw := gw_at 163 (by decide +kernel) rfl
theorem k_164 : Cond.instantiable qt_R 7 ∈ gw := gw_at 164 (by decide +kernel) rfl
theorem k_165 : Cond.methodLink qn_R 17 qt_init_y ∈ gw := gw_at 165 (by decide +kernel) rfl
theorem k_166 : Cond.instanceMethod qt_init_y ∈ gw := gw_at 166 (by decide +kernel) rfl
theorem k_167 : Cond.code qt_init_y qt_init_c 2 none ∈ gw := gw_at 167 (by decide +kernel) rfl
theorem k_168 : Cond.methodLink qt_R 3 objectInit ∈ gw := gw_at 168 (by decide +kernel) rfl
theorem k_191 : Cond.arrayClass .int ∈ gw := gw_at 191 (by decide +kernel) rfl
theorem k_192 : Cond.classLink qn_R 24 qf_R ∈ gw := gw_at 192 (by decide +kernel) rfl
theorem k_193 : Cond.instantiable qf_R 7 ∈ gw := gw_at 193 (by decide +kernel) rfl
theorem k_194 : Cond.methodLink qn_R 26 qf_init_y ∈ gw := gw_at 194 (by decide +kernel) rfl
theorem k_195 : Cond.instanceMethod qf_init_y ∈ gw := gw_at 195 (by decide +kernel) rfl
theorem k_196 : Cond.code qf_init_y qf_init_c 1 none ∈ gw := gw_at 196 (by decide +kernel) rfl
theorem k_197 : Cond.methodLink qf_R 1 objectInit ∈ gw := gw_at 197 (by decide +kernel) rfl
theorem k_826 : Cond.methodLink qm_R 1 objectInit ∈ gw := gw_at 826 (by decide +kernel) rfl
theorem k_951 : Cond.arrayClass .boolean ∈ gw := gw_at 951 (by decide +kernel) rfl
theorem d_qh_init_0 : decode qh_init_c 0 = .ok (.aload_n 0, 1) := by decide +kernel
theorem d_qh_init_1 : decode qh_init_c 1 = .ok (.invokespecial 3, 3) := by decide +kernel
theorem d_qh_init_4 : decode qh_init_c 4 = .ok (.aload_n 0, 1) := by decide +kernel
theorem d_qh_init_5 : decode qh_init_c 5 = .ok (.sipush 4100, 3) := by decide +kernel
theorem d_qh_init_8 : decode qh_init_c 8 = .ok (.newarray .long, 2) := by decide +kernel
theorem d_qh_init_10 : decode qh_init_c 10 = .ok (.putfield 9, 3) := by decide +kernel
theorem d_qh_init_13 : decode qh_init_c 13 = .ok (.aload_n 0, 1) := by decide +kernel
theorem d_qh_init_14 : decode qh_init_c 14 = .ok (.sipush 4100, 3) := by decide +kernel
theorem d_qh_init_17 : decode qh_init_c 17 = .ok (.newarray .long, 2) := by decide +kernel
theorem d_qh_init_19 : decode qh_init_c 19 = .ok (.putfield 13, 3) := by decide +kernel
theorem d_qh_init_22 : decode qh_init_c 22 = .ok (.aload_n 0, 1) := by decide +kernel
theorem d_qh_init_23 : decode qh_init_c 23 = .ok (.invokevirtual 16, 3) := by decide +kernel
theorem d_qh_init_26 : decode qh_init_c 26 = .ok (.return_, 1) := by decide +kernel
theorem d_qf_init_0 : decode qf_init_c 0 = .ok (.aload_n 0, 1) := by decide +kernel
theorem d_qf_init_1 : decode qf_init_c 1 = .ok (.invokespecial 1, 3) := by decide +kernel
theorem d_qf_init_4 : decode qf_init_c 4 = .ok (.aload_n 0, 1) := by decide +kernel
theorem d_qf_init_5 : decode qf_init_c 5 = .ok (.sipush 300, 3) := by decide +kernel
theorem d_qf_init_8 : decode qf_init_c 8 = .ok (.newarray .int, 2) := by decide +kernel
theorem d_qf_init_10 : decode qf_init_c 10 = .ok (.putfield 9, 3) := by decide +kernel
theorem d_qf_init_13 : decode qf_init_c 13 = .ok (.aload_n 0, 1) := by decide +kernel
theorem d_qf_init_14 : decode qf_init_c 14 = .ok (.sipush 300, 3) := by decide +kernel
theorem d_qf_init_17 : decode qf_init_c 17 = .ok (.newarray .int, 2) := by decide +kernel
theorem d_qf_init_19 : decode qf_init_c 19 = .ok (.putfield 13, 3) := by decide +kernel
theorem d_qf_init_22 : decode qf_init_c 22 = .ok (.aload_n 0, 1) := by decide +kernel
theorem d_qf_init_23 : decode qf_init_c 23 = .ok (.sipush 300, 3) := by decide +kernel
theorem d_qf_init_26 : decode qf_init_c 26 = .ok (.newarray .long, 2) := by decide +kernel
theorem d_qf_init_28 : decode qf_init_c 28 = .ok (.putfield 16, 3) := by decide +kernel
theorem d_qf_init_31 : decode qf_init_c 31 = .ok (.aload_n 0, 1) := by decide +kernel
theorem d_qf_init_32 : decode qf_init_c 32 = .ok (.sipush 300, 3) := by decide +kernel
theorem d_qf_init_35 : decode qf_init_c 35 = .ok (.newarray .long, 2) := by decide +kernel
theorem d_qf_init_37 : decode qf_init_c 37 = .ok (.putfield 20, 3) := by decide +kernel
theorem d_qf_init_40 : decode qf_init_c 40 = .ok (.aload_n 0, 1) := by decide +kernel
theorem d_qf_init_41 : decode qf_init_c 41 = .ok (.sipush 300, 3) := by decide +kernel
theorem d_qf_init_44 : decode qf_init_c 44 = .ok (.newarray .int, 2) := by decide +kernel
theorem d_qf_init_46 : decode qf_init_c 46 = .ok (.putfield 23, 3) := by decide +kernel
theorem d_qf_init_49 : decode qf_init_c 49 = .ok (.aload_n 0, 1) := by decide +kernel
theorem d_qf_init_50 : decode qf_init_c 50 = .ok (.iconst 0, 1) := by decide +kernel
theorem d_qf_init_51 : decode qf_init_c 51 = .ok (.putfield 26, 3) := by decide +kernel
theorem d_qf_init_54 : decode qf_init_c 54 = .ok (.aload_n 0, 1) := by decide +kernel
theorem d_qf_init_55 : decode qf_init_c 55 = .ok (.iconst 0, 1) := by decide +kernel
theorem d_qf_init_56 : decode qf_init_c 56 = .ok (.putfield 30, 3) := by decide +kernel
theorem d_qf_init_59 : decode qf_init_c 59 = .ok (.return_, 1) := by decide +kernel
theorem d_qt_init_0 : decode qt_init_c 0 = .ok (.aload_n 0, 1) := by decide +kernel
theorem d_qt_init_1 : decode qt_init_c 1 = .ok (.invokespecial 3, 3) := by decide +kernel
theorem d_qt_init_4 : decode qt_init_c 4 = .ok (.aload_n 0, 1) := by decide +kernel
theorem d_qt_init_5 : decode qt_init_c 5 = .ok (.aload_n 1, 1) := by decide +kernel
theorem d_qt_init_6 : decode qt_init_c 6 = .ok (.putfield 9, 3) := by decide +kernel
theorem d_qt_init_9 : decode qt_init_c 9 = .ok (.aload_n 0, 1) := by decide +kernel
theorem d_qt_init_10 : decode qt_init_c 10 = .ok (.bipush 101, 2) := by decide +kernel
theorem d_qt_init_12 : decode qt_init_c 12 = .ok (.newarray .long, 2) := by decide +kernel
theorem d_qt_init_14 : decode qt_init_c 14 = .ok (.putfield 13, 3) := by decide +kernel
theorem d_qt_init_17 : decode qt_init_c 17 = .ok (.aload_n 0, 1) := by decide +kernel
theorem d_qt_init_18 : decode qt_init_c 18 = .ok (.bipush 101, 2) := by decide +kernel
theorem d_qt_init_20 : decode qt_init_c 20 = .ok (.newarray .long, 2) := by decide +kernel
theorem d_qt_init_22 : decode qt_init_c 22 = .ok (.putfield 17, 3) := by decide +kernel
theorem d_qt_init_25 : decode qt_init_c 25 = .ok (.aload_n 0, 1) := by decide +kernel
theorem d_qt_init_26 : decode qt_init_c 26 = .ok (.bipush 100, 2) := by decide +kernel
theorem d_qt_init_28 : decode qt_init_c 28 = .ok (.newarray .int, 2) := by decide +kernel
theorem d_qt_init_30 : decode qt_init_c 30 = .ok (.putfield 22, 3) := by decide +kernel
theorem d_qt_init_33 : decode qt_init_c 33 = .ok (.aload_n 0, 1) := by decide +kernel
theorem d_qt_init_34 : decode qt_init_c 34 = .ok (.bipush 100, 2) := by decide +kernel
theorem d_qt_init_36 : decode qt_init_c 36 = .ok (.newarray .long, 2) := by decide +kernel
theorem d_qt_init_38 : decode qt_init_c 38 = .ok (.putfield 26, 3) := by decide +kernel
theorem d_qt_init_41 : decode qt_init_c 41 = .ok (.aload_n 0, 1) := by decide +kernel
theorem d_qt_init_42 : decode qt_init_c 42 = .ok (.iconst 0, 1) := by decide +kernel
theorem d_qt_init_43 : decode qt_init_c 43 = .ok (.putfield 29, 3) := by decide +kernel
theorem d_qt_init_46 : decode qt_init_c 46 = .ok (.aload_n 0, 1) := by decide +kernel
theorem d_qt_init_47 : decode qt_init_c 47 = .ok (.iconst 0, 1) := by decide +kernel
theorem d_qt_init_48 : decode qt_init_c 48 = .ok (.putfield 33, 3) := by decide +kernel
theorem d_qt_init_51 : decode qt_init_c 51 = .ok (.return_, 1) := by decide +kernel
theorem d_qn_init_0 : decode qn_init_c 0 = .ok (.aload_n 0, 1) := by decide +kernel
theorem d_qn_init_1 : decode qn_init_c 1 = .ok (.invokespecial 3, 3) := by decide +kernel
theorem d_qn_init_4 : decode qn_init_c 4 = .ok (.aload_n 0, 1) := by decide +kernel
theorem d_qn_init_5 : decode qn_init_c 5 = .ok (.aload_n 1, 1) := by decide +kernel
theorem d_qn_init_6 : decode qn_init_c 6 = .ok (.putfield 9, 3) := by decide +kernel
theorem d_qn_init_9 : decode qn_init_c 9 = .ok (.aload_n 0, 1) := by decide +kernel
theorem d_qn_init_10 : decode qn_init_c 10 = .ok (.new 15, 3) := by decide +kernel
theorem d_qn_init_13 : decode qn_init_c 13 = .ok (.dup, 1) := by decide +kernel
theorem d_qn_init_14 : decode qn_init_c 14 = .ok (.aload_n 1, 1) := by decide +kernel
theorem d_qn_init_15 : decode qn_init_c 15 = .ok (.invokespecial 17, 3) := by decide +kernel
theorem d_qn_init_18 : decode qn_init_c 18 = .ok (.putfield 20, 3) := by decide +kernel
theorem d_qn_init_21 : decode qn_init_c 21 = .ok (.aload_n 0, 1) := by decide +kernel
theorem d_qn_init_22 : decode qn_init_c 22 = .ok (.new 24, 3) := by decide +kernel
theorem d_qn_init_25 : decode qn_init_c 25 = .ok (.dup, 1) := by decide +kernel
theorem d_qn_init_26 : decode qn_init_c 26 = .ok (.invokespecial 26, 3) := by decide +kernel
theorem d_qn_init_29 : decode qn_init_c 29 = .ok (.putfield 27, 3) := by decide +kernel
theorem d_qn_init_32 : decode qn_init_c 32 = .ok (.aload_n 0, 1) := by decide +kernel
theorem d_qn_init_33 : decode qn_init_c 33 = .ok (.sipush 1500, 3) := by decide +kernel
theorem d_qn_init_36 : decode qn_init_c 36 = .ok (.newarray .long, 2) := by decide +kernel
theorem d_qn_init_38 : decode qn_init_c 38 = .ok (.putfield 31, 3) := by decide +kernel
theorem d_qn_init_41 : decode qn_init_c 41 = .ok (.aload_n 0, 1) := by decide +kernel
theorem d_qn_init_42 : decode qn_init_c 42 = .ok (.invokevirtual 35, 3) := by decide +kernel
theorem d_qn_init_45 : decode qn_init_c 45 = .ok (.return_, 1) := by decide +kernel
theorem d_qx_init_0 : decode qx_init_c 0 = .ok (.aload_n 0, 1) := by decide +kernel
theorem d_qx_init_1 : decode qx_init_c 1 = .ok (.invokespecial 3, 3) := by decide +kernel
theorem d_qx_init_4 : decode qx_init_c 4 = .ok (.aload_n 0, 1) := by decide +kernel
theorem d_qx_init_5 : decode qx_init_c 5 = .ok (.new 9, 3) := by decide +kernel
theorem d_qx_init_8 : decode qx_init_c 8 = .ok (.dup, 1) := by decide +kernel
theorem d_qx_init_9 : decode qx_init_c 9 = .ok (.invokespecial 11, 3) := by decide +kernel
theorem d_qx_init_12 : decode qx_init_c 12 = .ok (.putfield 12, 3) := by decide +kernel
theorem d_qx_init_15 : decode qx_init_c 15 = .ok (.aload_n 0, 1) := by decide +kernel
theorem d_qx_init_16 : decode qx_init_c 16 = .ok (.new 18, 3) := by decide +kernel
theorem d_qx_init_19 : decode qx_init_c 19 = .ok (.dup, 1) := by decide +kernel
theorem d_qx_init_20 : decode qx_init_c 20 = .ok (.aload_n 0, 1) := by decide +kernel
theorem d_qx_init_21 : decode qx_init_c 21 = .ok (.getfield 12, 3) := by decide +kernel
theorem d_qx_init_24 : decode qx_init_c 24 = .ok (.invokespecial 20, 3) := by decide +kernel
theorem d_qx_init_27 : decode qx_init_c 27 = .ok (.putfield 23, 3) := by decide +kernel
theorem d_qx_init_30 : decode qx_init_c 30 = .ok (.aload_n 0, 1) := by decide +kernel
theorem d_qx_init_31 : decode qx_init_c 31 = .ok (.bipush 40, 2) := by decide +kernel
theorem d_qx_init_33 : decode qx_init_c 33 = .ok (.newarray .long, 2) := by decide +kernel
theorem d_qx_init_35 : decode qx_init_c 35 = .ok (.putfield 27, 3) := by decide +kernel
theorem d_qx_init_38 : decode qx_init_c 38 = .ok (.aload_n 0, 1) := by decide +kernel
theorem d_qx_init_39 : decode qx_init_c 39 = .ok (.iconst 0, 1) := by decide +kernel
theorem d_qx_init_40 : decode qx_init_c 40 = .ok (.putfield 31, 3) := by decide +kernel
theorem d_qx_init_43 : decode qx_init_c 43 = .ok (.aload_n 0, 1) := by decide +kernel
theorem d_qx_init_44 : decode qx_init_c 44 = .ok (.iconst 1, 1) := by decide +kernel
theorem d_qx_init_45 : decode qx_init_c 45 = .ok (.putfield 35, 3) := by decide +kernel
theorem d_qx_init_48 : decode qx_init_c 48 = .ok (.aload_n 0, 1) := by decide +kernel
theorem d_qx_init_49 : decode qx_init_c 49 = .ok (.sipush 1000, 3) := by decide +kernel
theorem d_qx_init_52 : decode qx_init_c 52 = .ok (.putfield 38, 3) := by decide +kernel
theorem d_qx_init_55 : decode qx_init_c 55 = .ok (.return_, 1) := by decide +kernel
theorem d_qm_init_0 : decode qm_init_c 0 = .ok (.aload_n 0, 1) := by decide +kernel
theorem d_qm_init_1 : decode qm_init_c 1 = .ok (.invokespecial 1, 3) := by decide +kernel
theorem d_qm_init_4 : decode qm_init_c 4 = .ok (.aload_n 0, 1) := by decide +kernel
theorem d_qm_init_5 : decode qm_init_c 5 = .ok (.sipush 4000, 3) := by decide +kernel
theorem d_qm_init_8 : decode qm_init_c 8 = .ok (.newarray .long, 2) := by decide +kernel
theorem d_qm_init_10 : decode qm_init_c 10 = .ok (.putfield 7, 3) := by decide +kernel
theorem d_qm_init_13 : decode qm_init_c 13 = .ok (.aload_n 0, 1) := by decide +kernel
theorem d_qm_init_14 : decode qm_init_c 14 = .ok (.sipush 4000, 3) := by decide +kernel
theorem d_qm_init_17 : decode qm_init_c 17 = .ok (.newarray .long, 2) := by decide +kernel
theorem d_qm_init_19 : decode qm_init_c 19 = .ok (.putfield 13, 3) := by decide +kernel
theorem d_qm_init_22 : decode qm_init_c 22 = .ok (.aload_n 0, 1) := by decide +kernel
theorem d_qm_init_23 : decode qm_init_c 23 = .ok (.sipush 4000, 3) := by decide +kernel
theorem d_qm_init_26 : decode qm_init_c 26 = .ok (.newarray .long, 2) := by decide +kernel
theorem d_qm_init_28 : decode qm_init_c 28 = .ok (.putfield 16, 3) := by decide +kernel
theorem d_qm_init_31 : decode qm_init_c 31 = .ok (.aload_n 0, 1) := by decide +kernel
theorem d_qm_init_32 : decode qm_init_c 32 = .ok (.sipush 4000, 3) := by decide +kernel
theorem d_qm_init_35 : decode qm_init_c 35 = .ok (.newarray .long, 2) := by decide +kernel
theorem d_qm_init_37 : decode qm_init_c 37 = .ok (.putfield 19, 3) := by decide +kernel
theorem d_qm_init_40 : decode qm_init_c 40 = .ok (.aload_n 0, 1) := by decide +kernel
theorem d_qm_init_41 : decode qm_init_c 41 = .ok (.sipush 4000, 3) := by decide +kernel
theorem d_qm_init_44 : decode qm_init_c 44 = .ok (.newarray .int, 2) := by decide +kernel
theorem d_qm_init_46 : decode qm_init_c 46 = .ok (.putfield 22, 3) := by decide +kernel
theorem d_qm_init_49 : decode qm_init_c 49 = .ok (.aload_n 0, 1) := by decide +kernel
theorem d_qm_init_50 : decode qm_init_c 50 = .ok (.sipush 4000, 3) := by decide +kernel
theorem d_qm_init_53 : decode qm_init_c 53 = .ok (.newarray .int, 2) := by decide +kernel
theorem d_qm_init_55 : decode qm_init_c 55 = .ok (.putfield 26, 3) := by decide +kernel
theorem d_qm_init_58 : decode qm_init_c 58 = .ok (.aload_n 0, 1) := by decide +kernel
theorem d_qm_init_59 : decode qm_init_c 59 = .ok (.sipush 4002, 3) := by decide +kernel
theorem d_qm_init_62 : decode qm_init_c 62 = .ok (.newarray .int, 2) := by decide +kernel
theorem d_qm_init_64 : decode qm_init_c 64 = .ok (.putfield 29, 3) := by decide +kernel
theorem d_qm_init_67 : decode qm_init_c 67 = .ok (.aload_n 0, 1) := by decide +kernel
theorem d_qm_init_68 : decode qm_init_c 68 = .ok (.bipush 100, 2) := by decide +kernel
theorem d_qm_init_70 : decode qm_init_c 70 = .ok (.newarray .boolean, 2) := by decide +kernel
theorem d_qm_init_72 : decode qm_init_c 72 = .ok (.putfield 32, 3) := by decide +kernel
theorem d_qm_init_75 : decode qm_init_c 75 = .ok (.aload_n 0, 1) := by decide +kernel
theorem d_qm_init_76 : decode qm_init_c 76 = .ok (.bipush 100, 2) := by decide +kernel
theorem d_qm_init_78 : decode qm_init_c 78 = .ok (.newarray .long, 2) := by decide +kernel
theorem d_qm_init_80 : decode qm_init_c 80 = .ok (.putfield 36, 3) := by decide +kernel
theorem d_qm_init_83 : decode qm_init_c 83 = .ok (.aload_n 0, 1) := by decide +kernel
theorem d_qm_init_84 : decode qm_init_c 84 = .ok (.bipush 40, 2) := by decide +kernel
theorem d_qm_init_86 : decode qm_init_c 86 = .ok (.newarray .long, 2) := by decide +kernel
theorem d_qm_init_88 : decode qm_init_c 88 = .ok (.putfield 39, 3) := by decide +kernel
theorem d_qm_init_91 : decode qm_init_c 91 = .ok (.aload_n 0, 1) := by decide +kernel
theorem d_qm_init_92 : decode qm_init_c 92 = .ok (.sipush 300, 3) := by decide +kernel
theorem d_qm_init_95 : decode qm_init_c 95 = .ok (.newarray .int, 2) := by decide +kernel
theorem d_qm_init_97 : decode qm_init_c 97 = .ok (.putfield 42, 3) := by decide +kernel
theorem d_qm_init_100 : decode qm_init_c 100 = .ok (.aload_n 0, 1) := by decide +kernel
theorem d_qm_init_101 : decode qm_init_c 101 = .ok (.sipush 300, 3) := by decide +kernel
theorem d_qm_init_104 : decode qm_init_c 104 = .ok (.newarray .long, 2) := by decide +kernel
theorem d_qm_init_106 : decode qm_init_c 106 = .ok (.putfield 45, 3) := by decide +kernel
theorem d_qm_init_109 : decode qm_init_c 109 = .ok (.aload_n 0, 1) := by decide +kernel
theorem d_qm_init_110 : decode qm_init_c 110 = .ok (.sipush 300, 3) := by decide +kernel
theorem d_qm_init_113 : decode qm_init_c 113 = .ok (.newarray .long, 2) := by decide +kernel
theorem d_qm_init_115 : decode qm_init_c 115 = .ok (.putfield 48, 3) := by decide +kernel
theorem d_qm_init_118 : decode qm_init_c 118 = .ok (.aload_n 0, 1) := by decide +kernel
theorem d_qm_init_119 : decode qm_init_c 119 = .ok (.sipush 300, 3) := by decide +kernel
theorem d_qm_init_122 : decode qm_init_c 122 = .ok (.newarray .long, 2) := by decide +kernel
theorem d_qm_init_124 : decode qm_init_c 124 = .ok (.putfield 51, 3) := by decide +kernel
theorem d_qm_init_127 : decode qm_init_c 127 = .ok (.aload_n 0, 1) := by decide +kernel
theorem d_qm_init_128 : decode qm_init_c 128 = .ok (.sipush 300, 3) := by decide +kernel
theorem d_qm_init_131 : decode qm_init_c 131 = .ok (.newarray .int, 2) := by decide +kernel
theorem d_qm_init_133 : decode qm_init_c 133 = .ok (.putfield 54, 3) := by decide +kernel
theorem d_qm_init_136 : decode qm_init_c 136 = .ok (.aload_n 0, 1) := by decide +kernel
theorem d_qm_init_137 : decode qm_init_c 137 = .ok (.sipush 1501, 3) := by decide +kernel
theorem d_qm_init_140 : decode qm_init_c 140 = .ok (.newarray .long, 2) := by decide +kernel
theorem d_qm_init_142 : decode qm_init_c 142 = .ok (.putfield 57, 3) := by decide +kernel
theorem d_qm_init_145 : decode qm_init_c 145 = .ok (.aload_n 0, 1) := by decide +kernel
theorem d_qm_init_146 : decode qm_init_c 146 = .ok (.sipush 204, 3) := by decide +kernel
theorem d_qm_init_149 : decode qm_init_c 149 = .ok (.newarray .long, 2) := by decide +kernel
theorem d_qm_init_151 : decode qm_init_c 151 = .ok (.putfield 60, 3) := by decide +kernel
theorem d_qm_init_154 : decode qm_init_c 154 = .ok (.aload_n 0, 1) := by decide +kernel
theorem d_qm_init_155 : decode qm_init_c 155 = .ok (.sipush 204, 3) := by decide +kernel
theorem d_qm_init_158 : decode qm_init_c 158 = .ok (.newarray .long, 2) := by decide +kernel
theorem d_qm_init_160 : decode qm_init_c 160 = .ok (.putfield 63, 3) := by decide +kernel
theorem d_qm_init_163 : decode qm_init_c 163 = .ok (.aload_n 0, 1) := by decide +kernel
theorem d_qm_init_164 : decode qm_init_c 164 = .ok (.bipush 100, 2) := by decide +kernel
theorem d_qm_init_166 : decode qm_init_c 166 = .ok (.newarray .boolean, 2) := by decide +kernel
theorem d_qm_init_168 : decode qm_init_c 168 = .ok (.putfield 66, 3) := by decide +kernel
theorem d_qm_init_171 : decode qm_init_c 171 = .ok (.aload_n 0, 1) := by decide +kernel
theorem d_qm_init_172 : decode qm_init_c 172 = .ok (.bipush 102, 2) := by decide +kernel
theorem d_qm_init_174 : decode qm_init_c 174 = .ok (.newarray .int, 2) := by decide +kernel
theorem d_qm_init_176 : decode qm_init_c 176 = .ok (.putfield 69, 3) := by decide +kernel
theorem d_qm_init_179 : decode qm_init_c 179 = .ok (.aload_n 0, 1) := by decide +kernel
theorem d_qm_init_180 : decode qm_init_c 180 = .ok (.bipush 102, 2) := by decide +kernel
theorem d_qm_init_182 : decode qm_init_c 182 = .ok (.newarray .long, 2) := by decide +kernel
theorem d_qm_init_184 : decode qm_init_c 184 = .ok (.putfield 72, 3) := by decide +kernel
theorem d_qm_init_187 : decode qm_init_c 187 = .ok (.aload_n 0, 1) := by decide +kernel
theorem d_qm_init_188 : decode qm_init_c 188 = .ok (.invokevirtual 75, 3) := by decide +kernel
theorem d_qm_init_191 : decode qm_init_c 191 = .ok (.return_, 1) := by decide +kernel

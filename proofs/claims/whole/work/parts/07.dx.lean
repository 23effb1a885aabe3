/-! decoded instructions -/
theorem d_qh_write_0 : decode qh_write_c 0 = .ok (.iload_n 1, 1) := by decide +kernel
theorem d_qh_write_1 : decode qh_write_c 1 = .ok (.ifCond .lt 25, 3) := by decide +kernel
theorem d_qh_write_4 : decode qh_write_c 4 = .ok (.iload_n 1, 1) := by decide +kernel
theorem d_qh_write_5 : decode qh_write_c 5 = .ok (.sipush 4100, 3) := by decide +kernel
theorem d_qh_write_8 : decode qh_write_c 8 = .ok (.if_icmp .ge 18, 3) := by decide +kernel
theorem d_qh_write_11 : decode qh_write_c 11 = .ok (.aload_n 0, 1) := by decide +kernel
theorem d_qh_write_12 : decode qh_write_c 12 = .ok (.getfield 9, 3) := by decide +kernel
theorem d_qh_write_15 : decode qh_write_c 15 = .ok (.iload_n 1, 1) := by decide +kernel
theorem d_qh_write_16 : decode qh_write_c 16 = .ok (.lload_n 2, 1) := by decide +kernel
theorem d_qh_write_17 : decode qh_write_c 17 = .ok (.lastore, 1) := by decide +kernel
theorem d_qh_write_18 : decode qh_write_c 18 = .ok (.aload_n 0, 1) := by decide +kernel
theorem d_qh_write_19 : decode qh_write_c 19 = .ok (.getfield 13, 3) := by decide +kernel
theorem d_qh_write_22 : decode qh_write_c 22 = .ok (.iload_n 1, 1) := by decide +kernel
theorem d_qh_write_23 : decode qh_write_c 23 = .ok (.lload 4, 2) := by decide +kernel
theorem d_qh_write_25 : decode qh_write_c 25 = .ok (.lastore, 1) := by decide +kernel
theorem d_qh_write_26 : decode qh_write_c 26 = .ok (.return_, 1) := by decide +kernel
theorem d_qw_make_0 : decode qw_make_c 0 = .ok (.lload_n 1, 1) := by decide +kernel
theorem d_qw_make_1 : decode qw_make_c 1 = .ok (.iconst 4, 1) := by decide +kernel
theorem d_qw_make_2 : decode qw_make_c 2 = .ok (.lshl, 1) := by decide +kernel
theorem d_qw_make_3 : decode qw_make_c 3 = .ok (.iload_n 0, 1) := by decide +kernel
theorem d_qw_make_4 : decode qw_make_c 4 = .ok (.i2l, 1) := by decide +kernel
theorem d_qw_make_5 : decode qw_make_c 5 = .ok (.lor, 1) := by decide +kernel
theorem d_qw_make_6 : decode qw_make_c 6 = .ok (.lreturn, 1) := by decide +kernel
theorem d_qh_secondAt_0 : decode qh_secondAt_c 0 = .ok (.iload_n 1, 1) := by decide +kernel
theorem d_qh_secondAt_1 : decode qh_secondAt_c 1 = .ok (.ifCond .lt 19, 3) := by decide +kernel
theorem d_qh_secondAt_4 : decode qh_secondAt_c 4 = .ok (.iload_n 1, 1) := by decide +kernel
theorem d_qh_secondAt_5 : decode qh_secondAt_c 5 = .ok (.sipush 4100, 3) := by decide +kernel
theorem d_qh_secondAt_8 : decode qh_secondAt_c 8 = .ok (.if_icmp .ge 12, 3) := by decide +kernel
theorem d_qh_secondAt_11 : decode qh_secondAt_c 11 = .ok (.aload_n 0, 1) := by decide +kernel
theorem d_qh_secondAt_12 : decode qh_secondAt_c 12 = .ok (.getfield 13, 3) := by decide +kernel
theorem d_qh_secondAt_15 : decode qh_secondAt_c 15 = .ok (.iload_n 1, 1) := by decide +kernel
theorem d_qh_secondAt_16 : decode qh_secondAt_c 16 = .ok (.laload, 1) := by decide +kernel
theorem d_qh_secondAt_17 : decode qh_secondAt_c 17 = .ok (.goto 6, 3) := by decide +kernel
theorem d_qh_secondAt_20 : decode qh_secondAt_c 20 = .ok (.ldc2_w 47, 3) := by decide +kernel
theorem d_qh_secondAt_23 : decode qh_secondAt_c 23 = .ok (.lreturn, 1) := by decide +kernel
theorem d_qh_latestBindingOf_0 : decode qh_latestBindingOf_c 0 = .ok (.aload_n 0, 1) := by decide +kernel
theorem d_qh_latestBindingOf_1 : decode qh_latestBindingOf_c 1 = .ok (.iload_n 1, 1) := by decide +kernel
theorem d_qh_latestBindingOf_2 : decode qh_latestBindingOf_c 2 = .ok (.invokevirtual 61, 3) := by decide +kernel
theorem d_qh_latestBindingOf_5 : decode qh_latestBindingOf_c 5 = .ok (.l2i, 1) := by decide +kernel
theorem d_qh_latestBindingOf_6 : decode qh_latestBindingOf_c 6 = .ok (.ireturn, 1) := by decide +kernel
theorem d_qh_packLink_0 : decode qh_packLink_c 0 = .ok (.iload_n 1, 1) := by decide +kernel
theorem d_qh_packLink_1 : decode qh_packLink_c 1 = .ok (.i2l, 1) := by decide +kernel
theorem d_qh_packLink_2 : decode qh_packLink_c 2 = .ok (.bipush 7, 2) := by decide +kernel
theorem d_qh_packLink_4 : decode qh_packLink_c 4 = .ok (.lshl, 1) := by decide +kernel
theorem d_qh_packLink_5 : decode qh_packLink_c 5 = .ok (.iload_n 0, 1) := by decide +kernel
theorem d_qh_packLink_6 : decode qh_packLink_c 6 = .ok (.i2l, 1) := by decide +kernel
theorem d_qh_packLink_7 : decode qh_packLink_c 7 = .ok (.lor, 1) := by decide +kernel
theorem d_qh_packLink_8 : decode qh_packLink_c 8 = .ok (.lreturn, 1) := by decide +kernel
theorem d_qh_bindInGround_0 : decode qh_bindInGround_c 0 = .ok (.bipush 50, 2) := by decide +kernel
theorem d_qh_bindInGround_2 : decode qh_bindInGround_c 2 = .ok (.iload_n 1, 1) := by decide +kernel
theorem d_qh_bindInGround_3 : decode qh_bindInGround_c 3 = .ok (.iadd, 1) := by decide +kernel
theorem d_qh_bindInGround_4 : decode qh_bindInGround_c 4 = .ok (.istore 4, 2) := by decide +kernel
theorem d_qh_bindInGround_6 : decode qh_bindInGround_c 6 = .ok (.aload_n 0, 1) := by decide +kernel
theorem d_qh_bindInGround_7 : decode qh_bindInGround_c 7 = .ok (.iload 4, 2) := by decide +kernel
theorem d_qh_bindInGround_9 : decode qh_bindInGround_c 9 = .ok (.lload_n 2, 1) := by decide +kernel
theorem d_qh_bindInGround_10 : decode qh_bindInGround_c 10 = .ok (.iload_n 1, 1) := by decide +kernel
theorem d_qh_bindInGround_11 : decode qh_bindInGround_c 11 = .ok (.aload_n 0, 1) := by decide +kernel
theorem d_qh_bindInGround_12 : decode qh_bindInGround_c 12 = .ok (.iconst 0, 1) := by decide +kernel
theorem d_qh_bindInGround_13 : decode qh_bindInGround_c 13 = .ok (.invokevirtual 39, 3) := by decide +kernel
theorem d_qh_bindInGround_16 : decode qh_bindInGround_c 16 = .ok (.invokestatic 43, 3) := by decide +kernel
theorem d_qh_bindInGround_19 : decode qh_bindInGround_c 19 = .ok (.invokevirtual 25, 3) := by decide +kernel
theorem d_qh_bindInGround_22 : decode qh_bindInGround_c 22 = .ok (.aload_n 0, 1) := by decide +kernel
theorem d_qh_bindInGround_23 : decode qh_bindInGround_c 23 = .ok (.iconst 0, 1) := by decide +kernel
theorem d_qh_bindInGround_24 : decode qh_bindInGround_c 24 = .ok (.ldc2_w 23, 3) := by decide +kernel
theorem d_qh_bindInGround_27 : decode qh_bindInGround_c 27 = .ok (.iload 4, 2) := by decide +kernel
theorem d_qh_bindInGround_29 : decode qh_bindInGround_c 29 = .ok (.i2l, 1) := by decide +kernel
theorem d_qh_bindInGround_30 : decode qh_bindInGround_c 30 = .ok (.invokevirtual 25, 3) := by decide +kernel
theorem d_qh_bindInGround_33 : decode qh_bindInGround_c 33 = .ok (.return_, 1) := by decide +kernel
theorem d_qh_restoreGround_0 : decode qh_restoreGround_c 0 = .ok (.aload_n 0, 1) := by decide +kernel
theorem d_qh_restoreGround_1 : decode qh_restoreGround_c 1 = .ok (.bipush 100, 2) := by decide +kernel
theorem d_qh_restoreGround_3 : decode qh_restoreGround_c 3 = .ok (.putfield 19, 3) := by decide +kernel
theorem d_qh_restoreGround_6 : decode qh_restoreGround_c 6 = .ok (.aload_n 0, 1) := by decide +kernel
theorem d_qh_restoreGround_7 : decode qh_restoreGround_c 7 = .ok (.iconst 0, 1) := by decide +kernel
theorem d_qh_restoreGround_8 : decode qh_restoreGround_c 8 = .ok (.ldc2_w 23, 3) := by decide +kernel
theorem d_qh_restoreGround_11 : decode qh_restoreGround_c 11 = .ok (.ldc2_w 23, 3) := by decide +kernel
theorem d_qh_restoreGround_14 : decode qh_restoreGround_c 14 = .ok (.invokevirtual 25, 3) := by decide +kernel
theorem d_qh_restoreGround_17 : decode qh_restoreGround_c 17 = .ok (.aload_n 0, 1) := by decide +kernel
theorem d_qh_restoreGround_18 : decode qh_restoreGround_c 18 = .ok (.iconst 1, 1) := by decide +kernel
theorem d_qh_restoreGround_19 : decode qh_restoreGround_c 19 = .ok (.lconst 0, 1) := by decide +kernel
theorem d_qh_restoreGround_20 : decode qh_restoreGround_c 20 = .ok (.ldc2_w 23, 3) := by decide +kernel
theorem d_qh_restoreGround_23 : decode qh_restoreGround_c 23 = .ok (.invokevirtual 25, 3) := by decide +kernel
theorem d_qh_restoreGround_26 : decode qh_restoreGround_c 26 = .ok (.iconst 0, 1) := by decide +kernel
theorem d_qh_restoreGround_27 : decode qh_restoreGround_c 27 = .ok (.istore_n 1, 1) := by decide +kernel
theorem d_qh_restoreGround_28 : decode qh_restoreGround_c 28 = .ok (.iload_n 1, 1) := by decide +kernel
theorem d_qh_restoreGround_29 : decode qh_restoreGround_c 29 = .ok (.bipush 7, 2) := by decide +kernel
theorem d_qh_restoreGround_31 : decode qh_restoreGround_c 31 = .ok (.if_icmp .gt 20, 3) := by decide +kernel
theorem d_qh_restoreGround_34 : decode qh_restoreGround_c 34 = .ok (.aload_n 0, 1) := by decide +kernel
theorem d_qh_restoreGround_35 : decode qh_restoreGround_c 35 = .ok (.iload_n 1, 1) := by decide +kernel
theorem d_qh_restoreGround_36 : decode qh_restoreGround_c 36 = .ok (.iconst 5, 1) := by decide +kernel
theorem d_qh_restoreGround_37 : decode qh_restoreGround_c 37 = .ok (.iload_n 1, 1) := by decide +kernel
theorem d_qh_restoreGround_38 : decode qh_restoreGround_c 38 = .ok (.i2l, 1) := by decide +kernel
theorem d_qh_restoreGround_39 : decode qh_restoreGround_c 39 = .ok (.invokestatic 31, 3) := by decide +kernel
theorem d_qh_restoreGround_42 : decode qh_restoreGround_c 42 = .ok (.invokevirtual 35, 3) := by decide +kernel
theorem d_qh_restoreGround_45 : decode qh_restoreGround_c 45 = .ok (.iinc 1 1, 3) := by decide +kernel
theorem d_qh_restoreGround_48 : decode qh_restoreGround_c 48 = .ok (.goto (-20), 3) := by decide +kernel
theorem d_qh_restoreGround_51 : decode qh_restoreGround_c 51 = .ok (.bipush 10, 2) := by decide +kernel
theorem d_qh_restoreGround_53 : decode qh_restoreGround_c 53 = .ok (.istore_n 1, 1) := by decide +kernel
theorem d_qh_restoreGround_54 : decode qh_restoreGround_c 54 = .ok (.iload_n 1, 1) := by decide +kernel
theorem d_qh_restoreGround_55 : decode qh_restoreGround_c 55 = .ok (.bipush 25, 2) := by decide +kernel
theorem d_qh_restoreGround_57 : decode qh_restoreGround_c 57 = .ok (.if_icmp .gt 33, 3) := by decide +kernel
theorem d_qh_restoreGround_60 : decode qh_restoreGround_c 60 = .ok (.aload_n 0, 1) := by decide +kernel
theorem d_qh_restoreGround_61 : decode qh_restoreGround_c 61 = .ok (.iload_n 1, 1) := by decide +kernel
theorem d_qh_restoreGround_62 : decode qh_restoreGround_c 62 = .ok (.iconst 5, 1) := by decide +kernel
theorem d_qh_restoreGround_63 : decode qh_restoreGround_c 63 = .ok (.iload_n 1, 1) := by decide +kernel
theorem d_qh_restoreGround_64 : decode qh_restoreGround_c 64 = .ok (.i2l, 1) := by decide +kernel
theorem d_qh_restoreGround_65 : decode qh_restoreGround_c 65 = .ok (.invokestatic 31, 3) := by decide +kernel
theorem d_qh_restoreGround_68 : decode qh_restoreGround_c 68 = .ok (.lconst 0, 1) := by decide +kernel
theorem d_qh_restoreGround_69 : decode qh_restoreGround_c 69 = .ok (.invokevirtual 25, 3) := by decide +kernel
theorem d_qh_restoreGround_72 : decode qh_restoreGround_c 72 = .ok (.aload_n 0, 1) := by decide +kernel
theorem d_qh_restoreGround_73 : decode qh_restoreGround_c 73 = .ok (.iload_n 1, 1) := by decide +kernel
theorem d_qh_restoreGround_74 : decode qh_restoreGround_c 74 = .ok (.bipush 6, 2) := by decide +kernel
theorem d_qh_restoreGround_76 : decode qh_restoreGround_c 76 = .ok (.iload_n 1, 1) := by decide +kernel
theorem d_qh_restoreGround_77 : decode qh_restoreGround_c 77 = .ok (.i2l, 1) := by decide +kernel
theorem d_qh_restoreGround_78 : decode qh_restoreGround_c 78 = .ok (.invokestatic 31, 3) := by decide +kernel
theorem d_qh_restoreGround_81 : decode qh_restoreGround_c 81 = .ok (.invokevirtual 35, 3) := by decide +kernel
theorem d_qh_restoreGround_84 : decode qh_restoreGround_c 84 = .ok (.iinc 1 1, 3) := by decide +kernel
theorem d_qh_restoreGround_87 : decode qh_restoreGround_c 87 = .ok (.goto (-33), 3) := by decide +kernel
theorem d_qh_restoreGround_90 : decode qh_restoreGround_c 90 = .ok (.return_, 1) := by decide +kernel
theorem d_qf_clear_0 : decode qf_clear_c 0 = .ok (.aload_n 0, 1) := by decide +kernel
theorem d_qf_clear_1 : decode qf_clear_c 1 = .ok (.iconst 0, 1) := by decide +kernel
theorem d_qf_clear_2 : decode qf_clear_c 2 = .ok (.putfield 26, 3) := by decide +kernel
theorem d_qf_clear_5 : decode qf_clear_c 5 = .ok (.aload_n 0, 1) := by decide +kernel
theorem d_qf_clear_6 : decode qf_clear_c 6 = .ok (.iconst 0, 1) := by decide +kernel
theorem d_qf_clear_7 : decode qf_clear_c 7 = .ok (.putfield 30, 3) := by decide +kernel
theorem d_qf_clear_10 : decode qf_clear_c 10 = .ok (.return_, 1) := by decide +kernel
theorem d_qn_forget_0 : decode qn_forget_c 0 = .ok (.aload_n 0, 1) := by decide +kernel
theorem d_qn_forget_1 : decode qn_forget_c 1 = .ok (.getfield 27, 3) := by decide +kernel
theorem d_qn_forget_4 : decode qn_forget_c 4 = .ok (.invokevirtual 38, 3) := by decide +kernel
theorem d_qn_forget_7 : decode qn_forget_c 7 = .ok (.aload_n 0, 1) := by decide +kernel
theorem d_qn_forget_8 : decode qn_forget_c 8 = .ok (.iconst 0, 1) := by decide +kernel
theorem d_qn_forget_9 : decode qn_forget_c 9 = .ok (.putfield 41, 3) := by decide +kernel
theorem d_qn_forget_12 : decode qn_forget_c 12 = .ok (.aload_n 0, 1) := by decide +kernel
theorem d_qn_forget_13 : decode qn_forget_c 13 = .ok (.iconst 4, 1) := by decide +kernel
theorem d_qn_forget_14 : decode qn_forget_c 14 = .ok (.putfield 45, 3) := by decide +kernel
theorem d_qn_forget_17 : decode qn_forget_c 17 = .ok (.aload_n 0, 1) := by decide +kernel
theorem d_qn_forget_18 : decode qn_forget_c 18 = .ok (.ldc2_w 50, 3) := by decide +kernel
theorem d_qn_forget_21 : decode qn_forget_c 21 = .ok (.putfield 52, 3) := by decide +kernel
theorem d_qn_forget_24 : decode qn_forget_c 24 = .ok (.aload_n 0, 1) := by decide +kernel
theorem d_qn_forget_25 : decode qn_forget_c 25 = .ok (.ldc2_w 50, 3) := by decide +kernel
theorem d_qn_forget_28 : decode qn_forget_c 28 = .ok (.putfield 56, 3) := by decide +kernel
theorem d_qn_forget_31 : decode qn_forget_c 31 = .ok (.aload_n 0, 1) := by decide +kernel
theorem d_qn_forget_32 : decode qn_forget_c 32 = .ok (.iconst 1, 1) := by decide +kernel
theorem d_qn_forget_33 : decode qn_forget_c 33 = .ok (.putfield 61, 3) := by decide +kernel
theorem d_qn_forget_36 : decode qn_forget_c 36 = .ok (.aload_n 0, 1) := by decide +kernel
theorem d_qn_forget_37 : decode qn_forget_c 37 = .ok (.iconst 0, 1) := by decide +kernel
theorem d_qn_forget_38 : decode qn_forget_c 38 = .ok (.putfield 64, 3) := by decide +kernel
theorem d_qn_forget_41 : decode qn_forget_c 41 = .ok (.aload_n 0, 1) := by decide +kernel
theorem d_qn_forget_42 : decode qn_forget_c 42 = .ok (.iconst 0, 1) := by decide +kernel
theorem d_qn_forget_43 : decode qn_forget_c 43 = .ok (.putfield 67, 3) := by decide +kernel
theorem d_qn_forget_46 : decode qn_forget_c 46 = .ok (.aload_n 0, 1) := by decide +kernel
theorem d_qn_forget_47 : decode qn_forget_c 47 = .ok (.iconst 0, 1) := by decide +kernel
theorem d_qn_forget_48 : decode qn_forget_c 48 = .ok (.putfield 70, 3) := by decide +kernel
theorem d_qn_forget_51 : decode qn_forget_c 51 = .ok (.return_, 1) := by decide +kernel
theorem d_qw_isInteger_0 : decode qw_isInteger_c 0 = .ok (.lload_n 0, 1) := by decide +kernel
theorem d_qw_isInteger_1 : decode qw_isInteger_c 1 = .ok (.ldc2_w 21, 3) := by decide +kernel
theorem d_qw_isInteger_4 : decode qw_isInteger_c 4 = .ok (.lcmp, 1) := by decide +kernel
theorem d_qw_isInteger_5 : decode qw_isInteger_c 5 = .ok (.ifCond .lt 15, 3) := by decide +kernel
theorem d_qw_isInteger_8 : decode qw_isInteger_c 8 = .ok (.lload_n 0, 1) := by decide +kernel
theorem d_qw_isInteger_9 : decode qw_isInteger_c 9 = .ok (.ldc2_w 23, 3) := by decide +kernel
theorem d_qw_isInteger_12 : decode qw_isInteger_c 12 = .ok (.lcmp, 1) := by decide +kernel
theorem d_qw_isInteger_13 : decode qw_isInteger_c 13 = .ok (.ifCond .gt 7, 3) := by decide +kernel
theorem d_qw_isInteger_16 : decode qw_isInteger_c 16 = .ok (.iconst 1, 1) := by decide +kernel
theorem d_qw_isInteger_17 : decode qw_isInteger_c 17 = .ok (.goto 4, 3) := by decide +kernel
theorem d_qw_isInteger_20 : decode qw_isInteger_c 20 = .ok (.iconst 0, 1) := by decide +kernel
theorem d_qw_isInteger_21 : decode qw_isInteger_c 21 = .ok (.ireturn, 1) := by decide +kernel
theorem d_qx_push_0 : decode qx_push_c 0 = .ok (.aload_n 0, 1) := by decide +kernel
theorem d_qx_push_1 : decode qx_push_c 1 = .ok (.getfield 31, 3) := by decide +kernel
theorem d_qx_push_4 : decode qx_push_c 4 = .ok (.ifCond .lt 12, 3) := by decide +kernel
theorem d_qx_push_7 : decode qx_push_c 7 = .ok (.aload_n 0, 1) := by decide +kernel
theorem d_qx_push_8 : decode qx_push_c 8 = .ok (.getfield 31, 3) := by decide +kernel
theorem d_qx_push_11 : decode qx_push_c 11 = .ok (.bipush 40, 2) := by decide +kernel
theorem d_qx_push_13 : decode qx_push_c 13 = .ok (.if_icmp .lt 6, 3) := by decide +kernel
theorem d_qx_push_16 : decode qx_push_c 16 = .ok (.bipush (-3), 2) := by decide +kernel
theorem d_qx_push_18 : decode qx_push_c 18 = .ok (.ireturn, 1) := by decide +kernel
theorem d_qx_push_19 : decode qx_push_c 19 = .ok (.aload_n 0, 1) := by decide +kernel
theorem d_qx_push_20 : decode qx_push_c 20 = .ok (.getfield 27, 3) := by decide +kernel
theorem d_qx_push_23 : decode qx_push_c 23 = .ok (.aload_n 0, 1) := by decide +kernel
theorem d_qx_push_24 : decode qx_push_c 24 = .ok (.getfield 31, 3) := by decide +kernel
theorem d_qx_push_27 : decode qx_push_c 27 = .ok (.lload_n 1, 1) := by decide +kernel
theorem d_qx_push_28 : decode qx_push_c 28 = .ok (.lastore, 1) := by decide +kernel
theorem d_qx_push_29 : decode qx_push_c 29 = .ok (.aload_n 0, 1) := by decide +kernel
theorem d_qx_push_30 : decode qx_push_c 30 = .ok (.dup, 1) := by decide +kernel
theorem d_qx_push_31 : decode qx_push_c 31 = .ok (.getfield 31, 3) := by decide +kernel
theorem d_qx_push_34 : decode qx_push_c 34 = .ok (.iconst 1, 1) := by decide +kernel
theorem d_qx_push_35 : decode qx_push_c 35 = .ok (.iadd, 1) := by decide +kernel
theorem d_qx_push_36 : decode qx_push_c 36 = .ok (.putfield 31, 3) := by decide +kernel
theorem d_qx_push_39 : decode qx_push_c 39 = .ok (.aload_n 0, 1) := by decide +kernel
theorem d_qx_push_40 : decode qx_push_c 40 = .ok (.getfield 31, 3) := by decide +kernel
theorem d_qx_push_43 : decode qx_push_c 43 = .ok (.ireturn, 1) := by decide +kernel
theorem d_qx_pushInteger_0 : decode qx_pushInteger_c 0 = .ok (.lload_n 1, 1) := by decide +kernel
theorem d_qx_pushInteger_1 : decode qx_pushInteger_c 1 = .ok (.invokestatic 41, 3) := by decide +kernel
theorem d_qx_pushInteger_4 : decode qx_pushInteger_c 4 = .ok (.ifCond .ne 5, 3) := by decide +kernel
theorem d_qx_pushInteger_7 : decode qx_pushInteger_c 7 = .ok (.iconst (-1), 1) := by decide +kernel
theorem d_qx_pushInteger_8 : decode qx_pushInteger_c 8 = .ok (.ireturn, 1) := by decide +kernel
theorem d_qx_pushInteger_9 : decode qx_pushInteger_c 9 = .ok (.aload_n 0, 1) := by decide +kernel
theorem d_qx_pushInteger_10 : decode qx_pushInteger_c 10 = .ok (.iconst 0, 1) := by decide +kernel
theorem d_qx_pushInteger_11 : decode qx_pushInteger_c 11 = .ok (.lload_n 1, 1) := by decide +kernel
theorem d_qx_pushInteger_12 : decode qx_pushInteger_c 12 = .ok (.invokestatic 47, 3) := by decide +kernel
theorem d_qx_pushInteger_15 : decode qx_pushInteger_c 15 = .ok (.invokevirtual 51, 3) := by decide +kernel
theorem d_qx_pushInteger_18 : decode qx_pushInteger_c 18 = .ok (.ireturn, 1) := by decide +kernel
theorem d_qw_makeBoolean_0 : decode qw_makeBoolean_c 0 = .ok (.iconst 1, 1) := by decide +kernel
theorem d_qw_makeBoolean_1 : decode qw_makeBoolean_c 1 = .ok (.iload_n 0, 1) := by decide +kernel
theorem d_qw_makeBoolean_2 : decode qw_makeBoolean_c 2 = .ok (.ifCond .eq 7, 3) := by decide +kernel
theorem d_qw_makeBoolean_5 : decode qw_makeBoolean_c 5 = .ok (.lconst 1, 1) := by decide +kernel
theorem d_qw_makeBoolean_6 : decode qw_makeBoolean_c 6 = .ok (.goto 4, 3) := by decide +kernel
theorem d_qw_makeBoolean_9 : decode qw_makeBoolean_c 9 = .ok (.lconst 0, 1) := by decide +kernel
theorem d_qw_makeBoolean_10 : decode qw_makeBoolean_c 10 = .ok (.invokestatic 11, 3) := by decide +kernel
theorem d_qw_makeBoolean_13 : decode qw_makeBoolean_c 13 = .ok (.lreturn, 1) := by decide +kernel
theorem d_qx_pushBoolean_0 : decode qx_pushBoolean_c 0 = .ok (.aload_n 0, 1) := by decide +kernel
theorem d_qx_pushBoolean_1 : decode qx_pushBoolean_c 1 = .ok (.iload_n 1, 1) := by decide +kernel
theorem d_qx_pushBoolean_2 : decode qx_pushBoolean_c 2 = .ok (.invokestatic 55, 3) := by decide +kernel
theorem d_qx_pushBoolean_5 : decode qx_pushBoolean_c 5 = .ok (.invokevirtual 51, 3) := by decide +kernel
theorem d_qx_pushBoolean_8 : decode qx_pushBoolean_c 8 = .ok (.ireturn, 1) := by decide +kernel
theorem d_qw_isSymbol_0 : decode qw_isSymbol_c 0 = .ok (.iload_n 0, 1) := by decide +kernel
theorem d_qw_isSymbol_1 : decode qw_isSymbol_c 1 = .ok (.ifCond .lt 13, 3) := by decide +kernel
theorem d_qw_isSymbol_4 : decode qw_isSymbol_c 4 = .ok (.iload_n 0, 1) := by decide +kernel
theorem d_qw_isSymbol_5 : decode qw_isSymbol_c 5 = .ok (.bipush 100, 2) := by decide +kernel
theorem d_qw_isSymbol_7 : decode qw_isSymbol_c 7 = .ok (.if_icmp .ge 7, 3) := by decide +kernel
theorem d_qw_isSymbol_10 : decode qw_isSymbol_c 10 = .ok (.iconst 1, 1) := by decide +kernel
theorem d_qw_isSymbol_11 : decode qw_isSymbol_c 11 = .ok (.goto 4, 3) := by decide +kernel
theorem d_qw_isSymbol_14 : decode qw_isSymbol_c 14 = .ok (.iconst 0, 1) := by decide +kernel
theorem d_qw_isSymbol_15 : decode qw_isSymbol_c 15 = .ok (.ireturn, 1) := by decide +kernel
theorem d_qx_pushSymbol_0 : decode qx_pushSymbol_c 0 = .ok (.iload_n 1, 1) := by decide +kernel
theorem d_qx_pushSymbol_1 : decode qx_pushSymbol_c 1 = .ok (.invokestatic 59, 3) := by decide +kernel
theorem d_qx_pushSymbol_4 : decode qx_pushSymbol_c 4 = .ok (.ifCond .ne 5, 3) := by decide +kernel
theorem d_qx_pushSymbol_7 : decode qx_pushSymbol_c 7 = .ok (.iconst (-1), 1) := by decide +kernel
theorem d_qx_pushSymbol_8 : decode qx_pushSymbol_c 8 = .ok (.ireturn, 1) := by decide +kernel
theorem d_qx_pushSymbol_9 : decode qx_pushSymbol_c 9 = .ok (.aload_n 0, 1) := by decide +kernel
theorem d_qx_pushSymbol_10 : decode qx_pushSymbol_c 10 = .ok (.iconst 2, 1) := by decide +kernel
theorem d_qx_pushSymbol_11 : decode qx_pushSymbol_c 11 = .ok (.iload_n 1, 1) := by decide +kernel
theorem d_qx_pushSymbol_12 : decode qx_pushSymbol_c 12 = .ok (.i2l, 1) := by decide +kernel
theorem d_qx_pushSymbol_13 : decode qx_pushSymbol_c 13 = .ok (.invokestatic 47, 3) := by decide +kernel
theorem d_qx_pushSymbol_16 : decode qx_pushSymbol_c 16 = .ok (.invokevirtual 51, 3) := by decide +kernel
theorem d_qx_pushSymbol_19 : decode qx_pushSymbol_c 19 = .ok (.ireturn, 1) := by decide +kernel
theorem d_qx_pushEmpty_0 : decode qx_pushEmpty_c 0 = .ok (.aload_n 0, 1) := by decide +kernel
theorem d_qx_pushEmpty_1 : decode qx_pushEmpty_c 1 = .ok (.iload_n 1, 1) := by decide +kernel
theorem d_qx_pushEmpty_2 : decode qx_pushEmpty_c 2 = .ok (.ifCond .eq 9, 3) := by decide +kernel
theorem d_qx_pushEmpty_5 : decode qx_pushEmpty_c 5 = .ok (.ldc2_w 63, 3) := by decide +kernel
theorem d_qx_pushEmpty_8 : decode qx_pushEmpty_c 8 = .ok (.goto 6, 3) := by decide +kernel
theorem d_qx_pushEmpty_11 : decode qx_pushEmpty_c 11 = .ok (.ldc2_w 65, 3) := by decide +kernel
theorem d_qx_pushEmpty_14 : decode qx_pushEmpty_c 14 = .ok (.invokevirtual 51, 3) := by decide +kernel
theorem d_qx_pushEmpty_17 : decode qx_pushEmpty_c 17 = .ok (.ireturn, 1) := by decide +kernel
theorem d_qx_pushEnvironment_0 : decode qx_pushEnvironment_c 0 = .ok (.aload_n 0, 1) := by decide +kernel
theorem d_qx_pushEnvironment_1 : decode qx_pushEnvironment_c 1 = .ok (.bipush 7, 2) := by decide +kernel
theorem d_qx_pushEnvironment_3 : decode qx_pushEnvironment_c 3 = .ok (.aload_n 0, 1) := by decide +kernel
theorem d_qx_pushEnvironment_4 : decode qx_pushEnvironment_c 4 = .ok (.getfield 35, 3) := by decide +kernel
theorem d_qx_pushEnvironment_7 : decode qx_pushEnvironment_c 7 = .ok (.i2l, 1) := by decide +kernel
theorem d_qx_pushEnvironment_8 : decode qx_pushEnvironment_c 8 = .ok (.invokestatic 47, 3) := by decide +kernel
theorem d_qx_pushEnvironment_11 : decode qx_pushEnvironment_c 11 = .ok (.invokevirtual 51, 3) := by decide +kernel
theorem d_qx_pushEnvironment_14 : decode qx_pushEnvironment_c 14 = .ok (.ireturn, 1) := by decide +kernel
theorem d_qx_depthError_0 : decode qx_depthError_c 0 = .ok (.iload_n 1, 1) := by decide +kernel
theorem d_qx_depthError_1 : decode qx_depthError_c 1 = .ok (.ifCond .ge 5, 3) := by decide +kernel
theorem d_qx_depthError_4 : decode qx_depthError_c 4 = .ok (.iconst (-1), 1) := by decide +kernel
theorem d_qx_depthError_5 : decode qx_depthError_c 5 = .ok (.ireturn, 1) := by decide +kernel
theorem d_qx_depthError_6 : decode qx_depthError_c 6 = .ok (.iload_n 1, 1) := by decide +kernel
theorem d_qx_depthError_7 : decode qx_depthError_c 7 = .ok (.aload_n 0, 1) := by decide +kernel
theorem d_qx_depthError_8 : decode qx_depthError_c 8 = .ok (.getfield 31, 3) := by decide +kernel
theorem d_qx_depthError_11 : decode qx_depthError_c 11 = .ok (.if_icmp .lt 8, 3) := by decide +kernel
theorem d_qx_depthError_14 : decode qx_depthError_c 14 = .ok (.bipush (-2), 2) := by decide +kernel
theorem d_qx_depthError_16 : decode qx_depthError_c 16 = .ok (.goto 4, 3) := by decide +kernel
theorem d_qx_depthError_19 : decode qx_depthError_c 19 = .ok (.iconst 0, 1) := by decide +kernel
theorem d_qx_depthError_20 : decode qx_depthError_c 20 = .ok (.ireturn, 1) := by decide +kernel
theorem d_qx_valueAt_0 : decode qx_valueAt_c 0 = .ok (.aload_n 0, 1) := by decide +kernel
theorem d_qx_valueAt_1 : decode qx_valueAt_c 1 = .ok (.getfield 31, 3) := by decide +kernel
theorem d_qx_valueAt_4 : decode qx_valueAt_c 4 = .ok (.iconst 1, 1) := by decide +kernel
theorem d_qx_valueAt_5 : decode qx_valueAt_c 5 = .ok (.isub, 1) := by decide +kernel
theorem d_qx_valueAt_6 : decode qx_valueAt_c 6 = .ok (.iload_n 1, 1) := by decide +kernel
theorem d_qx_valueAt_7 : decode qx_valueAt_c 7 = .ok (.isub, 1) := by decide +kernel
theorem d_qx_valueAt_8 : decode qx_valueAt_c 8 = .ok (.istore_n 2, 1) := by decide +kernel
theorem d_qx_valueAt_9 : decode qx_valueAt_c 9 = .ok (.iload_n 2, 1) := by decide +kernel
theorem d_qx_valueAt_10 : decode qx_valueAt_c 10 = .ok (.ifCond .lt 18, 3) := by decide +kernel
theorem d_qx_valueAt_13 : decode qx_valueAt_c 13 = .ok (.iload_n 2, 1) := by decide +kernel
theorem d_qx_valueAt_14 : decode qx_valueAt_c 14 = .ok (.bipush 40, 2) := by decide +kernel
theorem d_qx_valueAt_16 : decode qx_valueAt_c 16 = .ok (.if_icmp .ge 12, 3) := by decide +kernel
theorem d_qx_valueAt_19 : decode qx_valueAt_c 19 = .ok (.aload_n 0, 1) := by decide +kernel
theorem d_qx_valueAt_20 : decode qx_valueAt_c 20 = .ok (.getfield 27, 3) := by decide +kernel
theorem d_qx_valueAt_23 : decode qx_valueAt_c 23 = .ok (.iload_n 2, 1) := by decide +kernel
theorem d_qx_valueAt_24 : decode qx_valueAt_c 24 = .ok (.laload, 1) := by decide +kernel
theorem d_qx_valueAt_25 : decode qx_valueAt_c 25 = .ok (.goto 6, 3) := by decide +kernel
theorem d_qx_valueAt_28 : decode qx_valueAt_c 28 = .ok (.ldc2_w 65, 3) := by decide +kernel
theorem d_qx_valueAt_31 : decode qx_valueAt_c 31 = .ok (.lreturn, 1) := by decide +kernel
theorem d_qx_pushCopy_0 : decode qx_pushCopy_c 0 = .ok (.aload_n 0, 1) := by decide +kernel
theorem d_qx_pushCopy_1 : decode qx_pushCopy_c 1 = .ok (.iload_n 1, 1) := by decide +kernel
theorem d_qx_pushCopy_2 : decode qx_pushCopy_c 2 = .ok (.invokevirtual 67, 3) := by decide +kernel
theorem d_qx_pushCopy_5 : decode qx_pushCopy_c 5 = .ok (.istore_n 2, 1) := by decide +kernel
theorem d_qx_pushCopy_6 : decode qx_pushCopy_c 6 = .ok (.iload_n 2, 1) := by decide +kernel
theorem d_qx_pushCopy_7 : decode qx_pushCopy_c 7 = .ok (.ifCond .eq 5, 3) := by decide +kernel
theorem d_qx_pushCopy_10 : decode qx_pushCopy_c 10 = .ok (.iload_n 2, 1) := by decide +kernel
theorem d_qx_pushCopy_11 : decode qx_pushCopy_c 11 = .ok (.ireturn, 1) := by decide +kernel
theorem d_qx_pushCopy_12 : decode qx_pushCopy_c 12 = .ok (.aload_n 0, 1) := by decide +kernel
theorem d_qx_pushCopy_13 : decode qx_pushCopy_c 13 = .ok (.aload_n 0, 1) := by decide +kernel
theorem d_qx_pushCopy_14 : decode qx_pushCopy_c 14 = .ok (.iload_n 1, 1) := by decide +kernel
theorem d_qx_pushCopy_15 : decode qx_pushCopy_c 15 = .ok (.invokevirtual 71, 3) := by decide +kernel
theorem d_qx_pushCopy_18 : decode qx_pushCopy_c 18 = .ok (.invokevirtual 51, 3) := by decide +kernel
theorem d_qx_pushCopy_21 : decode qx_pushCopy_c 21 = .ok (.ireturn, 1) := by decide +kernel
theorem d_qw_kindOf_0 : decode qw_kindOf_c 0 = .ok (.lload_n 0, 1) := by decide +kernel
theorem d_qw_kindOf_1 : decode qw_kindOf_c 1 = .ok (.ldc2_w 15, 3) := by decide +kernel
theorem d_qw_kindOf_4 : decode qw_kindOf_c 4 = .ok (.land, 1) := by decide +kernel
theorem d_qw_kindOf_5 : decode qw_kindOf_c 5 = .ok (.l2i, 1) := by decide +kernel
theorem d_qw_kindOf_6 : decode qw_kindOf_c 6 = .ok (.ireturn, 1) := by decide +kernel
theorem d_qw_rowOf_0 : decode qw_rowOf_c 0 = .ok (.lload_n 0, 1) := by decide +kernel
theorem d_qw_rowOf_1 : decode qw_rowOf_c 1 = .ok (.iconst 4, 1) := by decide +kernel
theorem d_qw_rowOf_2 : decode qw_rowOf_c 2 = .ok (.lshr, 1) := by decide +kernel
theorem d_qw_rowOf_3 : decode qw_rowOf_c 3 = .ok (.l2i, 1) := by decide +kernel
theorem d_qw_rowOf_4 : decode qw_rowOf_c 4 = .ok (.ireturn, 1) := by decide +kernel
theorem d_qh_firstAt_0 : decode qh_firstAt_c 0 = .ok (.iload_n 1, 1) := by decide +kernel
theorem d_qh_firstAt_1 : decode qh_firstAt_c 1 = .ok (.ifCond .lt 19, 3) := by decide +kernel
theorem d_qh_firstAt_4 : decode qh_firstAt_c 4 = .ok (.iload_n 1, 1) := by decide +kernel
theorem d_qh_firstAt_5 : decode qh_firstAt_c 5 = .ok (.sipush 4100, 3) := by decide +kernel
theorem d_qh_firstAt_8 : decode qh_firstAt_c 8 = .ok (.if_icmp .ge 12, 3) := by decide +kernel
theorem d_qh_firstAt_11 : decode qh_firstAt_c 11 = .ok (.aload_n 0, 1) := by decide +kernel
theorem d_qh_firstAt_12 : decode qh_firstAt_c 12 = .ok (.getfield 9, 3) := by decide +kernel
theorem d_qh_firstAt_15 : decode qh_firstAt_c 15 = .ok (.iload_n 1, 1) := by decide +kernel
theorem d_qh_firstAt_16 : decode qh_firstAt_c 16 = .ok (.laload, 1) := by decide +kernel
theorem d_qh_firstAt_17 : decode qh_firstAt_c 17 = .ok (.goto 6, 3) := by decide +kernel
theorem d_qh_firstAt_20 : decode qh_firstAt_c 20 = .ok (.ldc2_w 47, 3) := by decide +kernel
theorem d_qh_firstAt_23 : decode qh_firstAt_c 23 = .ok (.lreturn, 1) := by decide +kernel
theorem d_qh_carOf_0 : decode qh_carOf_c 0 = .ok (.aload_n 0, 1) := by decide +kernel
theorem d_qh_carOf_1 : decode qh_carOf_c 1 = .ok (.lload_n 1, 1) := by decide +kernel
theorem d_qh_carOf_2 : decode qh_carOf_c 2 = .ok (.invokestatic 53, 3) := by decide +kernel
theorem d_qh_carOf_5 : decode qh_carOf_c 5 = .ok (.invokevirtual 57, 3) := by decide +kernel
theorem d_qh_carOf_8 : decode qh_carOf_c 8 = .ok (.lreturn, 1) := by decide +kernel
theorem d_qh_cdrOf_0 : decode qh_cdrOf_c 0 = .ok (.aload_n 0, 1) := by decide +kernel
theorem d_qh_cdrOf_1 : decode qh_cdrOf_c 1 = .ok (.lload_n 1, 1) := by decide +kernel
theorem d_qh_cdrOf_2 : decode qh_cdrOf_c 2 = .ok (.invokestatic 53, 3) := by decide +kernel
theorem d_qh_cdrOf_5 : decode qh_cdrOf_c 5 = .ok (.invokevirtual 61, 3) := by decide +kernel
theorem d_qh_cdrOf_8 : decode qh_cdrOf_c 8 = .ok (.lreturn, 1) := by decide +kernel
theorem d_qh_underlyingOf_0 : decode qh_underlyingOf_c 0 = .ok (.aload_n 0, 1) := by decide +kernel
theorem d_qh_underlyingOf_1 : decode qh_underlyingOf_c 1 = .ok (.lload_n 1, 1) := by decide +kernel
theorem d_qh_underlyingOf_2 : decode qh_underlyingOf_c 2 = .ok (.invokestatic 53, 3) := by decide +kernel
theorem d_qh_underlyingOf_5 : decode qh_underlyingOf_c 5 = .ok (.invokevirtual 57, 3) := by decide +kernel
theorem d_qh_underlyingOf_8 : decode qh_underlyingOf_c 8 = .ok (.lreturn, 1) := by decide +kernel
theorem d_qh_parentOf_0 : decode qh_parentOf_c 0 = .ok (.aload_n 0, 1) := by decide +kernel
theorem d_qh_parentOf_1 : decode qh_parentOf_c 1 = .ok (.iload_n 1, 1) := by decide +kernel
theorem d_qh_parentOf_2 : decode qh_parentOf_c 2 = .ok (.invokevirtual 57, 3) := by decide +kernel
theorem d_qh_parentOf_5 : decode qh_parentOf_c 5 = .ok (.l2i, 1) := by decide +kernel
theorem d_qh_parentOf_6 : decode qh_parentOf_c 6 = .ok (.ireturn, 1) := by decide +kernel
theorem d_qx_pushParent_0 : decode qx_pushParent_c 0 = .ok (.aload_n 0, 1) := by decide +kernel
theorem d_qx_pushParent_1 : decode qx_pushParent_c 1 = .ok (.getfield 31, 3) := by decide +kernel
theorem d_qx_pushParent_4 : decode qx_pushParent_c 4 = .ok (.bipush 40, 2) := by decide +kernel
theorem d_qx_pushParent_6 : decode qx_pushParent_c 6 = .ok (.if_icmp .lt 6, 3) := by decide +kernel
theorem d_qx_pushParent_9 : decode qx_pushParent_c 9 = .ok (.bipush (-3), 2) := by decide +kernel
theorem d_qx_pushParent_11 : decode qx_pushParent_c 11 = .ok (.ireturn, 1) := by decide +kernel
theorem d_qx_pushParent_12 : decode qx_pushParent_c 12 = .ok (.aload_n 0, 1) := by decide +kernel
theorem d_qx_pushParent_13 : decode qx_pushParent_c 13 = .ok (.getfield 12, 3) := by decide +kernel
theorem d_qx_pushParent_16 : decode qx_pushParent_c 16 = .ok (.iload_n 1, 1) := by decide +kernel
theorem d_qx_pushParent_17 : decode qx_pushParent_c 17 = .ok (.invokevirtual 149, 3) := by decide +kernel
theorem d_qx_pushParent_20 : decode qx_pushParent_c 20 = .ok (.istore_n 2, 1) := by decide +kernel
theorem d_qx_pushParent_21 : decode qx_pushParent_c 21 = .ok (.iload_n 2, 1) := by decide +kernel
theorem d_qx_pushParent_22 : decode qx_pushParent_c 22 = .ok (.iconst (-1), 1) := by decide +kernel
theorem d_qx_pushParent_23 : decode qx_pushParent_c 23 = .ok (.if_icmp .ne 8, 3) := by decide +kernel
theorem d_qx_pushParent_26 : decode qx_pushParent_c 26 = .ok (.bipush (-12), 2) := by decide +kernel
theorem d_qx_pushParent_28 : decode qx_pushParent_c 28 = .ok (.goto 14, 3) := by decide +kernel
theorem d_qx_pushParent_31 : decode qx_pushParent_c 31 = .ok (.aload_n 0, 1) := by decide +kernel
theorem d_qx_pushParent_32 : decode qx_pushParent_c 32 = .ok (.bipush 7, 2) := by decide +kernel
theorem d_qx_pushParent_34 : decode qx_pushParent_c 34 = .ok (.iload_n 2, 1) := by decide +kernel
theorem d_qx_pushParent_35 : decode qx_pushParent_c 35 = .ok (.i2l, 1) := by decide +kernel
theorem d_qx_pushParent_36 : decode qx_pushParent_c 36 = .ok (.invokestatic 47, 3) := by decide +kernel
theorem d_qx_pushParent_39 : decode qx_pushParent_c 39 = .ok (.invokevirtual 51, 3) := by decide +kernel
theorem d_qx_pushParent_42 : decode qx_pushParent_c 42 = .ok (.ireturn, 1) := by decide +kernel
theorem d_qx_pushPart_0 : decode qx_pushPart_c 0 = .ok (.iload_n 2, 1) := by decide +kernel
theorem d_qx_pushPart_1 : decode qx_pushPart_c 1 = .ok (.ifCond .eq 10, 3) := by decide +kernel
theorem d_qx_pushPart_4 : decode qx_pushPart_c 4 = .ok (.iload_n 2, 1) := by decide +kernel
theorem d_qx_pushPart_5 : decode qx_pushPart_c 5 = .ok (.iconst 1, 1) := by decide +kernel
theorem d_qx_pushPart_6 : decode qx_pushPart_c 6 = .ok (.if_icmp .eq 5, 3) := by decide +kernel
theorem d_qx_pushPart_9 : decode qx_pushPart_c 9 = .ok (.iconst (-1), 1) := by decide +kernel
theorem d_qx_pushPart_10 : decode qx_pushPart_c 10 = .ok (.ireturn, 1) := by decide +kernel
theorem d_qx_pushPart_11 : decode qx_pushPart_c 11 = .ok (.aload_n 0, 1) := by decide +kernel
theorem d_qx_pushPart_12 : decode qx_pushPart_c 12 = .ok (.iload_n 1, 1) := by decide +kernel
theorem d_qx_pushPart_13 : decode qx_pushPart_c 13 = .ok (.invokevirtual 67, 3) := by decide +kernel
theorem d_qx_pushPart_16 : decode qx_pushPart_c 16 = .ok (.istore_n 3, 1) := by decide +kernel
theorem d_qx_pushPart_17 : decode qx_pushPart_c 17 = .ok (.iload_n 3, 1) := by decide +kernel
theorem d_qx_pushPart_18 : decode qx_pushPart_c 18 = .ok (.ifCond .eq 5, 3) := by decide +kernel
theorem d_qx_pushPart_21 : decode qx_pushPart_c 21 = .ok (.iload_n 3, 1) := by decide +kernel
theorem d_qx_pushPart_22 : decode qx_pushPart_c 22 = .ok (.ireturn, 1) := by decide +kernel
theorem d_qx_pushPart_23 : decode qx_pushPart_c 23 = .ok (.aload_n 0, 1) := by decide +kernel
theorem d_qx_pushPart_24 : decode qx_pushPart_c 24 = .ok (.iload_n 1, 1) := by decide +kernel
theorem d_qx_pushPart_25 : decode qx_pushPart_c 25 = .ok (.invokevirtual 71, 3) := by decide +kernel
theorem d_qx_pushPart_28 : decode qx_pushPart_c 28 = .ok (.lstore 4, 2) := by decide +kernel
theorem d_qx_pushPart_30 : decode qx_pushPart_c 30 = .ok (.lload 4, 2) := by decide +kernel
theorem d_qx_pushPart_32 : decode qx_pushPart_c 32 = .ok (.invokestatic 75, 3) := by decide +kernel
theorem d_qx_pushPart_35 : decode qx_pushPart_c 35 = .ok (.istore 6, 2) := by decide +kernel
theorem d_qx_pushPart_37 : decode qx_pushPart_c 37 = .ok (.iload 6, 2) := by decide +kernel
theorem d_qx_pushPart_39 : decode qx_pushPart_c 39 = .ok (.iconst 4, 1) := by decide +kernel
theorem d_qx_pushPart_40 : decode qx_pushPart_c 40 = .ok (.if_icmp .ne 33, 3) := by decide +kernel
theorem d_qx_pushPart_43 : decode qx_pushPart_c 43 = .ok (.aload_n 0, 1) := by decide +kernel
theorem d_qx_pushPart_44 : decode qx_pushPart_c 44 = .ok (.iload_n 2, 1) := by decide +kernel
theorem d_qx_pushPart_45 : decode qx_pushPart_c 45 = .ok (.ifCond .ne 15, 3) := by decide +kernel
theorem d_qx_pushPart_48 : decode qx_pushPart_c 48 = .ok (.aload_n 0, 1) := by decide +kernel
theorem d_qx_pushPart_49 : decode qx_pushPart_c 49 = .ok (.getfield 12, 3) := by decide +kernel
theorem d_qx_pushPart_52 : decode qx_pushPart_c 52 = .ok (.lload 4, 2) := by decide +kernel
theorem d_qx_pushPart_54 : decode qx_pushPart_c 54 = .ok (.invokevirtual 78, 3) := by decide +kernel
theorem d_qx_pushPart_57 : decode qx_pushPart_c 57 = .ok (.goto 12, 3) := by decide +kernel
theorem d_qx_pushPart_60 : decode qx_pushPart_c 60 = .ok (.aload_n 0, 1) := by decide +kernel
theorem d_qx_pushPart_61 : decode qx_pushPart_c 61 = .ok (.getfield 12, 3) := by decide +kernel
theorem d_qx_pushPart_64 : decode qx_pushPart_c 64 = .ok (.lload 4, 2) := by decide +kernel
theorem d_qx_pushPart_66 : decode qx_pushPart_c 66 = .ok (.invokevirtual 82, 3) := by decide +kernel
theorem d_qx_pushPart_69 : decode qx_pushPart_c 69 = .ok (.invokevirtual 51, 3) := by decide +kernel
theorem d_qx_pushPart_72 : decode qx_pushPart_c 72 = .ok (.ireturn, 1) := by decide +kernel
theorem d_qx_pushPart_73 : decode qx_pushPart_c 73 = .ok (.iload_n 2, 1) := by decide +kernel
theorem d_qx_pushPart_74 : decode qx_pushPart_c 74 = .ok (.ifCond .ne 24, 3) := by decide +kernel
theorem d_qx_pushPart_77 : decode qx_pushPart_c 77 = .ok (.iload 6, 2) := by decide +kernel
theorem d_qx_pushPart_79 : decode qx_pushPart_c 79 = .ok (.bipush 6, 2) := by decide +kernel
theorem d_qx_pushPart_81 : decode qx_pushPart_c 81 = .ok (.if_icmp .ne 17, 3) := by decide +kernel
theorem d_qx_pushPart_84 : decode qx_pushPart_c 84 = .ok (.aload_n 0, 1) := by decide +kernel
theorem d_qx_pushPart_85 : decode qx_pushPart_c 85 = .ok (.aload_n 0, 1) := by decide +kernel
theorem d_qx_pushPart_86 : decode qx_pushPart_c 86 = .ok (.getfield 12, 3) := by decide +kernel
theorem d_qx_pushPart_89 : decode qx_pushPart_c 89 = .ok (.lload 4, 2) := by decide +kernel
theorem d_qx_pushPart_91 : decode qx_pushPart_c 91 = .ok (.invokevirtual 85, 3) := by decide +kernel
theorem d_qx_pushPart_94 : decode qx_pushPart_c 94 = .ok (.invokevirtual 51, 3) := by decide +kernel
theorem d_qx_pushPart_97 : decode qx_pushPart_c 97 = .ok (.ireturn, 1) := by decide +kernel
theorem d_qx_pushPart_98 : decode qx_pushPart_c 98 = .ok (.iload_n 2, 1) := by decide +kernel
theorem d_qx_pushPart_99 : decode qx_pushPart_c 99 = .ok (.ifCond .ne 20, 3) := by decide +kernel
theorem d_qx_pushPart_102 : decode qx_pushPart_c 102 = .ok (.iload 6, 2) := by decide +kernel
theorem d_qx_pushPart_104 : decode qx_pushPart_c 104 = .ok (.bipush 7, 2) := by decide +kernel
theorem d_qx_pushPart_106 : decode qx_pushPart_c 106 = .ok (.if_icmp .ne 13, 3) := by decide +kernel
theorem d_qx_pushPart_109 : decode qx_pushPart_c 109 = .ok (.aload_n 0, 1) := by decide +kernel
theorem d_qx_pushPart_110 : decode qx_pushPart_c 110 = .ok (.lload 4, 2) := by decide +kernel
theorem d_qx_pushPart_112 : decode qx_pushPart_c 112 = .ok (.invokestatic 88, 3) := by decide +kernel
theorem d_qx_pushPart_115 : decode qx_pushPart_c 115 = .ok (.invokevirtual 91, 3) := by decide +kernel
theorem d_qx_pushPart_118 : decode qx_pushPart_c 118 = .ok (.ireturn, 1) := by decide +kernel
theorem d_qx_pushPart_119 : decode qx_pushPart_c 119 = .ok (.bipush (-4), 2) := by decide +kernel
theorem d_qx_pushPart_121 : decode qx_pushPart_c 121 = .ok (.ireturn, 1) := by decide +kernel
theorem d_qx_kindError_0 : decode qx_kindError_c 0 = .ok (.aload_n 0, 1) := by decide +kernel
theorem d_qx_kindError_1 : decode qx_kindError_c 1 = .ok (.iload_n 1, 1) := by decide +kernel
theorem d_qx_kindError_2 : decode qx_kindError_c 2 = .ok (.invokevirtual 67, 3) := by decide +kernel
theorem d_qx_kindError_5 : decode qx_kindError_c 5 = .ok (.istore_n 3, 1) := by decide +kernel
theorem d_qx_kindError_6 : decode qx_kindError_c 6 = .ok (.iload_n 3, 1) := by decide +kernel
theorem d_qx_kindError_7 : decode qx_kindError_c 7 = .ok (.ifCond .eq 5, 3) := by decide +kernel
theorem d_qx_kindError_10 : decode qx_kindError_c 10 = .ok (.iload_n 3, 1) := by decide +kernel
theorem d_qx_kindError_11 : decode qx_kindError_c 11 = .ok (.ireturn, 1) := by decide +kernel
theorem d_qx_kindError_12 : decode qx_kindError_c 12 = .ok (.aload_n 0, 1) := by decide +kernel
theorem d_qx_kindError_13 : decode qx_kindError_c 13 = .ok (.iload_n 1, 1) := by decide +kernel
theorem d_qx_kindError_14 : decode qx_kindError_c 14 = .ok (.invokevirtual 71, 3) := by decide +kernel
theorem d_qx_kindError_17 : decode qx_kindError_c 17 = .ok (.invokestatic 75, 3) := by decide +kernel
theorem d_qx_kindError_20 : decode qx_kindError_c 20 = .ok (.iload_n 2, 1) := by decide +kernel
theorem d_qx_kindError_21 : decode qx_kindError_c 21 = .ok (.if_icmp .ne 7, 3) := by decide +kernel
theorem d_qx_kindError_24 : decode qx_kindError_c 24 = .ok (.iconst 0, 1) := by decide +kernel
theorem d_qx_kindError_25 : decode qx_kindError_c 25 = .ok (.goto 5, 3) := by decide +kernel
theorem d_qx_kindError_28 : decode qx_kindError_c 28 = .ok (.bipush (-4), 2) := by decide +kernel
theorem d_qx_kindError_30 : decode qx_kindError_c 30 = .ok (.ireturn, 1) := by decide +kernel
theorem d_qh_symbolIn_0 : decode qh_symbolIn_c 0 = .ok (.lload_n 0, 1) := by decide +kernel
theorem d_qh_symbolIn_1 : decode qh_symbolIn_c 1 = .ok (.ldc2_w 71, 3) := by decide +kernel
theorem d_qh_symbolIn_4 : decode qh_symbolIn_c 4 = .ok (.land, 1) := by decide +kernel
theorem d_qh_symbolIn_5 : decode qh_symbolIn_c 5 = .ok (.l2i, 1) := by decide +kernel
theorem d_qh_symbolIn_6 : decode qh_symbolIn_c 6 = .ok (.ireturn, 1) := by decide +kernel
theorem d_qh_nextIn_0 : decode qh_nextIn_c 0 = .ok (.lload_n 0, 1) := by decide +kernel
theorem d_qh_nextIn_1 : decode qh_nextIn_c 1 = .ok (.bipush 7, 2) := by decide +kernel
theorem d_qh_nextIn_3 : decode qh_nextIn_c 3 = .ok (.lshr, 1) := by decide +kernel
theorem d_qh_nextIn_4 : decode qh_nextIn_c 4 = .ok (.l2i, 1) := by decide +kernel
theorem d_qh_nextIn_5 : decode qh_nextIn_c 5 = .ok (.ireturn, 1) := by decide +kernel
theorem d_qh_ownBinding_0 : decode qh_ownBinding_c 0 = .ok (.aload_n 0, 1) := by decide +kernel
theorem d_qh_ownBinding_1 : decode qh_ownBinding_c 1 = .ok (.iload_n 1, 1) := by decide +kernel
theorem d_qh_ownBinding_2 : decode qh_ownBinding_c 2 = .ok (.invokevirtual 39, 3) := by decide +kernel
theorem d_qh_ownBinding_5 : decode qh_ownBinding_c 5 = .ok (.istore_n 3, 1) := by decide +kernel
theorem d_qh_ownBinding_6 : decode qh_ownBinding_c 6 = .ok (.iconst 0, 1) := by decide +kernel
theorem d_qh_ownBinding_7 : decode qh_ownBinding_c 7 = .ok (.istore 4, 2) := by decide +kernel
theorem d_qh_ownBinding_9 : decode qh_ownBinding_c 9 = .ok (.iload_n 3, 1) := by decide +kernel
theorem d_qh_ownBinding_10 : decode qh_ownBinding_c 10 = .ok (.iconst (-1), 1) := by decide +kernel
theorem d_qh_ownBinding_11 : decode qh_ownBinding_c 11 = .ok (.if_icmp .eq 41, 3) := by decide +kernel
theorem d_qh_ownBinding_14 : decode qh_ownBinding_c 14 = .ok (.iload 4, 2) := by decide +kernel
theorem d_qh_ownBinding_16 : decode qh_ownBinding_c 16 = .ok (.sipush 4100, 3) := by decide +kernel
theorem d_qh_ownBinding_19 : decode qh_ownBinding_c 19 = .ok (.if_icmp .ge 33, 3) := by decide +kernel
theorem d_qh_ownBinding_22 : decode qh_ownBinding_c 22 = .ok (.aload_n 0, 1) := by decide +kernel
theorem d_qh_ownBinding_23 : decode qh_ownBinding_c 23 = .ok (.iload_n 3, 1) := by decide +kernel
theorem d_qh_ownBinding_24 : decode qh_ownBinding_c 24 = .ok (.invokevirtual 61, 3) := by decide +kernel
theorem d_qh_ownBinding_27 : decode qh_ownBinding_c 27 = .ok (.lstore 5, 2) := by decide +kernel
theorem d_qh_ownBinding_29 : decode qh_ownBinding_c 29 = .ok (.lload 5, 2) := by decide +kernel
theorem d_qh_ownBinding_31 : decode qh_ownBinding_c 31 = .ok (.invokestatic 78, 3) := by decide +kernel
theorem d_qh_ownBinding_34 : decode qh_ownBinding_c 34 = .ok (.iload_n 2, 1) := by decide +kernel
theorem d_qh_ownBinding_35 : decode qh_ownBinding_c 35 = .ok (.if_icmp .ne 5, 3) := by decide +kernel
theorem d_qh_ownBinding_38 : decode qh_ownBinding_c 38 = .ok (.iload_n 3, 1) := by decide +kernel
theorem d_qh_ownBinding_39 : decode qh_ownBinding_c 39 = .ok (.ireturn, 1) := by decide +kernel
theorem d_qh_ownBinding_40 : decode qh_ownBinding_c 40 = .ok (.lload 5, 2) := by decide +kernel
theorem d_qh_ownBinding_42 : decode qh_ownBinding_c 42 = .ok (.invokestatic 75, 3) := by decide +kernel
theorem d_qh_ownBinding_45 : decode qh_ownBinding_c 45 = .ok (.istore_n 3, 1) := by decide +kernel
theorem d_qh_ownBinding_46 : decode qh_ownBinding_c 46 = .ok (.iinc 4 1, 3) := by decide +kernel
theorem d_qh_ownBinding_49 : decode qh_ownBinding_c 49 = .ok (.goto (-40), 3) := by decide +kernel
theorem d_qh_ownBinding_52 : decode qh_ownBinding_c 52 = .ok (.iconst (-1), 1) := by decide +kernel
theorem d_qh_ownBinding_53 : decode qh_ownBinding_c 53 = .ok (.ireturn, 1) := by decide +kernel
theorem d_qh_visibleBinding_0 : decode qh_visibleBinding_c 0 = .ok (.iload_n 1, 1) := by decide +kernel
theorem d_qh_visibleBinding_1 : decode qh_visibleBinding_c 1 = .ok (.istore_n 3, 1) := by decide +kernel
theorem d_qh_visibleBinding_2 : decode qh_visibleBinding_c 2 = .ok (.iconst 0, 1) := by decide +kernel
theorem d_qh_visibleBinding_3 : decode qh_visibleBinding_c 3 = .ok (.istore 4, 2) := by decide +kernel
theorem d_qh_visibleBinding_5 : decode qh_visibleBinding_c 5 = .ok (.iload_n 3, 1) := by decide +kernel
theorem d_qh_visibleBinding_6 : decode qh_visibleBinding_c 6 = .ok (.iconst (-1), 1) := by decide +kernel
theorem d_qh_visibleBinding_7 : decode qh_visibleBinding_c 7 = .ok (.if_icmp .eq 40, 3) := by decide +kernel
theorem d_qh_visibleBinding_10 : decode qh_visibleBinding_c 10 = .ok (.iload 4, 2) := by decide +kernel
theorem d_qh_visibleBinding_12 : decode qh_visibleBinding_c 12 = .ok (.sipush 4100, 3) := by decide +kernel
theorem d_qh_visibleBinding_15 : decode qh_visibleBinding_c 15 = .ok (.if_icmp .ge 32, 3) := by decide +kernel
theorem d_qh_visibleBinding_18 : decode qh_visibleBinding_c 18 = .ok (.aload_n 0, 1) := by decide +kernel
theorem d_qh_visibleBinding_19 : decode qh_visibleBinding_c 19 = .ok (.iload_n 3, 1) := by decide +kernel
theorem d_qh_visibleBinding_20 : decode qh_visibleBinding_c 20 = .ok (.iload_n 2, 1) := by decide +kernel
theorem d_qh_visibleBinding_21 : decode qh_visibleBinding_c 21 = .ok (.invokevirtual 81, 3) := by decide +kernel
theorem d_qh_visibleBinding_24 : decode qh_visibleBinding_c 24 = .ok (.istore 5, 2) := by decide +kernel
theorem d_qh_visibleBinding_26 : decode qh_visibleBinding_c 26 = .ok (.iload 5, 2) := by decide +kernel
theorem d_qh_visibleBinding_28 : decode qh_visibleBinding_c 28 = .ok (.iconst (-1), 1) := by decide +kernel
theorem d_qh_visibleBinding_29 : decode qh_visibleBinding_c 29 = .ok (.if_icmp .eq 6, 3) := by decide +kernel
theorem d_qh_visibleBinding_32 : decode qh_visibleBinding_c 32 = .ok (.iload 5, 2) := by decide +kernel
theorem d_qh_visibleBinding_34 : decode qh_visibleBinding_c 34 = .ok (.ireturn, 1) := by decide +kernel
theorem d_qh_visibleBinding_35 : decode qh_visibleBinding_c 35 = .ok (.aload_n 0, 1) := by decide +kernel
theorem d_qh_visibleBinding_36 : decode qh_visibleBinding_c 36 = .ok (.iload_n 3, 1) := by decide +kernel
theorem d_qh_visibleBinding_37 : decode qh_visibleBinding_c 37 = .ok (.invokevirtual 85, 3) := by decide +kernel
theorem d_qh_visibleBinding_40 : decode qh_visibleBinding_c 40 = .ok (.istore_n 3, 1) := by decide +kernel
theorem d_qh_visibleBinding_41 : decode qh_visibleBinding_c 41 = .ok (.iinc 4 1, 3) := by decide +kernel
theorem d_qh_visibleBinding_44 : decode qh_visibleBinding_c 44 = .ok (.goto (-39), 3) := by decide +kernel
theorem d_qh_visibleBinding_47 : decode qh_visibleBinding_c 47 = .ok (.iconst (-1), 1) := by decide +kernel
theorem d_qh_visibleBinding_48 : decode qh_visibleBinding_c 48 = .ok (.ireturn, 1) := by decide +kernel
theorem d_qh_boundValueOf_0 : decode qh_boundValueOf_c 0 = .ok (.aload_n 0, 1) := by decide +kernel
theorem d_qh_boundValueOf_1 : decode qh_boundValueOf_c 1 = .ok (.iload_n 1, 1) := by decide +kernel
theorem d_qh_boundValueOf_2 : decode qh_boundValueOf_c 2 = .ok (.invokevirtual 57, 3) := by decide +kernel
theorem d_qh_boundValueOf_5 : decode qh_boundValueOf_c 5 = .ok (.lreturn, 1) := by decide +kernel
theorem d_qx_pushBinding_0 : decode qx_pushBinding_c 0 = .ok (.iload_n 2, 1) := by decide +kernel
theorem d_qx_pushBinding_1 : decode qx_pushBinding_c 1 = .ok (.invokestatic 59, 3) := by decide +kernel
theorem d_qx_pushBinding_4 : decode qx_pushBinding_c 4 = .ok (.ifCond .ne 5, 3) := by decide +kernel
theorem d_qx_pushBinding_7 : decode qx_pushBinding_c 7 = .ok (.iconst (-1), 1) := by decide +kernel
theorem d_qx_pushBinding_8 : decode qx_pushBinding_c 8 = .ok (.ireturn, 1) := by decide +kernel
theorem d_qx_pushBinding_9 : decode qx_pushBinding_c 9 = .ok (.aload_n 0, 1) := by decide +kernel
theorem d_qx_pushBinding_10 : decode qx_pushBinding_c 10 = .ok (.iload_n 1, 1) := by decide +kernel
theorem d_qx_pushBinding_11 : decode qx_pushBinding_c 11 = .ok (.bipush 7, 2) := by decide +kernel
theorem d_qx_pushBinding_13 : decode qx_pushBinding_c 13 = .ok (.invokevirtual 94, 3) := by decide +kernel
theorem d_qx_pushBinding_16 : decode qx_pushBinding_c 16 = .ok (.istore_n 3, 1) := by decide +kernel
theorem d_qx_pushBinding_17 : decode qx_pushBinding_c 17 = .ok (.iload_n 3, 1) := by decide +kernel
theorem d_qx_pushBinding_18 : decode qx_pushBinding_c 18 = .ok (.ifCond .eq 5, 3) := by decide +kernel
theorem d_qx_pushBinding_21 : decode qx_pushBinding_c 21 = .ok (.iload_n 3, 1) := by decide +kernel
theorem d_qx_pushBinding_22 : decode qx_pushBinding_c 22 = .ok (.ireturn, 1) := by decide +kernel
theorem d_qx_pushBinding_23 : decode qx_pushBinding_c 23 = .ok (.aload_n 0, 1) := by decide +kernel
theorem d_qx_pushBinding_24 : decode qx_pushBinding_c 24 = .ok (.getfield 12, 3) := by decide +kernel
theorem d_qx_pushBinding_27 : decode qx_pushBinding_c 27 = .ok (.aload_n 0, 1) := by decide +kernel
theorem d_qx_pushBinding_28 : decode qx_pushBinding_c 28 = .ok (.iload_n 1, 1) := by decide +kernel
theorem d_qx_pushBinding_29 : decode qx_pushBinding_c 29 = .ok (.invokevirtual 71, 3) := by decide +kernel
theorem d_qx_pushBinding_32 : decode qx_pushBinding_c 32 = .ok (.invokestatic 88, 3) := by decide +kernel
theorem d_qx_pushBinding_35 : decode qx_pushBinding_c 35 = .ok (.iload_n 2, 1) := by decide +kernel
theorem d_qx_pushBinding_36 : decode qx_pushBinding_c 36 = .ok (.invokevirtual 98, 3) := by decide +kernel
theorem d_qx_pushBinding_39 : decode qx_pushBinding_c 39 = .ok (.istore 4, 2) := by decide +kernel
theorem d_qx_pushBinding_41 : decode qx_pushBinding_c 41 = .ok (.iload 4, 2) := by decide +kernel
theorem d_qx_pushBinding_43 : decode qx_pushBinding_c 43 = .ok (.iconst (-1), 1) := by decide +kernel
theorem d_qx_pushBinding_44 : decode qx_pushBinding_c 44 = .ok (.if_icmp .ne 6, 3) := by decide +kernel
theorem d_qx_pushBinding_47 : decode qx_pushBinding_c 47 = .ok (.bipush (-6), 2) := by decide +kernel
theorem d_qx_pushBinding_49 : decode qx_pushBinding_c 49 = .ok (.ireturn, 1) := by decide +kernel
theorem d_qx_pushBinding_50 : decode qx_pushBinding_c 50 = .ok (.aload_n 0, 1) := by decide +kernel
theorem d_qx_pushBinding_51 : decode qx_pushBinding_c 51 = .ok (.aload_n 0, 1) := by decide +kernel
theorem d_qx_pushBinding_52 : decode qx_pushBinding_c 52 = .ok (.getfield 12, 3) := by decide +kernel
theorem d_qx_pushBinding_55 : decode qx_pushBinding_c 55 = .ok (.iload 4, 2) := by decide +kernel
theorem d_qx_pushBinding_57 : decode qx_pushBinding_c 57 = .ok (.invokevirtual 101, 3) := by decide +kernel
theorem d_qx_pushBinding_60 : decode qx_pushBinding_c 60 = .ok (.invokevirtual 51, 3) := by decide +kernel
theorem d_qx_pushBinding_63 : decode qx_pushBinding_c 63 = .ok (.ireturn, 1) := by decide +kernel
theorem d_qh_add_0 : decode qh_add_c 0 = .ok (.aload_n 0, 1) := by decide +kernel
theorem d_qh_add_1 : decode qh_add_c 1 = .ok (.getfield 19, 3) := by decide +kernel
theorem d_qh_add_4 : decode qh_add_c 4 = .ok (.istore 5, 2) := by decide +kernel
theorem d_qh_add_6 : decode qh_add_c 6 = .ok (.iload 5, 2) := by decide +kernel
theorem d_qh_add_8 : decode qh_add_c 8 = .ok (.ifCond .lt 11, 3) := by decide +kernel
theorem d_qh_add_11 : decode qh_add_c 11 = .ok (.iload 5, 2) := by decide +kernel
theorem d_qh_add_13 : decode qh_add_c 13 = .ok (.sipush 4100, 3) := by decide +kernel
theorem d_qh_add_16 : decode qh_add_c 16 = .ok (.if_icmp .lt 5, 3) := by decide +kernel
theorem d_qh_add_19 : decode qh_add_c 19 = .ok (.iconst (-1), 1) := by decide +kernel
theorem d_qh_add_20 : decode qh_add_c 20 = .ok (.ireturn, 1) := by decide +kernel
theorem d_qh_add_21 : decode qh_add_c 21 = .ok (.aload_n 0, 1) := by decide +kernel
theorem d_qh_add_22 : decode qh_add_c 22 = .ok (.getfield 9, 3) := by decide +kernel
theorem d_qh_add_25 : decode qh_add_c 25 = .ok (.iload 5, 2) := by decide +kernel
theorem d_qh_add_27 : decode qh_add_c 27 = .ok (.lload_n 1, 1) := by decide +kernel
theorem d_qh_add_28 : decode qh_add_c 28 = .ok (.lastore, 1) := by decide +kernel
theorem d_qh_add_29 : decode qh_add_c 29 = .ok (.aload_n 0, 1) := by decide +kernel
theorem d_qh_add_30 : decode qh_add_c 30 = .ok (.getfield 13, 3) := by decide +kernel
theorem d_qh_add_33 : decode qh_add_c 33 = .ok (.iload 5, 2) := by decide +kernel
theorem d_qh_add_35 : decode qh_add_c 35 = .ok (.lload_n 3, 1) := by decide +kernel
theorem d_qh_add_36 : decode qh_add_c 36 = .ok (.lastore, 1) := by decide +kernel
theorem d_qh_add_37 : decode qh_add_c 37 = .ok (.aload_n 0, 1) := by decide +kernel
theorem d_qh_add_38 : decode qh_add_c 38 = .ok (.dup, 1) := by decide +kernel
theorem d_qh_add_39 : decode qh_add_c 39 = .ok (.getfield 19, 3) := by decide +kernel
theorem d_qh_add_42 : decode qh_add_c 42 = .ok (.iconst 1, 1) := by decide +kernel
theorem d_qh_add_43 : decode qh_add_c 43 = .ok (.iadd, 1) := by decide +kernel
theorem d_qh_add_44 : decode qh_add_c 44 = .ok (.putfield 19, 3) := by decide +kernel
theorem d_qh_add_47 : decode qh_add_c 47 = .ok (.iload 5, 2) := by decide +kernel
theorem d_qh_add_49 : decode qh_add_c 49 = .ok (.ireturn, 1) := by decide +kernel
theorem d_qh_addPair_0 : decode qh_addPair_c 0 = .ok (.aload_n 0, 1) := by decide +kernel
theorem d_qh_addPair_1 : decode qh_addPair_c 1 = .ok (.lload_n 1, 1) := by decide +kernel
theorem d_qh_addPair_2 : decode qh_addPair_c 2 = .ok (.lload_n 3, 1) := by decide +kernel
theorem d_qh_addPair_3 : decode qh_addPair_c 3 = .ok (.invokevirtual 49, 3) := by decide +kernel
theorem d_qh_addPair_6 : decode qh_addPair_c 6 = .ok (.ireturn, 1) := by decide +kernel
theorem d_qx_makePair_0 : decode qx_makePair_c 0 = .ok (.aload_n 0, 1) := by decide +kernel
theorem d_qx_makePair_1 : decode qx_makePair_c 1 = .ok (.getfield 31, 3) := by decide +kernel
theorem d_qx_makePair_4 : decode qx_makePair_c 4 = .ok (.iconst 2, 1) := by decide +kernel
theorem d_qx_makePair_5 : decode qx_makePair_c 5 = .ok (.if_icmp .ge 6, 3) := by decide +kernel
theorem d_qx_makePair_8 : decode qx_makePair_c 8 = .ok (.bipush (-2), 2) := by decide +kernel
theorem d_qx_makePair_10 : decode qx_makePair_c 10 = .ok (.ireturn, 1) := by decide +kernel
theorem d_qx_makePair_11 : decode qx_makePair_c 11 = .ok (.aload_n 0, 1) := by decide +kernel
theorem d_qx_makePair_12 : decode qx_makePair_c 12 = .ok (.getfield 12, 3) := by decide +kernel
theorem d_qx_makePair_15 : decode qx_makePair_c 15 = .ok (.aload_n 0, 1) := by decide +kernel
theorem d_qx_makePair_16 : decode qx_makePair_c 16 = .ok (.iconst 1, 1) := by decide +kernel
theorem d_qx_makePair_17 : decode qx_makePair_c 17 = .ok (.invokevirtual 71, 3) := by decide +kernel
theorem d_qx_makePair_20 : decode qx_makePair_c 20 = .ok (.aload_n 0, 1) := by decide +kernel
theorem d_qx_makePair_21 : decode qx_makePair_c 21 = .ok (.iconst 0, 1) := by decide +kernel
theorem d_qx_makePair_22 : decode qx_makePair_c 22 = .ok (.invokevirtual 71, 3) := by decide +kernel
theorem d_qx_makePair_25 : decode qx_makePair_c 25 = .ok (.invokevirtual 104, 3) := by decide +kernel
theorem d_qx_makePair_28 : decode qx_makePair_c 28 = .ok (.istore_n 1, 1) := by decide +kernel
theorem d_qx_makePair_29 : decode qx_makePair_c 29 = .ok (.iload_n 1, 1) := by decide +kernel
theorem d_qx_makePair_30 : decode qx_makePair_c 30 = .ok (.iconst (-1), 1) := by decide +kernel
theorem d_qx_makePair_31 : decode qx_makePair_c 31 = .ok (.if_icmp .ne 6, 3) := by decide +kernel
theorem d_qx_makePair_34 : decode qx_makePair_c 34 = .ok (.bipush (-5), 2) := by decide +kernel
theorem d_qx_makePair_36 : decode qx_makePair_c 36 = .ok (.ireturn, 1) := by decide +kernel
theorem d_qx_makePair_37 : decode qx_makePair_c 37 = .ok (.aload_n 0, 1) := by decide +kernel
theorem d_qx_makePair_38 : decode qx_makePair_c 38 = .ok (.dup, 1) := by decide +kernel
theorem d_qx_makePair_39 : decode qx_makePair_c 39 = .ok (.getfield 31, 3) := by decide +kernel
theorem d_qx_makePair_42 : decode qx_makePair_c 42 = .ok (.iconst 2, 1) := by decide +kernel
theorem d_qx_makePair_43 : decode qx_makePair_c 43 = .ok (.isub, 1) := by decide +kernel
theorem d_qx_makePair_44 : decode qx_makePair_c 44 = .ok (.putfield 31, 3) := by decide +kernel
theorem d_qx_makePair_47 : decode qx_makePair_c 47 = .ok (.aload_n 0, 1) := by decide +kernel
theorem d_qx_makePair_48 : decode qx_makePair_c 48 = .ok (.iconst 4, 1) := by decide +kernel
theorem d_qx_makePair_49 : decode qx_makePair_c 49 = .ok (.iload_n 1, 1) := by decide +kernel
theorem d_qx_makePair_50 : decode qx_makePair_c 50 = .ok (.i2l, 1) := by decide +kernel
theorem d_qx_makePair_51 : decode qx_makePair_c 51 = .ok (.invokestatic 47, 3) := by decide +kernel
theorem d_qx_makePair_54 : decode qx_makePair_c 54 = .ok (.invokevirtual 51, 3) := by decide +kernel
theorem d_qx_makePair_57 : decode qx_makePair_c 57 = .ok (.ireturn, 1) := by decide +kernel
theorem d_qx_countError_0 : decode qx_countError_c 0 = .ok (.iload_n 1, 1) := by decide +kernel
theorem d_qx_countError_1 : decode qx_countError_c 1 = .ok (.ifCond .lt 9, 3) := by decide +kernel
theorem d_qx_countError_4 : decode qx_countError_c 4 = .ok (.iload_n 1, 1) := by decide +kernel
theorem d_qx_countError_5 : decode qx_countError_c 5 = .ok (.bipush 40, 2) := by decide +kernel
theorem d_qx_countError_7 : decode qx_countError_c 7 = .ok (.if_icmp .le 5, 3) := by decide +kernel
theorem d_qx_countError_10 : decode qx_countError_c 10 = .ok (.iconst (-1), 1) := by decide +kernel
theorem d_qx_countError_11 : decode qx_countError_c 11 = .ok (.ireturn, 1) := by decide +kernel
theorem d_qx_countError_12 : decode qx_countError_c 12 = .ok (.iload_n 1, 1) := by decide +kernel
theorem d_qx_countError_13 : decode qx_countError_c 13 = .ok (.aload_n 0, 1) := by decide +kernel
theorem d_qx_countError_14 : decode qx_countError_c 14 = .ok (.getfield 31, 3) := by decide +kernel
theorem d_qx_countError_17 : decode qx_countError_c 17 = .ok (.if_icmp .le 8, 3) := by decide +kernel
theorem d_qx_countError_20 : decode qx_countError_c 20 = .ok (.bipush (-2), 2) := by decide +kernel
theorem d_qx_countError_22 : decode qx_countError_c 22 = .ok (.goto 4, 3) := by decide +kernel
theorem d_qx_countError_25 : decode qx_countError_c 25 = .ok (.iconst 0, 1) := by decide +kernel
theorem d_qx_countError_26 : decode qx_countError_c 26 = .ok (.ireturn, 1) := by decide +kernel
theorem d_qh_hasRoomFor_0 : decode qh_hasRoomFor_c 0 = .ok (.sipush 4100, 3) := by decide +kernel
theorem d_qh_hasRoomFor_3 : decode qh_hasRoomFor_c 3 = .ok (.aload_n 0, 1) := by decide +kernel
theorem d_qh_hasRoomFor_4 : decode qh_hasRoomFor_c 4 = .ok (.getfield 19, 3) := by decide +kernel
theorem d_qh_hasRoomFor_7 : decode qh_hasRoomFor_c 7 = .ok (.isub, 1) := by decide +kernel
theorem d_qh_hasRoomFor_8 : decode qh_hasRoomFor_c 8 = .ok (.iload_n 1, 1) := by decide +kernel
theorem d_qh_hasRoomFor_9 : decode qh_hasRoomFor_c 9 = .ok (.if_icmp .lt 7, 3) := by decide +kernel
theorem d_qh_hasRoomFor_12 : decode qh_hasRoomFor_c 12 = .ok (.iconst 1, 1) := by decide +kernel
theorem d_qh_hasRoomFor_13 : decode qh_hasRoomFor_c 13 = .ok (.goto 4, 3) := by decide +kernel
theorem d_qh_hasRoomFor_16 : decode qh_hasRoomFor_c 16 = .ok (.iconst 0, 1) := by decide +kernel
theorem d_qh_hasRoomFor_17 : decode qh_hasRoomFor_c 17 = .ok (.ireturn, 1) := by decide +kernel
theorem d_qx_makeList_0 : decode qx_makeList_c 0 = .ok (.aload_n 0, 1) := by decide +kernel
theorem d_qx_makeList_1 : decode qx_makeList_c 1 = .ok (.iload_n 1, 1) := by decide +kernel
theorem d_qx_makeList_2 : decode qx_makeList_c 2 = .ok (.invokevirtual 108, 3) := by decide +kernel
theorem d_qx_makeList_5 : decode qx_makeList_c 5 = .ok (.istore_n 2, 1) := by decide +kernel
theorem d_qx_makeList_6 : decode qx_makeList_c 6 = .ok (.iload_n 2, 1) := by decide +kernel
theorem d_qx_makeList_7 : decode qx_makeList_c 7 = .ok (.ifCond .eq 5, 3) := by decide +kernel
theorem d_qx_makeList_10 : decode qx_makeList_c 10 = .ok (.iload_n 2, 1) := by decide +kernel
theorem d_qx_makeList_11 : decode qx_makeList_c 11 = .ok (.ireturn, 1) := by decide +kernel
theorem d_qx_makeList_12 : decode qx_makeList_c 12 = .ok (.aload_n 0, 1) := by decide +kernel
theorem d_qx_makeList_13 : decode qx_makeList_c 13 = .ok (.getfield 12, 3) := by decide +kernel
theorem d_qx_makeList_16 : decode qx_makeList_c 16 = .ok (.iload_n 1, 1) := by decide +kernel
theorem d_qx_makeList_17 : decode qx_makeList_c 17 = .ok (.invokevirtual 111, 3) := by decide +kernel
theorem d_qx_makeList_20 : decode qx_makeList_c 20 = .ok (.ifCond .ne 6, 3) := by decide +kernel
theorem d_qx_makeList_23 : decode qx_makeList_c 23 = .ok (.bipush (-5), 2) := by decide +kernel
theorem d_qx_makeList_25 : decode qx_makeList_c 25 = .ok (.ireturn, 1) := by decide +kernel
theorem d_qx_makeList_26 : decode qx_makeList_c 26 = .ok (.ldc2_w 65, 3) := by decide +kernel
theorem d_qx_makeList_29 : decode qx_makeList_c 29 = .ok (.lstore_n 3, 1) := by decide +kernel
theorem d_qx_makeList_30 : decode qx_makeList_c 30 = .ok (.iconst 0, 1) := by decide +kernel
theorem d_qx_makeList_31 : decode qx_makeList_c 31 = .ok (.istore 5, 2) := by decide +kernel
theorem d_qx_makeList_33 : decode qx_makeList_c 33 = .ok (.iload 5, 2) := by decide +kernel
theorem d_qx_makeList_35 : decode qx_makeList_c 35 = .ok (.iload_n 1, 1) := by decide +kernel
theorem d_qx_makeList_36 : decode qx_makeList_c 36 = .ok (.if_icmp .ge 29, 3) := by decide +kernel
theorem d_qx_makeList_39 : decode qx_makeList_c 39 = .ok (.iconst 4, 1) := by decide +kernel
theorem d_qx_makeList_40 : decode qx_makeList_c 40 = .ok (.aload_n 0, 1) := by decide +kernel
theorem d_qx_makeList_41 : decode qx_makeList_c 41 = .ok (.getfield 12, 3) := by decide +kernel
theorem d_qx_makeList_44 : decode qx_makeList_c 44 = .ok (.aload_n 0, 1) := by decide +kernel
theorem d_qx_makeList_45 : decode qx_makeList_c 45 = .ok (.iload 5, 2) := by decide +kernel
theorem d_qx_makeList_47 : decode qx_makeList_c 47 = .ok (.invokevirtual 71, 3) := by decide +kernel
theorem d_qx_makeList_50 : decode qx_makeList_c 50 = .ok (.lload_n 3, 1) := by decide +kernel
theorem d_qx_makeList_51 : decode qx_makeList_c 51 = .ok (.invokevirtual 104, 3) := by decide +kernel
theorem d_qx_makeList_54 : decode qx_makeList_c 54 = .ok (.i2l, 1) := by decide +kernel
theorem d_qx_makeList_55 : decode qx_makeList_c 55 = .ok (.invokestatic 47, 3) := by decide +kernel
theorem d_qx_makeList_58 : decode qx_makeList_c 58 = .ok (.lstore_n 3, 1) := by decide +kernel
theorem d_qx_makeList_59 : decode qx_makeList_c 59 = .ok (.iinc 5 1, 3) := by decide +kernel
theorem d_qx_makeList_62 : decode qx_makeList_c 62 = .ok (.goto (-29), 3) := by decide +kernel
theorem d_qx_makeList_65 : decode qx_makeList_c 65 = .ok (.aload_n 0, 1) := by decide +kernel
theorem d_qx_makeList_66 : decode qx_makeList_c 66 = .ok (.dup, 1) := by decide +kernel
theorem d_qx_makeList_67 : decode qx_makeList_c 67 = .ok (.getfield 31, 3) := by decide +kernel
theorem d_qx_makeList_70 : decode qx_makeList_c 70 = .ok (.iload_n 1, 1) := by decide +kernel
theorem d_qx_makeList_71 : decode qx_makeList_c 71 = .ok (.isub, 1) := by decide +kernel
theorem d_qx_makeList_72 : decode qx_makeList_c 72 = .ok (.putfield 31, 3) := by decide +kernel
theorem d_qx_makeList_75 : decode qx_makeList_c 75 = .ok (.aload_n 0, 1) := by decide +kernel
theorem d_qx_makeList_76 : decode qx_makeList_c 76 = .ok (.lload_n 3, 1) := by decide +kernel
theorem d_qx_makeList_77 : decode qx_makeList_c 77 = .ok (.invokevirtual 51, 3) := by decide +kernel
theorem d_qx_makeList_80 : decode qx_makeList_c 80 = .ok (.ireturn, 1) := by decide +kernel
theorem d_qx_drop_0 : decode qx_drop_c 0 = .ok (.aload_n 0, 1) := by decide +kernel
theorem d_qx_drop_1 : decode qx_drop_c 1 = .ok (.iload_n 1, 1) := by decide +kernel
theorem d_qx_drop_2 : decode qx_drop_c 2 = .ok (.invokevirtual 108, 3) := by decide +kernel
theorem d_qx_drop_5 : decode qx_drop_c 5 = .ok (.istore_n 2, 1) := by decide +kernel
theorem d_qx_drop_6 : decode qx_drop_c 6 = .ok (.iload_n 2, 1) := by decide +kernel
theorem d_qx_drop_7 : decode qx_drop_c 7 = .ok (.ifCond .eq 5, 3) := by decide +kernel
theorem d_qx_drop_10 : decode qx_drop_c 10 = .ok (.iload_n 2, 1) := by decide +kernel
theorem d_qx_drop_11 : decode qx_drop_c 11 = .ok (.ireturn, 1) := by decide +kernel
theorem d_qx_drop_12 : decode qx_drop_c 12 = .ok (.aload_n 0, 1) := by decide +kernel
theorem d_qx_drop_13 : decode qx_drop_c 13 = .ok (.dup, 1) := by decide +kernel
theorem d_qx_drop_14 : decode qx_drop_c 14 = .ok (.getfield 31, 3) := by decide +kernel
theorem d_qx_drop_17 : decode qx_drop_c 17 = .ok (.iload_n 1, 1) := by decide +kernel
theorem d_qx_drop_18 : decode qx_drop_c 18 = .ok (.isub, 1) := by decide +kernel
theorem d_qx_drop_19 : decode qx_drop_c 19 = .ok (.putfield 31, 3) := by decide +kernel
theorem d_qx_drop_22 : decode qx_drop_c 22 = .ok (.aload_n 0, 1) := by decide +kernel
theorem d_qx_drop_23 : decode qx_drop_c 23 = .ok (.getfield 31, 3) := by decide +kernel
theorem d_qx_drop_26 : decode qx_drop_c 26 = .ok (.ireturn, 1) := by decide +kernel
theorem d_qh_objectCount_0 : decode qh_objectCount_c 0 = .ok (.aload_n 0, 1) := by decide +kernel
theorem d_qh_objectCount_1 : decode qh_objectCount_c 1 = .ok (.getfield 19, 3) := by decide +kernel
theorem d_qh_objectCount_4 : decode qh_objectCount_c 4 = .ok (.bipush 100, 2) := by decide +kernel
theorem d_qh_objectCount_6 : decode qh_objectCount_c 6 = .ok (.isub, 1) := by decide +kernel
theorem d_qh_objectCount_7 : decode qh_objectCount_c 7 = .ok (.ireturn, 1) := by decide +kernel
theorem d_qx_reset_0 : decode qx_reset_c 0 = .ok (.aload_n 0, 1) := by decide +kernel
theorem d_qx_reset_1 : decode qx_reset_c 1 = .ok (.getfield 12, 3) := by decide +kernel
theorem d_qx_reset_4 : decode qx_reset_c 4 = .ok (.invokevirtual 114, 3) := by decide +kernel
theorem d_qx_reset_7 : decode qx_reset_c 7 = .ok (.istore_n 1, 1) := by decide +kernel
theorem d_qx_reset_8 : decode qx_reset_c 8 = .ok (.aload_n 0, 1) := by decide +kernel
theorem d_qx_reset_9 : decode qx_reset_c 9 = .ok (.getfield 12, 3) := by decide +kernel
theorem d_qx_reset_12 : decode qx_reset_c 12 = .ok (.invokevirtual 118, 3) := by decide +kernel
theorem d_qx_reset_15 : decode qx_reset_c 15 = .ok (.aload_n 0, 1) := by decide +kernel
theorem d_qx_reset_16 : decode qx_reset_c 16 = .ok (.getfield 23, 3) := by decide +kernel
theorem d_qx_reset_19 : decode qx_reset_c 19 = .ok (.invokevirtual 121, 3) := by decide +kernel
theorem d_qx_reset_22 : decode qx_reset_c 22 = .ok (.aload_n 0, 1) := by decide +kernel
theorem d_qx_reset_23 : decode qx_reset_c 23 = .ok (.iconst 0, 1) := by decide +kernel
theorem d_qx_reset_24 : decode qx_reset_c 24 = .ok (.putfield 31, 3) := by decide +kernel
theorem d_qx_reset_27 : decode qx_reset_c 27 = .ok (.aload_n 0, 1) := by decide +kernel
theorem d_qx_reset_28 : decode qx_reset_c 28 = .ok (.iconst 1, 1) := by decide +kernel
theorem d_qx_reset_29 : decode qx_reset_c 29 = .ok (.putfield 35, 3) := by decide +kernel
theorem d_qx_reset_32 : decode qx_reset_c 32 = .ok (.aload_n 0, 1) := by decide +kernel
theorem d_qx_reset_33 : decode qx_reset_c 33 = .ok (.sipush 1000, 3) := by decide +kernel
theorem d_qx_reset_36 : decode qx_reset_c 36 = .ok (.putfield 38, 3) := by decide +kernel
theorem d_qx_reset_39 : decode qx_reset_c 39 = .ok (.iload_n 1, 1) := by decide +kernel
theorem d_qx_reset_40 : decode qx_reset_c 40 = .ok (.ireturn, 1) := by decide +kernel
theorem d_qx_size_0 : decode qx_size_c 0 = .ok (.aload_n 0, 1) := by decide +kernel
theorem d_qx_size_1 : decode qx_size_c 1 = .ok (.getfield 31, 3) := by decide +kernel
theorem d_qx_size_4 : decode qx_size_c 4 = .ok (.ireturn, 1) := by decide +kernel
theorem d_qx_kind_0 : decode qx_kind_c 0 = .ok (.aload_n 0, 1) := by decide +kernel
theorem d_qx_kind_1 : decode qx_kind_c 1 = .ok (.iload_n 1, 1) := by decide +kernel
theorem d_qx_kind_2 : decode qx_kind_c 2 = .ok (.invokevirtual 67, 3) := by decide +kernel
theorem d_qx_kind_5 : decode qx_kind_c 5 = .ok (.istore_n 2, 1) := by decide +kernel
theorem d_qx_kind_6 : decode qx_kind_c 6 = .ok (.iload_n 2, 1) := by decide +kernel
theorem d_qx_kind_7 : decode qx_kind_c 7 = .ok (.ifCond .eq 7, 3) := by decide +kernel
theorem d_qx_kind_10 : decode qx_kind_c 10 = .ok (.iload_n 2, 1) := by decide +kernel
theorem d_qx_kind_11 : decode qx_kind_c 11 = .ok (.goto 11, 3) := by decide +kernel
theorem d_qx_kind_14 : decode qx_kind_c 14 = .ok (.aload_n 0, 1) := by decide +kernel
theorem d_qx_kind_15 : decode qx_kind_c 15 = .ok (.iload_n 1, 1) := by decide +kernel
theorem d_qx_kind_16 : decode qx_kind_c 16 = .ok (.invokevirtual 71, 3) := by decide +kernel
theorem d_qx_kind_19 : decode qx_kind_c 19 = .ok (.invokestatic 75, 3) := by decide +kernel
theorem d_qx_kind_22 : decode qx_kind_c 22 = .ok (.ireturn, 1) := by decide +kernel
theorem d_qw_contentOf_0 : decode qw_contentOf_c 0 = .ok (.lload_n 0, 1) := by decide +kernel
theorem d_qw_contentOf_1 : decode qw_contentOf_c 1 = .ok (.iconst 4, 1) := by decide +kernel
theorem d_qw_contentOf_2 : decode qw_contentOf_c 2 = .ok (.lshr, 1) := by decide +kernel
theorem d_qw_contentOf_3 : decode qw_contentOf_c 3 = .ok (.lreturn, 1) := by decide +kernel
theorem d_qx_value_0 : decode qx_value_c 0 = .ok (.aload_n 0, 1) := by decide +kernel
theorem d_qx_value_1 : decode qx_value_c 1 = .ok (.iload_n 1, 1) := by decide +kernel
theorem d_qx_value_2 : decode qx_value_c 2 = .ok (.invokevirtual 67, 3) := by decide +kernel
theorem d_qx_value_5 : decode qx_value_c 5 = .ok (.ifCond .eq 7, 3) := by decide +kernel
theorem d_qx_value_8 : decode qx_value_c 8 = .ok (.ldc2_w 124, 3) := by decide +kernel
theorem d_qx_value_11 : decode qx_value_c 11 = .ok (.lreturn, 1) := by decide +kernel
theorem d_qx_value_12 : decode qx_value_c 12 = .ok (.aload_n 0, 1) := by decide +kernel
theorem d_qx_value_13 : decode qx_value_c 13 = .ok (.iload_n 1, 1) := by decide +kernel
theorem d_qx_value_14 : decode qx_value_c 14 = .ok (.invokevirtual 71, 3) := by decide +kernel
theorem d_qx_value_17 : decode qx_value_c 17 = .ok (.lstore_n 2, 1) := by decide +kernel
theorem d_qx_value_18 : decode qx_value_c 18 = .ok (.lload_n 2, 1) := by decide +kernel
theorem d_qx_value_19 : decode qx_value_c 19 = .ok (.invokestatic 75, 3) := by decide +kernel
theorem d_qx_value_22 : decode qx_value_c 22 = .ok (.istore 4, 2) := by decide +kernel
theorem d_qx_value_24 : decode qx_value_c 24 = .ok (.iload 4, 2) := by decide +kernel
theorem d_qx_value_26 : decode qx_value_c 26 = .ok (.ifCond .eq 15, 3) := by decide +kernel
theorem d_qx_value_29 : decode qx_value_c 29 = .ok (.iload 4, 2) := by decide +kernel
theorem d_qx_value_31 : decode qx_value_c 31 = .ok (.iconst 1, 1) := by decide +kernel
theorem d_qx_value_32 : decode qx_value_c 32 = .ok (.if_icmp .eq 9, 3) := by decide +kernel
theorem d_qx_value_35 : decode qx_value_c 35 = .ok (.iload 4, 2) := by decide +kernel
theorem d_qx_value_37 : decode qx_value_c 37 = .ok (.iconst 2, 1) := by decide +kernel
theorem d_qx_value_38 : decode qx_value_c 38 = .ok (.if_icmp .ne 7, 3) := by decide +kernel
theorem d_qx_value_41 : decode qx_value_c 41 = .ok (.iconst 1, 1) := by decide +kernel
theorem d_qx_value_42 : decode qx_value_c 42 = .ok (.goto 4, 3) := by decide +kernel
theorem d_qx_value_45 : decode qx_value_c 45 = .ok (.iconst 0, 1) := by decide +kernel
theorem d_qx_value_46 : decode qx_value_c 46 = .ok (.istore 5, 2) := by decide +kernel
theorem d_qx_value_48 : decode qx_value_c 48 = .ok (.iload 5, 2) := by decide +kernel
theorem d_qx_value_50 : decode qx_value_c 50 = .ok (.ifCond .eq 10, 3) := by decide +kernel
theorem d_qx_value_53 : decode qx_value_c 53 = .ok (.lload_n 2, 1) := by decide +kernel
theorem d_qx_value_54 : decode qx_value_c 54 = .ok (.invokestatic 126, 3) := by decide +kernel
theorem d_qx_value_57 : decode qx_value_c 57 = .ok (.goto 6, 3) := by decide +kernel
theorem d_qx_value_60 : decode qx_value_c 60 = .ok (.ldc2_w 124, 3) := by decide +kernel
theorem d_qx_value_63 : decode qx_value_c 63 = .ok (.lreturn, 1) := by decide +kernel
theorem d_qx_areSame_0 : decode qx_areSame_c 0 = .ok (.iload_n 1, 1) := by decide +kernel
theorem d_qx_areSame_1 : decode qx_areSame_c 1 = .ok (.ifCond .lt 7, 3) := by decide +kernel
theorem d_qx_areSame_4 : decode qx_areSame_c 4 = .ok (.iload_n 2, 1) := by decide +kernel
theorem d_qx_areSame_5 : decode qx_areSame_c 5 = .ok (.ifCond .ge 5, 3) := by decide +kernel
theorem d_qx_areSame_8 : decode qx_areSame_c 8 = .ok (.iconst (-1), 1) := by decide +kernel
theorem d_qx_areSame_9 : decode qx_areSame_c 9 = .ok (.ireturn, 1) := by decide +kernel
theorem d_qx_areSame_10 : decode qx_areSame_c 10 = .ok (.iload_n 1, 1) := by decide +kernel
theorem d_qx_areSame_11 : decode qx_areSame_c 11 = .ok (.aload_n 0, 1) := by decide +kernel
theorem d_qx_areSame_12 : decode qx_areSame_c 12 = .ok (.getfield 31, 3) := by decide +kernel
theorem d_qx_areSame_15 : decode qx_areSame_c 15 = .ok (.if_icmp .ge 11, 3) := by decide +kernel
theorem d_qx_areSame_18 : decode qx_areSame_c 18 = .ok (.iload_n 2, 1) := by decide +kernel
theorem d_qx_areSame_19 : decode qx_areSame_c 19 = .ok (.aload_n 0, 1) := by decide +kernel
theorem d_qx_areSame_20 : decode qx_areSame_c 20 = .ok (.getfield 31, 3) := by decide +kernel
theorem d_qx_areSame_23 : decode qx_areSame_c 23 = .ok (.if_icmp .lt 6, 3) := by decide +kernel
theorem d_qx_areSame_26 : decode qx_areSame_c 26 = .ok (.bipush (-2), 2) := by decide +kernel
theorem d_qx_areSame_28 : decode qx_areSame_c 28 = .ok (.ireturn, 1) := by decide +kernel
theorem d_qx_areSame_29 : decode qx_areSame_c 29 = .ok (.aload_n 0, 1) := by decide +kernel
theorem d_qx_areSame_30 : decode qx_areSame_c 30 = .ok (.iload_n 1, 1) := by decide +kernel
theorem d_qx_areSame_31 : decode qx_areSame_c 31 = .ok (.invokevirtual 71, 3) := by decide +kernel
theorem d_qx_areSame_34 : decode qx_areSame_c 34 = .ok (.aload_n 0, 1) := by decide +kernel
theorem d_qx_areSame_35 : decode qx_areSame_c 35 = .ok (.iload_n 2, 1) := by decide +kernel
theorem d_qx_areSame_36 : decode qx_areSame_c 36 = .ok (.invokevirtual 71, 3) := by decide +kernel
theorem d_qx_areSame_39 : decode qx_areSame_c 39 = .ok (.lcmp, 1) := by decide +kernel
theorem d_qx_areSame_40 : decode qx_areSame_c 40 = .ok (.ifCond .ne 7, 3) := by decide +kernel
theorem d_qx_areSame_43 : decode qx_areSame_c 43 = .ok (.iconst 1, 1) := by decide +kernel
theorem d_qx_areSame_44 : decode qx_areSame_c 44 = .ok (.goto 4, 3) := by decide +kernel
theorem d_qx_areSame_47 : decode qx_areSame_c 47 = .ok (.iconst 0, 1) := by decide +kernel
theorem d_qx_areSame_48 : decode qx_areSame_c 48 = .ok (.ireturn, 1) := by decide +kernel
theorem d_qh_lengthOf_0 : decode qh_lengthOf_c 0 = .ok (.lload_n 1, 1) := by decide +kernel
theorem d_qh_lengthOf_1 : decode qh_lengthOf_c 1 = .ok (.lstore_n 3, 1) := by decide +kernel
theorem d_qh_lengthOf_2 : decode qh_lengthOf_c 2 = .ok (.iconst 0, 1) := by decide +kernel
theorem d_qh_lengthOf_3 : decode qh_lengthOf_c 3 = .ok (.istore 5, 2) := by decide +kernel
theorem d_qh_lengthOf_5 : decode qh_lengthOf_c 5 = .ok (.iload 5, 2) := by decide +kernel
theorem d_qh_lengthOf_7 : decode qh_lengthOf_c 7 = .ok (.sipush 4100, 3) := by decide +kernel
theorem d_qh_lengthOf_10 : decode qh_lengthOf_c 10 = .ok (.if_icmp .gt 36, 3) := by decide +kernel
theorem d_qh_lengthOf_13 : decode qh_lengthOf_c 13 = .ok (.lload_n 3, 1) := by decide +kernel
theorem d_qh_lengthOf_14 : decode qh_lengthOf_c 14 = .ok (.ldc2_w 47, 3) := by decide +kernel
theorem d_qh_lengthOf_17 : decode qh_lengthOf_c 17 = .ok (.lcmp, 1) := by decide +kernel
theorem d_qh_lengthOf_18 : decode qh_lengthOf_c 18 = .ok (.ifCond .ne 6, 3) := by decide +kernel
theorem d_qh_lengthOf_21 : decode qh_lengthOf_c 21 = .ok (.iload 5, 2) := by decide +kernel
theorem d_qh_lengthOf_23 : decode qh_lengthOf_c 23 = .ok (.ireturn, 1) := by decide +kernel
theorem d_qh_lengthOf_24 : decode qh_lengthOf_c 24 = .ok (.lload_n 3, 1) := by decide +kernel
theorem d_qh_lengthOf_25 : decode qh_lengthOf_c 25 = .ok (.invokestatic 64, 3) := by decide +kernel
theorem d_qh_lengthOf_28 : decode qh_lengthOf_c 28 = .ok (.iconst 4, 1) := by decide +kernel
theorem d_qh_lengthOf_29 : decode qh_lengthOf_c 29 = .ok (.if_icmp .eq 5, 3) := by decide +kernel
theorem d_qh_lengthOf_32 : decode qh_lengthOf_c 32 = .ok (.iconst (-1), 1) := by decide +kernel
theorem d_qh_lengthOf_33 : decode qh_lengthOf_c 33 = .ok (.ireturn, 1) := by decide +kernel
theorem d_qh_lengthOf_34 : decode qh_lengthOf_c 34 = .ok (.aload_n 0, 1) := by decide +kernel
theorem d_qh_lengthOf_35 : decode qh_lengthOf_c 35 = .ok (.lload_n 3, 1) := by decide +kernel
theorem d_qh_lengthOf_36 : decode qh_lengthOf_c 36 = .ok (.invokevirtual 67, 3) := by decide +kernel
theorem d_qh_lengthOf_39 : decode qh_lengthOf_c 39 = .ok (.lstore_n 3, 1) := by decide +kernel
theorem d_qh_lengthOf_40 : decode qh_lengthOf_c 40 = .ok (.iinc 5 1, 3) := by decide +kernel
theorem d_qh_lengthOf_43 : decode qh_lengthOf_c 43 = .ok (.goto (-38), 3) := by decide +kernel
theorem d_qh_lengthOf_46 : decode qh_lengthOf_c 46 = .ok (.iconst (-1), 1) := by decide +kernel
theorem d_qh_lengthOf_47 : decode qh_lengthOf_c 47 = .ok (.ireturn, 1) := by decide +kernel
theorem d_qx_length_0 : decode qx_length_c 0 = .ok (.aload_n 0, 1) := by decide +kernel
theorem d_qx_length_1 : decode qx_length_c 1 = .ok (.iload_n 1, 1) := by decide +kernel
theorem d_qx_length_2 : decode qx_length_c 2 = .ok (.invokevirtual 67, 3) := by decide +kernel
theorem d_qx_length_5 : decode qx_length_c 5 = .ok (.istore_n 2, 1) := by decide +kernel
theorem d_qx_length_6 : decode qx_length_c 6 = .ok (.iload_n 2, 1) := by decide +kernel
theorem d_qx_length_7 : decode qx_length_c 7 = .ok (.ifCond .eq 5, 3) := by decide +kernel
theorem d_qx_length_10 : decode qx_length_c 10 = .ok (.iload_n 2, 1) := by decide +kernel
theorem d_qx_length_11 : decode qx_length_c 11 = .ok (.ireturn, 1) := by decide +kernel
theorem d_qx_length_12 : decode qx_length_c 12 = .ok (.aload_n 0, 1) := by decide +kernel
theorem d_qx_length_13 : decode qx_length_c 13 = .ok (.getfield 12, 3) := by decide +kernel
theorem d_qx_length_16 : decode qx_length_c 16 = .ok (.aload_n 0, 1) := by decide +kernel
theorem d_qx_length_17 : decode qx_length_c 17 = .ok (.iload_n 1, 1) := by decide +kernel
theorem d_qx_length_18 : decode qx_length_c 18 = .ok (.invokevirtual 71, 3) := by decide +kernel
theorem d_qx_length_21 : decode qx_length_c 21 = .ok (.invokevirtual 129, 3) := by decide +kernel
theorem d_qx_length_24 : decode qx_length_c 24 = .ok (.istore_n 3, 1) := by decide +kernel
theorem d_qx_length_25 : decode qx_length_c 25 = .ok (.iload_n 3, 1) := by decide +kernel
theorem d_qx_length_26 : decode qx_length_c 26 = .ok (.iconst (-1), 1) := by decide +kernel
theorem d_qx_length_27 : decode qx_length_c 27 = .ok (.if_icmp .ne 8, 3) := by decide +kernel
theorem d_qx_length_30 : decode qx_length_c 30 = .ok (.bipush (-4), 2) := by decide +kernel
theorem d_qx_length_32 : decode qx_length_c 32 = .ok (.goto 4, 3) := by decide +kernel
theorem d_qx_length_35 : decode qx_length_c 35 = .ok (.iload_n 3, 1) := by decide +kernel
theorem d_qx_length_36 : decode qx_length_c 36 = .ok (.ireturn, 1) := by decide +kernel
theorem d_qh_countBindings_0 : decode qh_countBindings_c 0 = .ok (.iconst 0, 1) := by decide +kernel
theorem d_qh_countBindings_1 : decode qh_countBindings_c 1 = .ok (.istore_n 2, 1) := by decide +kernel
theorem d_qh_countBindings_2 : decode qh_countBindings_c 2 = .ok (.aload_n 0, 1) := by decide +kernel
theorem d_qh_countBindings_3 : decode qh_countBindings_c 3 = .ok (.iload_n 1, 1) := by decide +kernel
theorem d_qh_countBindings_4 : decode qh_countBindings_c 4 = .ok (.invokevirtual 39, 3) := by decide +kernel
theorem d_qh_countBindings_7 : decode qh_countBindings_c 7 = .ok (.istore_n 3, 1) := by decide +kernel
theorem d_qh_countBindings_8 : decode qh_countBindings_c 8 = .ok (.iload_n 3, 1) := by decide +kernel
theorem d_qh_countBindings_9 : decode qh_countBindings_c 9 = .ok (.iconst (-1), 1) := by decide +kernel
theorem d_qh_countBindings_10 : decode qh_countBindings_c 10 = .ok (.if_icmp .eq 25, 3) := by decide +kernel
theorem d_qh_countBindings_13 : decode qh_countBindings_c 13 = .ok (.iload_n 2, 1) := by decide +kernel
theorem d_qh_countBindings_14 : decode qh_countBindings_c 14 = .ok (.sipush 4100, 3) := by decide +kernel
theorem d_qh_countBindings_17 : decode qh_countBindings_c 17 = .ok (.if_icmp .ge 18, 3) := by decide +kernel
theorem d_qh_countBindings_20 : decode qh_countBindings_c 20 = .ok (.iinc 2 1, 3) := by decide +kernel
theorem d_qh_countBindings_23 : decode qh_countBindings_c 23 = .ok (.aload_n 0, 1) := by decide +kernel
theorem d_qh_countBindings_24 : decode qh_countBindings_c 24 = .ok (.iload_n 3, 1) := by decide +kernel
theorem d_qh_countBindings_25 : decode qh_countBindings_c 25 = .ok (.invokevirtual 61, 3) := by decide +kernel
theorem d_qh_countBindings_28 : decode qh_countBindings_c 28 = .ok (.invokestatic 75, 3) := by decide +kernel
theorem d_qh_countBindings_31 : decode qh_countBindings_c 31 = .ok (.istore_n 3, 1) := by decide +kernel
theorem d_qh_countBindings_32 : decode qh_countBindings_c 32 = .ok (.goto (-24), 3) := by decide +kernel
theorem d_qh_countBindings_35 : decode qh_countBindings_c 35 = .ok (.iload_n 2, 1) := by decide +kernel
theorem d_qh_countBindings_36 : decode qh_countBindings_c 36 = .ok (.ireturn, 1) := by decide +kernel
theorem d_qx_bindingCount_0 : decode qx_bindingCount_c 0 = .ok (.aload_n 0, 1) := by decide +kernel
theorem d_qx_bindingCount_1 : decode qx_bindingCount_c 1 = .ok (.iload_n 1, 1) := by decide +kernel
theorem d_qx_bindingCount_2 : decode qx_bindingCount_c 2 = .ok (.bipush 7, 2) := by decide +kernel
theorem d_qx_bindingCount_4 : decode qx_bindingCount_c 4 = .ok (.invokevirtual 94, 3) := by decide +kernel
theorem d_qx_bindingCount_7 : decode qx_bindingCount_c 7 = .ok (.istore_n 2, 1) := by decide +kernel
theorem d_qx_bindingCount_8 : decode qx_bindingCount_c 8 = .ok (.iload_n 2, 1) := by decide +kernel
theorem d_qx_bindingCount_9 : decode qx_bindingCount_c 9 = .ok (.ifCond .eq 7, 3) := by decide +kernel
theorem d_qx_bindingCount_12 : decode qx_bindingCount_c 12 = .ok (.iload_n 2, 1) := by decide +kernel
theorem d_qx_bindingCount_13 : decode qx_bindingCount_c 13 = .ok (.goto 18, 3) := by decide +kernel
theorem d_qx_bindingCount_16 : decode qx_bindingCount_c 16 = .ok (.aload_n 0, 1) := by decide +kernel
theorem d_qx_bindingCount_17 : decode qx_bindingCount_c 17 = .ok (.getfield 12, 3) := by decide +kernel
theorem d_qx_bindingCount_20 : decode qx_bindingCount_c 20 = .ok (.aload_n 0, 1) := by decide +kernel
theorem d_qx_bindingCount_21 : decode qx_bindingCount_c 21 = .ok (.iload_n 1, 1) := by decide +kernel
theorem d_qx_bindingCount_22 : decode qx_bindingCount_c 22 = .ok (.invokevirtual 71, 3) := by decide +kernel
theorem d_qx_bindingCount_25 : decode qx_bindingCount_c 25 = .ok (.invokestatic 88, 3) := by decide +kernel
theorem d_qx_bindingCount_28 : decode qx_bindingCount_c 28 = .ok (.invokevirtual 132, 3) := by decide +kernel
theorem d_qx_bindingCount_31 : decode qx_bindingCount_c 31 = .ok (.ireturn, 1) := by decide +kernel
theorem d_qn_evaluateInTail_0 : decode qn_evaluateInTail_c 0 = .ok (.aload_n 0, 1) := by decide +kernel
theorem d_qn_evaluateInTail_1 : decode qn_evaluateInTail_c 1 = .ok (.lload_n 1, 1) := by decide +kernel
theorem d_qn_evaluateInTail_2 : decode qn_evaluateInTail_c 2 = .ok (.putfield 52, 3) := by decide +kernel
theorem d_qn_evaluateInTail_5 : decode qn_evaluateInTail_c 5 = .ok (.aload_n 0, 1) := by decide +kernel
theorem d_qn_evaluateInTail_6 : decode qn_evaluateInTail_c 6 = .ok (.iconst 0, 1) := by decide +kernel
theorem d_qn_evaluateInTail_7 : decode qn_evaluateInTail_c 7 = .ok (.putfield 45, 3) := by decide +kernel
theorem d_qn_evaluateInTail_10 : decode qn_evaluateInTail_c 10 = .ok (.return_, 1) := by decide +kernel
theorem d_qn_fail_0 : decode qn_fail_c 0 = .ok (.aload_n 0, 1) := by decide +kernel
theorem d_qn_fail_1 : decode qn_fail_c 1 = .ok (.iload_n 1, 1) := by decide +kernel
theorem d_qn_fail_2 : decode qn_fail_c 2 = .ok (.putfield 70, 3) := by decide +kernel
theorem d_qn_fail_5 : decode qn_fail_c 5 = .ok (.aload_n 0, 1) := by decide +kernel
theorem d_qn_fail_6 : decode qn_fail_c 6 = .ok (.iconst 4, 1) := by decide +kernel
theorem d_qn_fail_7 : decode qn_fail_c 7 = .ok (.putfield 45, 3) := by decide +kernel
theorem d_qn_fail_10 : decode qn_fail_c 10 = .ok (.return_, 1) := by decide +kernel
theorem d_qf_put_0 : decode qf_put_c 0 = .ok (.aload_n 0, 1) := by decide +kernel
theorem d_qf_put_1 : decode qf_put_c 1 = .ok (.getfield 26, 3) := by decide +kernel
theorem d_qf_put_4 : decode qf_put_c 4 = .ok (.ifCond .lt 13, 3) := by decide +kernel
theorem d_qf_put_7 : decode qf_put_c 7 = .ok (.aload_n 0, 1) := by decide +kernel
theorem d_qf_put_8 : decode qf_put_c 8 = .ok (.getfield 26, 3) := by decide +kernel
theorem d_qf_put_11 : decode qf_put_c 11 = .ok (.sipush 300, 3) := by decide +kernel
theorem d_qf_put_14 : decode qf_put_c 14 = .ok (.if_icmp .lt 5, 3) := by decide +kernel
theorem d_qf_put_17 : decode qf_put_c 17 = .ok (.iconst 0, 1) := by decide +kernel
theorem d_qf_put_18 : decode qf_put_c 18 = .ok (.ireturn, 1) := by decide +kernel
theorem d_qf_put_19 : decode qf_put_c 19 = .ok (.aload_n 0, 1) := by decide +kernel
theorem d_qf_put_20 : decode qf_put_c 20 = .ok (.getfield 9, 3) := by decide +kernel
theorem d_qf_put_23 : decode qf_put_c 23 = .ok (.aload_n 0, 1) := by decide +kernel
theorem d_qf_put_24 : decode qf_put_c 24 = .ok (.getfield 26, 3) := by decide +kernel
theorem d_qf_put_27 : decode qf_put_c 27 = .ok (.iload_n 1, 1) := by decide +kernel
theorem d_qf_put_28 : decode qf_put_c 28 = .ok (.iastore, 1) := by decide +kernel
theorem d_qf_put_29 : decode qf_put_c 29 = .ok (.aload_n 0, 1) := by decide +kernel
theorem d_qf_put_30 : decode qf_put_c 30 = .ok (.getfield 13, 3) := by decide +kernel
theorem d_qf_put_33 : decode qf_put_c 33 = .ok (.aload_n 0, 1) := by decide +kernel
theorem d_qf_put_34 : decode qf_put_c 34 = .ok (.getfield 26, 3) := by decide +kernel
theorem d_qf_put_37 : decode qf_put_c 37 = .ok (.iload_n 2, 1) := by decide +kernel
theorem d_qf_put_38 : decode qf_put_c 38 = .ok (.iastore, 1) := by decide +kernel
theorem d_qf_put_39 : decode qf_put_c 39 = .ok (.aload_n 0, 1) := by decide +kernel
theorem d_qf_put_40 : decode qf_put_c 40 = .ok (.getfield 16, 3) := by decide +kernel
theorem d_qf_put_43 : decode qf_put_c 43 = .ok (.aload_n 0, 1) := by decide +kernel
theorem d_qf_put_44 : decode qf_put_c 44 = .ok (.getfield 26, 3) := by decide +kernel
theorem d_qf_put_47 : decode qf_put_c 47 = .ok (.lload_n 3, 1) := by decide +kernel
theorem d_qf_put_48 : decode qf_put_c 48 = .ok (.lastore, 1) := by decide +kernel
theorem d_qf_put_49 : decode qf_put_c 49 = .ok (.aload_n 0, 1) := by decide +kernel
theorem d_qf_put_50 : decode qf_put_c 50 = .ok (.getfield 20, 3) := by decide +kernel
theorem d_qf_put_53 : decode qf_put_c 53 = .ok (.aload_n 0, 1) := by decide +kernel
theorem d_qf_put_54 : decode qf_put_c 54 = .ok (.getfield 26, 3) := by decide +kernel
theorem d_qf_put_57 : decode qf_put_c 57 = .ok (.lload 5, 2) := by decide +kernel
theorem d_qf_put_59 : decode qf_put_c 59 = .ok (.lastore, 1) := by decide +kernel
theorem d_qf_put_60 : decode qf_put_c 60 = .ok (.aload_n 0, 1) := by decide +kernel
theorem d_qf_put_61 : decode qf_put_c 61 = .ok (.getfield 23, 3) := by decide +kernel
theorem d_qf_put_64 : decode qf_put_c 64 = .ok (.aload_n 0, 1) := by decide +kernel
theorem d_qf_put_65 : decode qf_put_c 65 = .ok (.getfield 26, 3) := by decide +kernel
theorem d_qf_put_68 : decode qf_put_c 68 = .ok (.iload 7, 2) := by decide +kernel
theorem d_qf_put_70 : decode qf_put_c 70 = .ok (.iastore, 1) := by decide +kernel
theorem d_qf_put_71 : decode qf_put_c 71 = .ok (.aload_n 0, 1) := by decide +kernel
theorem d_qf_put_72 : decode qf_put_c 72 = .ok (.dup, 1) := by decide +kernel
theorem d_qf_put_73 : decode qf_put_c 73 = .ok (.getfield 26, 3) := by decide +kernel
theorem d_qf_put_76 : decode qf_put_c 76 = .ok (.iconst 1, 1) := by decide +kernel
theorem d_qf_put_77 : decode qf_put_c 77 = .ok (.iadd, 1) := by decide +kernel
theorem d_qf_put_78 : decode qf_put_c 78 = .ok (.putfield 26, 3) := by decide +kernel
theorem d_qf_put_81 : decode qf_put_c 81 = .ok (.aload_n 0, 1) := by decide +kernel
theorem d_qf_put_82 : decode qf_put_c 82 = .ok (.getfield 26, 3) := by decide +kernel
theorem d_qf_put_85 : decode qf_put_c 85 = .ok (.aload_n 0, 1) := by decide +kernel
theorem d_qf_put_86 : decode qf_put_c 86 = .ok (.getfield 30, 3) := by decide +kernel
theorem d_qf_put_89 : decode qf_put_c 89 = .ok (.if_icmp .le 11, 3) := by decide +kernel
theorem d_qf_put_92 : decode qf_put_c 92 = .ok (.aload_n 0, 1) := by decide +kernel
theorem d_qf_put_93 : decode qf_put_c 93 = .ok (.aload_n 0, 1) := by decide +kernel
theorem d_qf_put_94 : decode qf_put_c 94 = .ok (.getfield 26, 3) := by decide +kernel
theorem d_qf_put_97 : decode qf_put_c 97 = .ok (.putfield 30, 3) := by decide +kernel
theorem d_qf_put_100 : decode qf_put_c 100 = .ok (.iconst 1, 1) := by decide +kernel
theorem d_qf_put_101 : decode qf_put_c 101 = .ok (.ireturn, 1) := by decide +kernel
theorem d_qn_evaluateWithFrame_0 : decode qn_evaluateWithFrame_c 0 = .ok (.aload_n 0, 1) := by decide +kernel
theorem d_qn_evaluateWithFrame_1 : decode qn_evaluateWithFrame_c 1 = .ok (.getfield 27, 3) := by decide +kernel
theorem d_qn_evaluateWithFrame_4 : decode qn_evaluateWithFrame_c 4 = .ok (.iload_n 3, 1) := by decide +kernel
theorem d_qn_evaluateWithFrame_5 : decode qn_evaluateWithFrame_c 5 = .ok (.aload_n 0, 1) := by decide +kernel
theorem d_qn_evaluateWithFrame_6 : decode qn_evaluateWithFrame_c 6 = .ok (.getfield 61, 3) := by decide +kernel
theorem d_qn_evaluateWithFrame_9 : decode qn_evaluateWithFrame_c 9 = .ok (.lload 4, 2) := by decide +kernel
theorem d_qn_evaluateWithFrame_11 : decode qn_evaluateWithFrame_c 11 = .ok (.lload 6, 2) := by decide +kernel
theorem d_qn_evaluateWithFrame_13 : decode qn_evaluateWithFrame_c 13 = .ok (.iload 8, 2) := by decide +kernel
theorem d_qn_evaluateWithFrame_15 : decode qn_evaluateWithFrame_c 15 = .ok (.invokevirtual 113, 3) := by decide +kernel
theorem d_qn_evaluateWithFrame_18 : decode qn_evaluateWithFrame_c 18 = .ok (.ifCond .eq 11, 3) := by decide +kernel
theorem d_qn_evaluateWithFrame_21 : decode qn_evaluateWithFrame_c 21 = .ok (.aload_n 0, 1) := by decide +kernel
theorem d_qn_evaluateWithFrame_22 : decode qn_evaluateWithFrame_c 22 = .ok (.lload_n 1, 1) := by decide +kernel
theorem d_qn_evaluateWithFrame_23 : decode qn_evaluateWithFrame_c 23 = .ok (.invokevirtual 77, 3) := by decide +kernel
theorem d_qn_evaluateWithFrame_26 : decode qn_evaluateWithFrame_c 26 = .ok (.goto 9, 3) := by decide +kernel
theorem d_qn_evaluateWithFrame_29 : decode qn_evaluateWithFrame_c 29 = .ok (.aload_n 0, 1) := by decide +kernel
theorem d_qn_evaluateWithFrame_30 : decode qn_evaluateWithFrame_c 30 = .ok (.bipush (-11), 2) := by decide +kernel
theorem d_qn_evaluateWithFrame_32 : decode qn_evaluateWithFrame_c 32 = .ok (.invokevirtual 99, 3) := by decide +kernel
theorem d_qn_evaluateWithFrame_35 : decode qn_evaluateWithFrame_c 35 = .ok (.return_, 1) := by decide +kernel
theorem d_qn_giveBack_0 : decode qn_giveBack_c 0 = .ok (.aload_n 0, 1) := by decide +kernel
theorem d_qn_giveBack_1 : decode qn_giveBack_c 1 = .ok (.lload_n 1, 1) := by decide +kernel
theorem d_qn_giveBack_2 : decode qn_giveBack_c 2 = .ok (.putfield 52, 3) := by decide +kernel
theorem d_qn_giveBack_5 : decode qn_giveBack_c 5 = .ok (.aload_n 0, 1) := by decide +kernel
theorem d_qn_giveBack_6 : decode qn_giveBack_c 6 = .ok (.iconst 3, 1) := by decide +kernel
theorem d_qn_giveBack_7 : decode qn_giveBack_c 7 = .ok (.putfield 45, 3) := by decide +kernel
theorem d_qn_giveBack_10 : decode qn_giveBack_c 10 = .ok (.return_, 1) := by decide +kernel
theorem d_qn_lookUp_0 : decode qn_lookUp_c 0 = .ok (.aload_n 0, 1) := by decide +kernel
theorem d_qn_lookUp_1 : decode qn_lookUp_c 1 = .ok (.getfield 9, 3) := by decide +kernel
theorem d_qn_lookUp_4 : decode qn_lookUp_c 4 = .ok (.aload_n 0, 1) := by decide +kernel
theorem d_qn_lookUp_5 : decode qn_lookUp_c 5 = .ok (.getfield 61, 3) := by decide +kernel
theorem d_qn_lookUp_8 : decode qn_lookUp_c 8 = .ok (.iload_n 1, 1) := by decide +kernel
theorem d_qn_lookUp_9 : decode qn_lookUp_c 9 = .ok (.invokevirtual 134, 3) := by decide +kernel
theorem d_qn_lookUp_12 : decode qn_lookUp_c 12 = .ok (.istore_n 2, 1) := by decide +kernel
theorem d_qn_lookUp_13 : decode qn_lookUp_c 13 = .ok (.iload_n 2, 1) := by decide +kernel
theorem d_qn_lookUp_14 : decode qn_lookUp_c 14 = .ok (.iconst (-1), 1) := by decide +kernel
theorem d_qn_lookUp_15 : decode qn_lookUp_c 15 = .ok (.if_icmp .ne 12, 3) := by decide +kernel
theorem d_qn_lookUp_18 : decode qn_lookUp_c 18 = .ok (.aload_n 0, 1) := by decide +kernel
theorem d_qn_lookUp_19 : decode qn_lookUp_c 19 = .ok (.bipush (-6), 2) := by decide +kernel
theorem d_qn_lookUp_21 : decode qn_lookUp_c 21 = .ok (.invokevirtual 99, 3) := by decide +kernel
theorem d_qn_lookUp_24 : decode qn_lookUp_c 24 = .ok (.goto 15, 3) := by decide +kernel
theorem d_qn_lookUp_27 : decode qn_lookUp_c 27 = .ok (.aload_n 0, 1) := by decide +kernel
theorem d_qn_lookUp_28 : decode qn_lookUp_c 28 = .ok (.aload_n 0, 1) := by decide +kernel
theorem d_qn_lookUp_29 : decode qn_lookUp_c 29 = .ok (.getfield 9, 3) := by decide +kernel
theorem d_qn_lookUp_32 : decode qn_lookUp_c 32 = .ok (.iload_n 2, 1) := by decide +kernel
theorem d_qn_lookUp_33 : decode qn_lookUp_c 33 = .ok (.invokevirtual 138, 3) := by decide +kernel
theorem d_qn_lookUp_36 : decode qn_lookUp_c 36 = .ok (.invokevirtual 106, 3) := by decide +kernel
theorem d_qn_lookUp_39 : decode qn_lookUp_c 39 = .ok (.return_, 1) := by decide +kernel
theorem d_qn_evaluateCurrent_0 : decode qn_evaluateCurrent_c 0 = .ok (.aload_n 0, 1) := by decide +kernel
theorem d_qn_evaluateCurrent_1 : decode qn_evaluateCurrent_c 1 = .ok (.getfield 64, 3) := by decide +kernel
theorem d_qn_evaluateCurrent_4 : decode qn_evaluateCurrent_c 4 = .ok (.aload_n 0, 1) := by decide +kernel
theorem d_qn_evaluateCurrent_5 : decode qn_evaluateCurrent_c 5 = .ok (.getfield 67, 3) := by decide +kernel
theorem d_qn_evaluateCurrent_8 : decode qn_evaluateCurrent_c 8 = .ok (.if_icmp .lt 10, 3) := by decide +kernel
theorem d_qn_evaluateCurrent_11 : decode qn_evaluateCurrent_c 11 = .ok (.aload_n 0, 1) := by decide +kernel
theorem d_qn_evaluateCurrent_12 : decode qn_evaluateCurrent_c 12 = .ok (.bipush (-10), 2) := by decide +kernel
theorem d_qn_evaluateCurrent_14 : decode qn_evaluateCurrent_c 14 = .ok (.invokevirtual 99, 3) := by decide +kernel
theorem d_qn_evaluateCurrent_17 : decode qn_evaluateCurrent_c 17 = .ok (.return_, 1) := by decide +kernel
theorem d_qn_evaluateCurrent_18 : decode qn_evaluateCurrent_c 18 = .ok (.aload_n 0, 1) := by decide +kernel
theorem d_qn_evaluateCurrent_19 : decode qn_evaluateCurrent_c 19 = .ok (.dup, 1) := by decide +kernel
theorem d_qn_evaluateCurrent_20 : decode qn_evaluateCurrent_c 20 = .ok (.getfield 64, 3) := by decide +kernel
theorem d_qn_evaluateCurrent_23 : decode qn_evaluateCurrent_c 23 = .ok (.iconst 1, 1) := by decide +kernel
theorem d_qn_evaluateCurrent_24 : decode qn_evaluateCurrent_c 24 = .ok (.iadd, 1) := by decide +kernel
theorem d_qn_evaluateCurrent_25 : decode qn_evaluateCurrent_c 25 = .ok (.putfield 64, 3) := by decide +kernel
theorem d_qn_evaluateCurrent_28 : decode qn_evaluateCurrent_c 28 = .ok (.aload_n 0, 1) := by decide +kernel
theorem d_qn_evaluateCurrent_29 : decode qn_evaluateCurrent_c 29 = .ok (.getfield 52, 3) := by decide +kernel
theorem d_qn_evaluateCurrent_32 : decode qn_evaluateCurrent_c 32 = .ok (.invokestatic 117, 3) := by decide +kernel
theorem d_qn_evaluateCurrent_35 : decode qn_evaluateCurrent_c 35 = .ok (.istore_n 1, 1) := by decide +kernel
theorem d_qn_evaluateCurrent_36 : decode qn_evaluateCurrent_c 36 = .ok (.iload_n 1, 1) := by decide +kernel
theorem d_qn_evaluateCurrent_37 : decode qn_evaluateCurrent_c 37 = .ok (.iconst 4, 1) := by decide +kernel
theorem d_qn_evaluateCurrent_38 : decode qn_evaluateCurrent_c 38 = .ok (.if_icmp .ne 37, 3) := by decide +kernel
theorem d_qn_evaluateCurrent_41 : decode qn_evaluateCurrent_c 41 = .ok (.aload_n 0, 1) := by decide +kernel
theorem d_qn_evaluateCurrent_42 : decode qn_evaluateCurrent_c 42 = .ok (.aload_n 0, 1) := by decide +kernel
theorem d_qn_evaluateCurrent_43 : decode qn_evaluateCurrent_c 43 = .ok (.getfield 9, 3) := by decide +kernel
theorem d_qn_evaluateCurrent_46 : decode qn_evaluateCurrent_c 46 = .ok (.aload_n 0, 1) := by decide +kernel
theorem d_qn_evaluateCurrent_47 : decode qn_evaluateCurrent_c 47 = .ok (.getfield 52, 3) := by decide +kernel
theorem d_qn_evaluateCurrent_50 : decode qn_evaluateCurrent_c 50 = .ok (.invokevirtual 120, 3) := by decide +kernel
theorem d_qn_evaluateCurrent_53 : decode qn_evaluateCurrent_c 53 = .ok (.iconst 0, 1) := by decide +kernel
theorem d_qn_evaluateCurrent_54 : decode qn_evaluateCurrent_c 54 = .ok (.aload_n 0, 1) := by decide +kernel
theorem d_qn_evaluateCurrent_55 : decode qn_evaluateCurrent_c 55 = .ok (.getfield 9, 3) := by decide +kernel
theorem d_qn_evaluateCurrent_58 : decode qn_evaluateCurrent_c 58 = .ok (.aload_n 0, 1) := by decide +kernel
theorem d_qn_evaluateCurrent_59 : decode qn_evaluateCurrent_c 59 = .ok (.getfield 52, 3) := by decide +kernel
theorem d_qn_evaluateCurrent_62 : decode qn_evaluateCurrent_c 62 = .ok (.invokevirtual 124, 3) := by decide +kernel
theorem d_qn_evaluateCurrent_65 : decode qn_evaluateCurrent_c 65 = .ok (.ldc2_w 50, 3) := by decide +kernel
theorem d_qn_evaluateCurrent_68 : decode qn_evaluateCurrent_c 68 = .ok (.iconst 0, 1) := by decide +kernel
theorem d_qn_evaluateCurrent_69 : decode qn_evaluateCurrent_c 69 = .ok (.invokevirtual 127, 3) := by decide +kernel
theorem d_qn_evaluateCurrent_72 : decode qn_evaluateCurrent_c 72 = .ok (.goto 30, 3) := by decide +kernel
theorem d_qn_evaluateCurrent_75 : decode qn_evaluateCurrent_c 75 = .ok (.iload_n 1, 1) := by decide +kernel
theorem d_qn_evaluateCurrent_76 : decode qn_evaluateCurrent_c 76 = .ok (.iconst 2, 1) := by decide +kernel
theorem d_qn_evaluateCurrent_77 : decode qn_evaluateCurrent_c 77 = .ok (.if_icmp .ne 17, 3) := by decide +kernel
theorem d_qn_evaluateCurrent_80 : decode qn_evaluateCurrent_c 80 = .ok (.aload_n 0, 1) := by decide +kernel
theorem d_qn_evaluateCurrent_81 : decode qn_evaluateCurrent_c 81 = .ok (.aload_n 0, 1) := by decide +kernel
theorem d_qn_evaluateCurrent_82 : decode qn_evaluateCurrent_c 82 = .ok (.getfield 52, 3) := by decide +kernel
theorem d_qn_evaluateCurrent_85 : decode qn_evaluateCurrent_c 85 = .ok (.invokestatic 88, 3) := by decide +kernel
theorem d_qn_evaluateCurrent_88 : decode qn_evaluateCurrent_c 88 = .ok (.invokevirtual 131, 3) := by decide +kernel
theorem d_qn_evaluateCurrent_91 : decode qn_evaluateCurrent_c 91 = .ok (.goto 11, 3) := by decide +kernel
theorem d_qn_evaluateCurrent_94 : decode qn_evaluateCurrent_c 94 = .ok (.aload_n 0, 1) := by decide +kernel
theorem d_qn_evaluateCurrent_95 : decode qn_evaluateCurrent_c 95 = .ok (.aload_n 0, 1) := by decide +kernel
theorem d_qn_evaluateCurrent_96 : decode qn_evaluateCurrent_c 96 = .ok (.getfield 52, 3) := by decide +kernel
theorem d_qn_evaluateCurrent_99 : decode qn_evaluateCurrent_c 99 = .ok (.invokevirtual 106, 3) := by decide +kernel
theorem d_qn_evaluateCurrent_102 : decode qn_evaluateCurrent_c 102 = .ok (.return_, 1) := by decide +kernel
theorem d_qn_latestArgument_0 : decode qn_latestArgument_c 0 = .ok (.aload_n 0, 1) := by decide +kernel
theorem d_qn_latestArgument_1 : decode qn_latestArgument_c 1 = .ok (.getfield 41, 3) := by decide +kernel
theorem d_qn_latestArgument_4 : decode qn_latestArgument_c 4 = .ok (.iconst 1, 1) := by decide +kernel
theorem d_qn_latestArgument_5 : decode qn_latestArgument_c 5 = .ok (.isub, 1) := by decide +kernel
theorem d_qn_latestArgument_6 : decode qn_latestArgument_c 6 = .ok (.istore_n 1, 1) := by decide +kernel
theorem d_qn_latestArgument_7 : decode qn_latestArgument_c 7 = .ok (.iload_n 1, 1) := by decide +kernel
theorem d_qn_latestArgument_8 : decode qn_latestArgument_c 8 = .ok (.ifCond .lt 19, 3) := by decide +kernel
theorem d_qn_latestArgument_11 : decode qn_latestArgument_c 11 = .ok (.iload_n 1, 1) := by decide +kernel
theorem d_qn_latestArgument_12 : decode qn_latestArgument_c 12 = .ok (.sipush 1500, 3) := by decide +kernel
theorem d_qn_latestArgument_15 : decode qn_latestArgument_c 15 = .ok (.if_icmp .ge 12, 3) := by decide +kernel
theorem d_qn_latestArgument_18 : decode qn_latestArgument_c 18 = .ok (.aload_n 0, 1) := by decide +kernel
theorem d_qn_latestArgument_19 : decode qn_latestArgument_c 19 = .ok (.getfield 31, 3) := by decide +kernel
theorem d_qn_latestArgument_22 : decode qn_latestArgument_c 22 = .ok (.iload_n 1, 1) := by decide +kernel
theorem d_qn_latestArgument_23 : decode qn_latestArgument_c 23 = .ok (.laload, 1) := by decide +kernel
theorem d_qn_latestArgument_24 : decode qn_latestArgument_c 24 = .ok (.goto 6, 3) := by decide +kernel
theorem d_qn_latestArgument_27 : decode qn_latestArgument_c 27 = .ok (.ldc2_w 50, 3) := by decide +kernel
theorem d_qn_latestArgument_30 : decode qn_latestArgument_c 30 = .ok (.lreturn, 1) := by decide +kernel
theorem d_qn_combine_0 : decode qn_combine_c 0 = .ok (.aload_n 0, 1) := by decide +kernel
theorem d_qn_combine_1 : decode qn_combine_c 1 = .ok (.lload_n 1, 1) := by decide +kernel
theorem d_qn_combine_2 : decode qn_combine_c 2 = .ok (.putfield 52, 3) := by decide +kernel
theorem d_qn_combine_5 : decode qn_combine_c 5 = .ok (.aload_n 0, 1) := by decide +kernel
theorem d_qn_combine_6 : decode qn_combine_c 6 = .ok (.lload_n 3, 1) := by decide +kernel
theorem d_qn_combine_7 : decode qn_combine_c 7 = .ok (.putfield 56, 3) := by decide +kernel
theorem d_qn_combine_10 : decode qn_combine_c 10 = .ok (.aload_n 0, 1) := by decide +kernel
theorem d_qn_combine_11 : decode qn_combine_c 11 = .ok (.iconst 1, 1) := by decide +kernel
theorem d_qn_combine_12 : decode qn_combine_c 12 = .ok (.putfield 45, 3) := by decide +kernel
theorem d_qn_combine_15 : decode qn_combine_c 15 = .ok (.return_, 1) := by decide +kernel
theorem d_qn_combineWithArguments_0 : decode qn_combineWithArguments_c 0 = .ok (.ldc2_w 50, 3) := by decide +kernel
theorem d_qn_combineWithArguments_3 : decode qn_combineWithArguments_c 3 = .ok (.lstore 4, 2) := by decide +kernel
theorem d_qn_combineWithArguments_5 : decode qn_combineWithArguments_c 5 = .ok (.iconst 0, 1) := by decide +kernel
theorem d_qn_combineWithArguments_6 : decode qn_combineWithArguments_c 6 = .ok (.istore 6, 2) := by decide +kernel
theorem d_qn_combineWithArguments_8 : decode qn_combineWithArguments_c 8 = .ok (.iload 6, 2) := by decide +kernel
theorem d_qn_combineWithArguments_10 : decode qn_combineWithArguments_c 10 = .ok (.iload_n 3, 1) := by decide +kernel
theorem d_qn_combineWithArguments_11 : decode qn_combineWithArguments_c 11 = .ok (.if_icmp .ge 56, 3) := by decide +kernel
theorem d_qn_combineWithArguments_14 : decode qn_combineWithArguments_c 14 = .ok (.aload_n 0, 1) := by decide +kernel
theorem d_qn_combineWithArguments_15 : decode qn_combineWithArguments_c 15 = .ok (.getfield 9, 3) := by decide +kernel
theorem d_qn_combineWithArguments_18 : decode qn_combineWithArguments_c 18 = .ok (.aload_n 0, 1) := by decide +kernel
theorem d_qn_combineWithArguments_19 : decode qn_combineWithArguments_c 19 = .ok (.invokevirtual 208, 3) := by decide +kernel
theorem d_qn_combineWithArguments_22 : decode qn_combineWithArguments_c 22 = .ok (.lload 4, 2) := by decide +kernel
theorem d_qn_combineWithArguments_24 : decode qn_combineWithArguments_c 24 = .ok (.invokevirtual 211, 3) := by decide +kernel
theorem d_qn_combineWithArguments_27 : decode qn_combineWithArguments_c 27 = .ok (.istore 7, 2) := by decide +kernel
theorem d_qn_combineWithArguments_29 : decode qn_combineWithArguments_c 29 = .ok (.iload 7, 2) := by decide +kernel
theorem d_qn_combineWithArguments_31 : decode qn_combineWithArguments_c 31 = .ok (.iconst (-1), 1) := by decide +kernel
theorem d_qn_combineWithArguments_32 : decode qn_combineWithArguments_c 32 = .ok (.if_icmp .ne 10, 3) := by decide +kernel
theorem d_qn_combineWithArguments_35 : decode qn_combineWithArguments_c 35 = .ok (.aload_n 0, 1) := by decide +kernel
theorem d_qn_combineWithArguments_36 : decode qn_combineWithArguments_c 36 = .ok (.bipush (-5), 2) := by decide +kernel
theorem d_qn_combineWithArguments_38 : decode qn_combineWithArguments_c 38 = .ok (.invokevirtual 99, 3) := by decide +kernel
theorem d_qn_combineWithArguments_41 : decode qn_combineWithArguments_c 41 = .ok (.return_, 1) := by decide +kernel
theorem d_qn_combineWithArguments_42 : decode qn_combineWithArguments_c 42 = .ok (.aload_n 0, 1) := by decide +kernel
theorem d_qn_combineWithArguments_43 : decode qn_combineWithArguments_c 43 = .ok (.dup, 1) := by decide +kernel
theorem d_qn_combineWithArguments_44 : decode qn_combineWithArguments_c 44 = .ok (.getfield 41, 3) := by decide +kernel
theorem d_qn_combineWithArguments_47 : decode qn_combineWithArguments_c 47 = .ok (.iconst 1, 1) := by decide +kernel
theorem d_qn_combineWithArguments_48 : decode qn_combineWithArguments_c 48 = .ok (.isub, 1) := by decide +kernel
theorem d_qn_combineWithArguments_49 : decode qn_combineWithArguments_c 49 = .ok (.putfield 41, 3) := by decide +kernel
theorem d_qn_combineWithArguments_52 : decode qn_combineWithArguments_c 52 = .ok (.iconst 4, 1) := by decide +kernel
theorem d_qn_combineWithArguments_53 : decode qn_combineWithArguments_c 53 = .ok (.iload 7, 2) := by decide +kernel
theorem d_qn_combineWithArguments_55 : decode qn_combineWithArguments_c 55 = .ok (.i2l, 1) := by decide +kernel
theorem d_qn_combineWithArguments_56 : decode qn_combineWithArguments_c 56 = .ok (.invokestatic 102, 3) := by decide +kernel
theorem d_qn_combineWithArguments_59 : decode qn_combineWithArguments_c 59 = .ok (.lstore 4, 2) := by decide +kernel
theorem d_qn_combineWithArguments_61 : decode qn_combineWithArguments_c 61 = .ok (.iinc 6 1, 3) := by decide +kernel
theorem d_qn_combineWithArguments_64 : decode qn_combineWithArguments_c 64 = .ok (.goto (-56), 3) := by decide +kernel
theorem d_qn_combineWithArguments_67 : decode qn_combineWithArguments_c 67 = .ok (.aload_n 0, 1) := by decide +kernel
theorem d_qn_combineWithArguments_68 : decode qn_combineWithArguments_c 68 = .ok (.lload_n 1, 1) := by decide +kernel
theorem d_qn_combineWithArguments_69 : decode qn_combineWithArguments_c 69 = .ok (.lload 4, 2) := by decide +kernel
theorem d_qn_combineWithArguments_71 : decode qn_combineWithArguments_c 71 = .ok (.invokevirtual 168, 3) := by decide +kernel
theorem d_qn_combineWithArguments_74 : decode qn_combineWithArguments_c 74 = .ok (.return_, 1) := by decide +kernel
theorem d_qn_evaluateArguments_0 : decode qn_evaluateArguments_c 0 = .ok (.lload_n 1, 1) := by decide +kernel
theorem d_qn_evaluateArguments_1 : decode qn_evaluateArguments_c 1 = .ok (.ldc2_w 50, 3) := by decide +kernel
theorem d_qn_evaluateArguments_4 : decode qn_evaluateArguments_c 4 = .ok (.lcmp, 1) := by decide +kernel
theorem d_qn_evaluateArguments_5 : decode qn_evaluateArguments_c 5 = .ok (.ifCond .ne 13, 3) := by decide +kernel
theorem d_qn_evaluateArguments_8 : decode qn_evaluateArguments_c 8 = .ok (.aload_n 0, 1) := by decide +kernel
theorem d_qn_evaluateArguments_9 : decode qn_evaluateArguments_c 9 = .ok (.lload_n 3, 1) := by decide +kernel
theorem d_qn_evaluateArguments_10 : decode qn_evaluateArguments_c 10 = .ok (.iload 5, 2) := by decide +kernel
theorem d_qn_evaluateArguments_12 : decode qn_evaluateArguments_c 12 = .ok (.invokevirtual 204, 3) := by decide +kernel
theorem d_qn_evaluateArguments_15 : decode qn_evaluateArguments_c 15 = .ok (.goto 27, 3) := by decide +kernel
theorem d_qn_evaluateArguments_18 : decode qn_evaluateArguments_c 18 = .ok (.aload_n 0, 1) := by decide +kernel
theorem d_qn_evaluateArguments_19 : decode qn_evaluateArguments_c 19 = .ok (.aload_n 0, 1) := by decide +kernel
theorem d_qn_evaluateArguments_20 : decode qn_evaluateArguments_c 20 = .ok (.getfield 9, 3) := by decide +kernel
theorem d_qn_evaluateArguments_23 : decode qn_evaluateArguments_c 23 = .ok (.lload_n 1, 1) := by decide +kernel
theorem d_qn_evaluateArguments_24 : decode qn_evaluateArguments_c 24 = .ok (.invokevirtual 120, 3) := by decide +kernel
theorem d_qn_evaluateArguments_27 : decode qn_evaluateArguments_c 27 = .ok (.iconst 1, 1) := by decide +kernel
theorem d_qn_evaluateArguments_28 : decode qn_evaluateArguments_c 28 = .ok (.aload_n 0, 1) := by decide +kernel
theorem d_qn_evaluateArguments_29 : decode qn_evaluateArguments_c 29 = .ok (.getfield 9, 3) := by decide +kernel
theorem d_qn_evaluateArguments_32 : decode qn_evaluateArguments_c 32 = .ok (.lload_n 1, 1) := by decide +kernel
theorem d_qn_evaluateArguments_33 : decode qn_evaluateArguments_c 33 = .ok (.invokevirtual 124, 3) := by decide +kernel
theorem d_qn_evaluateArguments_36 : decode qn_evaluateArguments_c 36 = .ok (.lload_n 3, 1) := by decide +kernel
theorem d_qn_evaluateArguments_37 : decode qn_evaluateArguments_c 37 = .ok (.iload 5, 2) := by decide +kernel
theorem d_qn_evaluateArguments_39 : decode qn_evaluateArguments_c 39 = .ok (.invokevirtual 127, 3) := by decide +kernel
theorem d_qn_evaluateArguments_42 : decode qn_evaluateArguments_c 42 = .ok (.return_, 1) := by decide +kernel
theorem d_qn_combineApplicative_0 : decode qn_combineApplicative_c 0 = .ok (.aload_n 0, 1) := by decide +kernel
theorem d_qn_combineApplicative_1 : decode qn_combineApplicative_c 1 = .ok (.getfield 9, 3) := by decide +kernel
theorem d_qn_combineApplicative_4 : decode qn_combineApplicative_c 4 = .ok (.aload_n 0, 1) := by decide +kernel
theorem d_qn_combineApplicative_5 : decode qn_combineApplicative_c 5 = .ok (.getfield 56, 3) := by decide +kernel
theorem d_qn_combineApplicative_8 : decode qn_combineApplicative_c 8 = .ok (.invokevirtual 195, 3) := by decide +kernel
theorem d_qn_combineApplicative_11 : decode qn_combineApplicative_c 11 = .ok (.iconst (-1), 1) := by decide +kernel
theorem d_qn_combineApplicative_12 : decode qn_combineApplicative_c 12 = .ok (.if_icmp .ne 12, 3) := by decide +kernel
theorem d_qn_combineApplicative_15 : decode qn_combineApplicative_c 15 = .ok (.aload_n 0, 1) := by decide +kernel
theorem d_qn_combineApplicative_16 : decode qn_combineApplicative_c 16 = .ok (.bipush (-8), 2) := by decide +kernel
theorem d_qn_combineApplicative_18 : decode qn_combineApplicative_c 18 = .ok (.invokevirtual 99, 3) := by decide +kernel
theorem d_qn_combineApplicative_21 : decode qn_combineApplicative_c 21 = .ok (.goto 23, 3) := by decide +kernel
theorem d_qn_combineApplicative_24 : decode qn_combineApplicative_c 24 = .ok (.aload_n 0, 1) := by decide +kernel
theorem d_qn_combineApplicative_25 : decode qn_combineApplicative_c 25 = .ok (.aload_n 0, 1) := by decide +kernel
theorem d_qn_combineApplicative_26 : decode qn_combineApplicative_c 26 = .ok (.getfield 56, 3) := by decide +kernel
theorem d_qn_combineApplicative_29 : decode qn_combineApplicative_c 29 = .ok (.aload_n 0, 1) := by decide +kernel
theorem d_qn_combineApplicative_30 : decode qn_combineApplicative_c 30 = .ok (.getfield 9, 3) := by decide +kernel
theorem d_qn_combineApplicative_33 : decode qn_combineApplicative_c 33 = .ok (.aload_n 0, 1) := by decide +kernel
theorem d_qn_combineApplicative_34 : decode qn_combineApplicative_c 34 = .ok (.getfield 52, 3) := by decide +kernel
theorem d_qn_combineApplicative_37 : decode qn_combineApplicative_c 37 = .ok (.invokevirtual 198, 3) := by decide +kernel
theorem d_qn_combineApplicative_40 : decode qn_combineApplicative_c 40 = .ok (.iconst 0, 1) := by decide +kernel
theorem d_qn_combineApplicative_41 : decode qn_combineApplicative_c 41 = .ok (.invokevirtual 201, 3) := by decide +kernel
theorem d_qn_combineApplicative_44 : decode qn_combineApplicative_c 44 = .ok (.return_, 1) := by decide +kernel
theorem d_qh_isPrimitive_0 : decode qh_isPrimitive_c 0 = .ok (.iload_n 0, 1) := by decide +kernel
theorem d_qh_isPrimitive_1 : decode qh_isPrimitive_c 1 = .ok (.bipush 100, 2) := by decide +kernel
theorem d_qh_isPrimitive_3 : decode qh_isPrimitive_c 3 = .ok (.if_icmp .ge 7, 3) := by decide +kernel
theorem d_qh_isPrimitive_6 : decode qh_isPrimitive_c 6 = .ok (.iconst 1, 1) := by decide +kernel
theorem d_qh_isPrimitive_7 : decode qh_isPrimitive_c 7 = .ok (.goto 4, 3) := by decide +kernel
theorem d_qh_isPrimitive_10 : decode qh_isPrimitive_c 10 = .ok (.iconst 0, 1) := by decide +kernel
theorem d_qh_isPrimitive_11 : decode qh_isPrimitive_c 11 = .ok (.ireturn, 1) := by decide +kernel
theorem d_qh_parametersOf_0 : decode qh_parametersOf_c 0 = .ok (.aload_n 0, 1) := by decide +kernel
theorem d_qh_parametersOf_1 : decode qh_parametersOf_c 1 = .ok (.iload_n 1, 1) := by decide +kernel
theorem d_qh_parametersOf_2 : decode qh_parametersOf_c 2 = .ok (.invokevirtual 61, 3) := by decide +kernel
theorem d_qh_parametersOf_5 : decode qh_parametersOf_c 5 = .ok (.bipush 20, 2) := by decide +kernel
theorem d_qh_parametersOf_7 : decode qh_parametersOf_c 7 = .ok (.lshr, 1) := by decide +kernel
theorem d_qh_parametersOf_8 : decode qh_parametersOf_c 8 = .ok (.lreturn, 1) := by decide +kernel
theorem d_qt_putOff_0 : decode qt_putOff_c 0 = .ok (.aload_n 0, 1) := by decide +kernel
theorem d_qt_putOff_1 : decode qt_putOff_c 1 = .ok (.getfield 29, 3) := by decide +kernel
theorem d_qt_putOff_4 : decode qt_putOff_c 4 = .ok (.ifCond .lt 42, 3) := by decide +kernel
theorem d_qt_putOff_7 : decode qt_putOff_c 7 = .ok (.aload_n 0, 1) := by decide +kernel
theorem d_qt_putOff_8 : decode qt_putOff_c 8 = .ok (.getfield 29, 3) := by decide +kernel
theorem d_qt_putOff_11 : decode qt_putOff_c 11 = .ok (.bipush 100, 2) := by decide +kernel
theorem d_qt_putOff_13 : decode qt_putOff_c 13 = .ok (.if_icmp .gt 33, 3) := by decide +kernel
theorem d_qt_putOff_16 : decode qt_putOff_c 16 = .ok (.aload_n 0, 1) := by decide +kernel
theorem d_qt_putOff_17 : decode qt_putOff_c 17 = .ok (.getfield 13, 3) := by decide +kernel
theorem d_qt_putOff_20 : decode qt_putOff_c 20 = .ok (.aload_n 0, 1) := by decide +kernel
theorem d_qt_putOff_21 : decode qt_putOff_c 21 = .ok (.getfield 29, 3) := by decide +kernel
theorem d_qt_putOff_24 : decode qt_putOff_c 24 = .ok (.lload_n 1, 1) := by decide +kernel
theorem d_qt_putOff_25 : decode qt_putOff_c 25 = .ok (.lastore, 1) := by decide +kernel
theorem d_qt_putOff_26 : decode qt_putOff_c 26 = .ok (.aload_n 0, 1) := by decide +kernel
theorem d_qt_putOff_27 : decode qt_putOff_c 27 = .ok (.getfield 17, 3) := by decide +kernel
theorem d_qt_putOff_30 : decode qt_putOff_c 30 = .ok (.aload_n 0, 1) := by decide +kernel
theorem d_qt_putOff_31 : decode qt_putOff_c 31 = .ok (.getfield 29, 3) := by decide +kernel
theorem d_qt_putOff_34 : decode qt_putOff_c 34 = .ok (.lload_n 3, 1) := by decide +kernel
theorem d_qt_putOff_35 : decode qt_putOff_c 35 = .ok (.lastore, 1) := by decide +kernel
theorem d_qt_putOff_36 : decode qt_putOff_c 36 = .ok (.aload_n 0, 1) := by decide +kernel
theorem d_qt_putOff_37 : decode qt_putOff_c 37 = .ok (.dup, 1) := by decide +kernel
theorem d_qt_putOff_38 : decode qt_putOff_c 38 = .ok (.getfield 29, 3) := by decide +kernel
theorem d_qt_putOff_41 : decode qt_putOff_c 41 = .ok (.iconst 1, 1) := by decide +kernel
theorem d_qt_putOff_42 : decode qt_putOff_c 42 = .ok (.iadd, 1) := by decide +kernel
theorem d_qt_putOff_43 : decode qt_putOff_c 43 = .ok (.putfield 29, 3) := by decide +kernel
theorem d_qt_putOff_46 : decode qt_putOff_c 46 = .ok (.return_, 1) := by decide +kernel
theorem d_qt_start_0 : decode qt_start_c 0 = .ok (.aload_n 0, 1) := by decide +kernel
theorem d_qt_start_1 : decode qt_start_c 1 = .ok (.iconst 0, 1) := by decide +kernel
theorem d_qt_start_2 : decode qt_start_c 2 = .ok (.putfield 33, 3) := by decide +kernel
theorem d_qt_start_5 : decode qt_start_c 5 = .ok (.aload_n 0, 1) := by decide +kernel
theorem d_qt_start_6 : decode qt_start_c 6 = .ok (.iconst 0, 1) := by decide +kernel
theorem d_qt_start_7 : decode qt_start_c 7 = .ok (.putfield 29, 3) := by decide +kernel
theorem d_qt_start_10 : decode qt_start_c 10 = .ok (.aload_n 0, 1) := by decide +kernel
theorem d_qt_start_11 : decode qt_start_c 11 = .ok (.lload_n 1, 1) := by decide +kernel
theorem d_qt_start_12 : decode qt_start_c 12 = .ok (.lload_n 3, 1) := by decide +kernel
theorem d_qt_start_13 : decode qt_start_c 13 = .ok (.invokevirtual 56, 3) := by decide +kernel
theorem d_qt_start_16 : decode qt_start_c 16 = .ok (.return_, 1) := by decide +kernel
theorem d_qt_takeTree_0 : decode qt_takeTree_c 0 = .ok (.aload_n 0, 1) := by decide +kernel
theorem d_qt_takeTree_1 : decode qt_takeTree_c 1 = .ok (.dup, 1) := by decide +kernel
theorem d_qt_takeTree_2 : decode qt_takeTree_c 2 = .ok (.getfield 29, 3) := by decide +kernel
theorem d_qt_takeTree_5 : decode qt_takeTree_c 5 = .ok (.iconst 1, 1) := by decide +kernel
theorem d_qt_takeTree_6 : decode qt_takeTree_c 6 = .ok (.isub, 1) := by decide +kernel
theorem d_qt_takeTree_7 : decode qt_takeTree_c 7 = .ok (.putfield 29, 3) := by decide +kernel
theorem d_qt_takeTree_10 : decode qt_takeTree_c 10 = .ok (.aload_n 0, 1) := by decide +kernel
theorem d_qt_takeTree_11 : decode qt_takeTree_c 11 = .ok (.getfield 29, 3) := by decide +kernel
theorem d_qt_takeTree_14 : decode qt_takeTree_c 14 = .ok (.ifCond .lt 24, 3) := by decide +kernel
theorem d_qt_takeTree_17 : decode qt_takeTree_c 17 = .ok (.aload_n 0, 1) := by decide +kernel
theorem d_qt_takeTree_18 : decode qt_takeTree_c 18 = .ok (.getfield 29, 3) := by decide +kernel
theorem d_qt_takeTree_21 : decode qt_takeTree_c 21 = .ok (.bipush 100, 2) := by decide +kernel
theorem d_qt_takeTree_23 : decode qt_takeTree_c 23 = .ok (.if_icmp .gt 15, 3) := by decide +kernel
theorem d_qt_takeTree_26 : decode qt_takeTree_c 26 = .ok (.aload_n 0, 1) := by decide +kernel
theorem d_qt_takeTree_27 : decode qt_takeTree_c 27 = .ok (.getfield 13, 3) := by decide +kernel
theorem d_qt_takeTree_30 : decode qt_takeTree_c 30 = .ok (.aload_n 0, 1) := by decide +kernel
theorem d_qt_takeTree_31 : decode qt_takeTree_c 31 = .ok (.getfield 29, 3) := by decide +kernel
theorem d_qt_takeTree_34 : decode qt_takeTree_c 34 = .ok (.laload, 1) := by decide +kernel
theorem d_qt_takeTree_35 : decode qt_takeTree_c 35 = .ok (.goto 6, 3) := by decide +kernel
theorem d_qt_takeTree_38 : decode qt_takeTree_c 38 = .ok (.ldc2_w 36, 3) := by decide +kernel
theorem d_qt_takeTree_41 : decode qt_takeTree_c 41 = .ok (.lreturn, 1) := by decide +kernel
theorem d_qt_takenPart_0 : decode qt_takenPart_c 0 = .ok (.aload_n 0, 1) := by decide +kernel
theorem d_qt_takenPart_1 : decode qt_takenPart_c 1 = .ok (.getfield 29, 3) := by decide +kernel
theorem d_qt_takenPart_4 : decode qt_takenPart_c 4 = .ok (.ifCond .lt 24, 3) := by decide +kernel
theorem d_qt_takenPart_7 : decode qt_takenPart_c 7 = .ok (.aload_n 0, 1) := by decide +kernel
theorem d_qt_takenPart_8 : decode qt_takenPart_c 8 = .ok (.getfield 29, 3) := by decide +kernel
theorem d_qt_takenPart_11 : decode qt_takenPart_c 11 = .ok (.bipush 100, 2) := by decide +kernel
theorem d_qt_takenPart_13 : decode qt_takenPart_c 13 = .ok (.if_icmp .gt 15, 3) := by decide +kernel
theorem d_qt_takenPart_16 : decode qt_takenPart_c 16 = .ok (.aload_n 0, 1) := by decide +kernel
theorem d_qt_takenPart_17 : decode qt_takenPart_c 17 = .ok (.getfield 17, 3) := by decide +kernel
theorem d_qt_takenPart_20 : decode qt_takenPart_c 20 = .ok (.aload_n 0, 1) := by decide +kernel
theorem d_qt_takenPart_21 : decode qt_takenPart_c 21 = .ok (.getfield 29, 3) := by decide +kernel
theorem d_qt_takenPart_24 : decode qt_takenPart_c 24 = .ok (.laload, 1) := by decide +kernel
theorem d_qt_takenPart_25 : decode qt_takenPart_c 25 = .ok (.goto 6, 3) := by decide +kernel
theorem d_qt_takenPart_28 : decode qt_takenPart_c 28 = .ok (.ldc2_w 36, 3) := by decide +kernel
theorem d_qt_takenPart_31 : decode qt_takenPart_c 31 = .ok (.lreturn, 1) := by decide +kernel
theorem d_qt_find_0 : decode qt_find_c 0 = .ok (.aload_n 0, 1) := by decide +kernel
theorem d_qt_find_1 : decode qt_find_c 1 = .ok (.getfield 33, 3) := by decide +kernel
theorem d_qt_find_4 : decode qt_find_c 4 = .ok (.ifCond .lt 42, 3) := by decide +kernel
theorem d_qt_find_7 : decode qt_find_c 7 = .ok (.aload_n 0, 1) := by decide +kernel
theorem d_qt_find_8 : decode qt_find_c 8 = .ok (.getfield 33, 3) := by decide +kernel
theorem d_qt_find_11 : decode qt_find_c 11 = .ok (.bipush 100, 2) := by decide +kernel
theorem d_qt_find_13 : decode qt_find_c 13 = .ok (.if_icmp .ge 33, 3) := by decide +kernel
theorem d_qt_find_16 : decode qt_find_c 16 = .ok (.aload_n 0, 1) := by decide +kernel
theorem d_qt_find_17 : decode qt_find_c 17 = .ok (.getfield 22, 3) := by decide +kernel
theorem d_qt_find_20 : decode qt_find_c 20 = .ok (.aload_n 0, 1) := by decide +kernel
theorem d_qt_find_21 : decode qt_find_c 21 = .ok (.getfield 33, 3) := by decide +kernel
theorem d_qt_find_24 : decode qt_find_c 24 = .ok (.iload_n 1, 1) := by decide +kernel
theorem d_qt_find_25 : decode qt_find_c 25 = .ok (.iastore, 1) := by decide +kernel
theorem d_qt_find_26 : decode qt_find_c 26 = .ok (.aload_n 0, 1) := by decide +kernel
theorem d_qt_find_27 : decode qt_find_c 27 = .ok (.getfield 26, 3) := by decide +kernel
theorem d_qt_find_30 : decode qt_find_c 30 = .ok (.aload_n 0, 1) := by decide +kernel
theorem d_qt_find_31 : decode qt_find_c 31 = .ok (.getfield 33, 3) := by decide +kernel
theorem d_qt_find_34 : decode qt_find_c 34 = .ok (.lload_n 2, 1) := by decide +kernel
theorem d_qt_find_35 : decode qt_find_c 35 = .ok (.lastore, 1) := by decide +kernel
theorem d_qt_find_36 : decode qt_find_c 36 = .ok (.aload_n 0, 1) := by decide +kernel
theorem d_qt_find_37 : decode qt_find_c 37 = .ok (.dup, 1) := by decide +kernel
theorem d_qt_find_38 : decode qt_find_c 38 = .ok (.getfield 33, 3) := by decide +kernel
theorem d_qt_find_41 : decode qt_find_c 41 = .ok (.iconst 1, 1) := by decide +kernel
theorem d_qt_find_42 : decode qt_find_c 42 = .ok (.iadd, 1) := by decide +kernel
theorem d_qt_find_43 : decode qt_find_c 43 = .ok (.putfield 33, 3) := by decide +kernel
theorem d_qt_find_46 : decode qt_find_c 46 = .ok (.return_, 1) := by decide +kernel
theorem d_qt_matches_0 : decode qt_matches_c 0 = .ok (.aload_n 0, 1) := by decide +kernel
theorem d_qt_matches_1 : decode qt_matches_c 1 = .ok (.lload_n 1, 1) := by decide +kernel
theorem d_qt_matches_2 : decode qt_matches_c 2 = .ok (.lload_n 3, 1) := by decide +kernel
theorem d_qt_matches_3 : decode qt_matches_c 3 = .ok (.invokevirtual 38, 3) := by decide +kernel
theorem d_qt_matches_6 : decode qt_matches_c 6 = .ok (.iconst 0, 1) := by decide +kernel
theorem d_qt_matches_7 : decode qt_matches_c 7 = .ok (.istore 5, 2) := by decide +kernel
theorem d_qt_matches_9 : decode qt_matches_c 9 = .ok (.iload 5, 2) := by decide +kernel
theorem d_qt_matches_11 : decode qt_matches_c 11 = .ok (.sipush 201, 3) := by decide +kernel
theorem d_qt_matches_14 : decode qt_matches_c 14 = .ok (.if_icmp .ge 143, 3) := by decide +kernel
theorem d_qt_matches_17 : decode qt_matches_c 17 = .ok (.aload_n 0, 1) := by decide +kernel
theorem d_qt_matches_18 : decode qt_matches_c 18 = .ok (.getfield 29, 3) := by decide +kernel
theorem d_qt_matches_21 : decode qt_matches_c 21 = .ok (.ifCond .le 136, 3) := by decide +kernel
theorem d_qt_matches_24 : decode qt_matches_c 24 = .ok (.aload_n 0, 1) := by decide +kernel
theorem d_qt_matches_25 : decode qt_matches_c 25 = .ok (.invokevirtual 42, 3) := by decide +kernel
theorem d_qt_matches_28 : decode qt_matches_c 28 = .ok (.lstore 6, 2) := by decide +kernel
theorem d_qt_matches_30 : decode qt_matches_c 30 = .ok (.aload_n 0, 1) := by decide +kernel
theorem d_qt_matches_31 : decode qt_matches_c 31 = .ok (.invokevirtual 73, 3) := by decide +kernel
theorem d_qt_matches_34 : decode qt_matches_c 34 = .ok (.lstore 8, 2) := by decide +kernel
theorem d_qt_matches_36 : decode qt_matches_c 36 = .ok (.lload 6, 2) := by decide +kernel
theorem d_qt_matches_38 : decode qt_matches_c 38 = .ok (.invokestatic 46, 3) := by decide +kernel
theorem d_qt_matches_41 : decode qt_matches_c 41 = .ok (.tableswitch 110 2 4 #[85, 99, 27], 27) := by decide +kernel
theorem d_qt_matches_68 : decode qt_matches_c 68 = .ok (.lload 8, 2) := by decide +kernel
theorem d_qt_matches_70 : decode qt_matches_c 70 = .ok (.invokestatic 46, 3) := by decide +kernel
theorem d_qt_matches_73 : decode qt_matches_c 73 = .ok (.iconst 4, 1) := by decide +kernel
theorem d_qt_matches_74 : decode qt_matches_c 74 = .ok (.if_icmp .eq 5, 3) := by decide +kernel
theorem d_qt_matches_77 : decode qt_matches_c 77 = .ok (.iconst 0, 1) := by decide +kernel
theorem d_qt_matches_78 : decode qt_matches_c 78 = .ok (.ireturn, 1) := by decide +kernel
theorem d_qt_matches_79 : decode qt_matches_c 79 = .ok (.aload_n 0, 1) := by decide +kernel
theorem d_qt_matches_80 : decode qt_matches_c 80 = .ok (.aload_n 0, 1) := by decide +kernel
theorem d_qt_matches_81 : decode qt_matches_c 81 = .ok (.getfield 9, 3) := by decide +kernel
theorem d_qt_matches_84 : decode qt_matches_c 84 = .ok (.lload 6, 2) := by decide +kernel
theorem d_qt_matches_86 : decode qt_matches_c 86 = .ok (.invokevirtual 50, 3) := by decide +kernel
theorem d_qt_matches_89 : decode qt_matches_c 89 = .ok (.aload_n 0, 1) := by decide +kernel
theorem d_qt_matches_90 : decode qt_matches_c 90 = .ok (.getfield 9, 3) := by decide +kernel
theorem d_qt_matches_93 : decode qt_matches_c 93 = .ok (.lload 8, 2) := by decide +kernel
theorem d_qt_matches_95 : decode qt_matches_c 95 = .ok (.invokevirtual 50, 3) := by decide +kernel
theorem d_qt_matches_98 : decode qt_matches_c 98 = .ok (.invokevirtual 56, 3) := by decide +kernel
theorem d_qt_matches_101 : decode qt_matches_c 101 = .ok (.aload_n 0, 1) := by decide +kernel
theorem d_qt_matches_102 : decode qt_matches_c 102 = .ok (.aload_n 0, 1) := by decide +kernel
theorem d_qt_matches_103 : decode qt_matches_c 103 = .ok (.getfield 9, 3) := by decide +kernel
theorem d_qt_matches_106 : decode qt_matches_c 106 = .ok (.lload 6, 2) := by decide +kernel
theorem d_qt_matches_108 : decode qt_matches_c 108 = .ok (.invokevirtual 59, 3) := by decide +kernel
theorem d_qt_matches_111 : decode qt_matches_c 111 = .ok (.aload_n 0, 1) := by decide +kernel
theorem d_qt_matches_112 : decode qt_matches_c 112 = .ok (.getfield 9, 3) := by decide +kernel
theorem d_qt_matches_115 : decode qt_matches_c 115 = .ok (.lload 8, 2) := by decide +kernel
theorem d_qt_matches_117 : decode qt_matches_c 117 = .ok (.invokevirtual 59, 3) := by decide +kernel
theorem d_qt_matches_120 : decode qt_matches_c 120 = .ok (.invokevirtual 56, 3) := by decide +kernel
theorem d_qt_matches_123 : decode qt_matches_c 123 = .ok (.goto 28, 3) := by decide +kernel
theorem d_qt_matches_126 : decode qt_matches_c 126 = .ok (.aload_n 0, 1) := by decide +kernel
theorem d_qt_matches_127 : decode qt_matches_c 127 = .ok (.lload 6, 2) := by decide +kernel
theorem d_qt_matches_129 : decode qt_matches_c 129 = .ok (.invokestatic 62, 3) := by decide +kernel
theorem d_qt_matches_132 : decode qt_matches_c 132 = .ok (.lload 8, 2) := by decide +kernel
theorem d_qt_matches_134 : decode qt_matches_c 134 = .ok (.invokevirtual 69, 3) := by decide +kernel
theorem d_qt_matches_137 : decode qt_matches_c 137 = .ok (.goto 14, 3) := by decide +kernel
theorem d_qt_matches_140 : decode qt_matches_c 140 = .ok (.lload 8, 2) := by decide +kernel
theorem d_qt_matches_142 : decode qt_matches_c 142 = .ok (.ldc2_w 36, 3) := by decide +kernel
theorem d_qt_matches_145 : decode qt_matches_c 145 = .ok (.lcmp, 1) := by decide +kernel
theorem d_qt_matches_146 : decode qt_matches_c 146 = .ok (.ifCond .eq 5, 3) := by decide +kernel
theorem d_qt_matches_149 : decode qt_matches_c 149 = .ok (.iconst 0, 1) := by decide +kernel
theorem d_qt_matches_150 : decode qt_matches_c 150 = .ok (.ireturn, 1) := by decide +kernel
theorem d_qt_matches_151 : decode qt_matches_c 151 = .ok (.iinc 5 1, 3) := by decide +kernel
theorem d_qt_matches_154 : decode qt_matches_c 154 = .ok (.goto (-145), 3) := by decide +kernel
theorem d_qt_matches_157 : decode qt_matches_c 157 = .ok (.aload_n 0, 1) := by decide +kernel
theorem d_qt_matches_158 : decode qt_matches_c 158 = .ok (.getfield 29, 3) := by decide +kernel
theorem d_qt_matches_161 : decode qt_matches_c 161 = .ok (.ifCond .ne 7, 3) := by decide +kernel
theorem d_qt_matches_164 : decode qt_matches_c 164 = .ok (.iconst 1, 1) := by decide +kernel
theorem d_qt_matches_165 : decode qt_matches_c 165 = .ok (.goto 4, 3) := by decide +kernel
theorem d_qt_matches_168 : decode qt_matches_c 168 = .ok (.iconst 0, 1) := by decide +kernel
theorem d_qt_matches_169 : decode qt_matches_c 169 = .ok (.ireturn, 1) := by decide +kernel
theorem d_qh_scopeOf_0 : decode qh_scopeOf_c 0 = .ok (.aload_n 0, 1) := by decide +kernel
theorem d_qh_scopeOf_1 : decode qh_scopeOf_c 1 = .ok (.iload_n 1, 1) := by decide +kernel
theorem d_qh_scopeOf_2 : decode qh_scopeOf_c 2 = .ok (.invokevirtual 61, 3) := by decide +kernel
theorem d_qh_scopeOf_5 : decode qh_scopeOf_c 5 = .ok (.ldc2_w 73, 3) := by decide +kernel
theorem d_qh_scopeOf_8 : decode qh_scopeOf_c 8 = .ok (.land, 1) := by decide +kernel
theorem d_qh_scopeOf_9 : decode qh_scopeOf_c 9 = .ok (.l2i, 1) := by decide +kernel
theorem d_qh_scopeOf_10 : decode qh_scopeOf_c 10 = .ok (.ireturn, 1) := by decide +kernel
theorem d_qh_addEnvironment_0 : decode qh_addEnvironment_c 0 = .ok (.aload_n 0, 1) := by decide +kernel
theorem d_qh_addEnvironment_1 : decode qh_addEnvironment_c 1 = .ok (.iload_n 1, 1) := by decide +kernel
theorem d_qh_addEnvironment_2 : decode qh_addEnvironment_c 2 = .ok (.i2l, 1) := by decide +kernel
theorem d_qh_addEnvironment_3 : decode qh_addEnvironment_c 3 = .ok (.ldc2_w 23, 3) := by decide +kernel
theorem d_qh_addEnvironment_6 : decode qh_addEnvironment_c 6 = .ok (.invokevirtual 49, 3) := by decide +kernel
theorem d_qh_addEnvironment_9 : decode qh_addEnvironment_c 9 = .ok (.ireturn, 1) := by decide +kernel
theorem d_qh_addBinding_0 : decode qh_addBinding_c 0 = .ok (.aload_n 0, 1) := by decide +kernel
theorem d_qh_addBinding_1 : decode qh_addBinding_c 1 = .ok (.lload_n 3, 1) := by decide +kernel
theorem d_qh_addBinding_2 : decode qh_addBinding_c 2 = .ok (.iload_n 2, 1) := by decide +kernel
theorem d_qh_addBinding_3 : decode qh_addBinding_c 3 = .ok (.aload_n 0, 1) := by decide +kernel
theorem d_qh_addBinding_4 : decode qh_addBinding_c 4 = .ok (.iload_n 1, 1) := by decide +kernel
theorem d_qh_addBinding_5 : decode qh_addBinding_c 5 = .ok (.invokevirtual 39, 3) := by decide +kernel
theorem d_qh_addBinding_8 : decode qh_addBinding_c 8 = .ok (.invokestatic 43, 3) := by decide +kernel
theorem d_qh_addBinding_11 : decode qh_addBinding_c 11 = .ok (.invokevirtual 49, 3) := by decide +kernel
theorem d_qh_addBinding_14 : decode qh_addBinding_c 14 = .ok (.istore 5, 2) := by decide +kernel
theorem d_qh_addBinding_16 : decode qh_addBinding_c 16 = .ok (.iload 5, 2) := by decide +kernel
theorem d_qh_addBinding_18 : decode qh_addBinding_c 18 = .ok (.iconst (-1), 1) := by decide +kernel
theorem d_qh_addBinding_19 : decode qh_addBinding_c 19 = .ok (.if_icmp .ne 5, 3) := by decide +kernel
theorem d_qh_addBinding_22 : decode qh_addBinding_c 22 = .ok (.iconst 0, 1) := by decide +kernel
theorem d_qh_addBinding_23 : decode qh_addBinding_c 23 = .ok (.ireturn, 1) := by decide +kernel
theorem d_qh_addBinding_24 : decode qh_addBinding_c 24 = .ok (.aload_n 0, 1) := by decide +kernel
theorem d_qh_addBinding_25 : decode qh_addBinding_c 25 = .ok (.iload_n 1, 1) := by decide +kernel
theorem d_qh_addBinding_26 : decode qh_addBinding_c 26 = .ok (.aload_n 0, 1) := by decide +kernel
theorem d_qh_addBinding_27 : decode qh_addBinding_c 27 = .ok (.iload_n 1, 1) := by decide +kernel
theorem d_qh_addBinding_28 : decode qh_addBinding_c 28 = .ok (.invokevirtual 57, 3) := by decide +kernel
theorem d_qh_addBinding_31 : decode qh_addBinding_c 31 = .ok (.iload 5, 2) := by decide +kernel
theorem d_qh_addBinding_33 : decode qh_addBinding_c 33 = .ok (.i2l, 1) := by decide +kernel
theorem d_qh_addBinding_34 : decode qh_addBinding_c 34 = .ok (.invokevirtual 25, 3) := by decide +kernel
theorem d_qh_addBinding_37 : decode qh_addBinding_c 37 = .ok (.iconst 1, 1) := by decide +kernel
theorem d_qh_addBinding_38 : decode qh_addBinding_c 38 = .ok (.ireturn, 1) := by decide +kernel
theorem d_qt_bindFound_0 : decode qt_bindFound_c 0 = .ok (.iconst 0, 1) := by decide +kernel
theorem d_qt_bindFound_1 : decode qt_bindFound_c 1 = .ok (.istore_n 2, 1) := by decide +kernel
theorem d_qt_bindFound_2 : decode qt_bindFound_c 2 = .ok (.iload_n 2, 1) := by decide +kernel
theorem d_qt_bindFound_3 : decode qt_bindFound_c 3 = .ok (.aload_n 0, 1) := by decide +kernel
theorem d_qt_bindFound_4 : decode qt_bindFound_c 4 = .ok (.getfield 33, 3) := by decide +kernel
theorem d_qt_bindFound_7 : decode qt_bindFound_c 7 = .ok (.if_icmp .ge 40, 3) := by decide +kernel
theorem d_qt_bindFound_10 : decode qt_bindFound_c 10 = .ok (.iload_n 2, 1) := by decide +kernel
theorem d_qt_bindFound_11 : decode qt_bindFound_c 11 = .ok (.bipush 100, 2) := by decide +kernel
theorem d_qt_bindFound_13 : decode qt_bindFound_c 13 = .ok (.if_icmp .ge 34, 3) := by decide +kernel
theorem d_qt_bindFound_16 : decode qt_bindFound_c 16 = .ok (.aload_n 0, 1) := by decide +kernel
theorem d_qt_bindFound_17 : decode qt_bindFound_c 17 = .ok (.getfield 9, 3) := by decide +kernel
theorem d_qt_bindFound_20 : decode qt_bindFound_c 20 = .ok (.iload_n 1, 1) := by decide +kernel
theorem d_qt_bindFound_21 : decode qt_bindFound_c 21 = .ok (.aload_n 0, 1) := by decide +kernel
theorem d_qt_bindFound_22 : decode qt_bindFound_c 22 = .ok (.getfield 22, 3) := by decide +kernel
theorem d_qt_bindFound_25 : decode qt_bindFound_c 25 = .ok (.iload_n 2, 1) := by decide +kernel
theorem d_qt_bindFound_26 : decode qt_bindFound_c 26 = .ok (.iaload, 1) := by decide +kernel
theorem d_qt_bindFound_27 : decode qt_bindFound_c 27 = .ok (.aload_n 0, 1) := by decide +kernel
theorem d_qt_bindFound_28 : decode qt_bindFound_c 28 = .ok (.getfield 26, 3) := by decide +kernel
theorem d_qt_bindFound_31 : decode qt_bindFound_c 31 = .ok (.iload_n 2, 1) := by decide +kernel
theorem d_qt_bindFound_32 : decode qt_bindFound_c 32 = .ok (.laload, 1) := by decide +kernel
theorem d_qt_bindFound_33 : decode qt_bindFound_c 33 = .ok (.invokevirtual 76, 3) := by decide +kernel
theorem d_qt_bindFound_36 : decode qt_bindFound_c 36 = .ok (.ifCond .ne 5, 3) := by decide +kernel
theorem d_qt_bindFound_39 : decode qt_bindFound_c 39 = .ok (.iconst 0, 1) := by decide +kernel
theorem d_qt_bindFound_40 : decode qt_bindFound_c 40 = .ok (.ireturn, 1) := by decide +kernel
theorem d_qt_bindFound_41 : decode qt_bindFound_c 41 = .ok (.iinc 2 1, 3) := by decide +kernel
theorem d_qt_bindFound_44 : decode qt_bindFound_c 44 = .ok (.goto (-42), 3) := by decide +kernel
theorem d_qt_bindFound_47 : decode qt_bindFound_c 47 = .ok (.iconst 1, 1) := by decide +kernel
theorem d_qt_bindFound_48 : decode qt_bindFound_c 48 = .ok (.ireturn, 1) := by decide +kernel
theorem d_qh_environmentSymbolOf_0 : decode qh_environmentSymbolOf_c 0 = .ok (.aload_n 0, 1) := by decide +kernel
theorem d_qh_environmentSymbolOf_1 : decode qh_environmentSymbolOf_c 1 = .ok (.iload_n 1, 1) := by decide +kernel
theorem d_qh_environmentSymbolOf_2 : decode qh_environmentSymbolOf_c 2 = .ok (.invokevirtual 61, 3) := by decide +kernel
theorem d_qh_environmentSymbolOf_5 : decode qh_environmentSymbolOf_c 5 = .ok (.bipush 13, 2) := by decide +kernel
theorem d_qh_environmentSymbolOf_7 : decode qh_environmentSymbolOf_c 7 = .ok (.lshr, 1) := by decide +kernel
theorem d_qh_environmentSymbolOf_8 : decode qh_environmentSymbolOf_c 8 = .ok (.ldc2_w 71, 3) := by decide +kernel
theorem d_qh_environmentSymbolOf_11 : decode qh_environmentSymbolOf_c 11 = .ok (.land, 1) := by decide +kernel
theorem d_qh_environmentSymbolOf_12 : decode qh_environmentSymbolOf_c 12 = .ok (.l2i, 1) := by decide +kernel
theorem d_qh_environmentSymbolOf_13 : decode qh_environmentSymbolOf_c 13 = .ok (.ireturn, 1) := by decide +kernel
theorem d_qn_bindCaller_0 : decode qn_bindCaller_c 0 = .ok (.iload_n 2, 1) := by decide +kernel
theorem d_qn_bindCaller_1 : decode qn_bindCaller_c 1 = .ok (.bipush 127, 2) := by decide +kernel
theorem d_qn_bindCaller_3 : decode qn_bindCaller_c 3 = .ok (.if_icmp .eq 25, 3) := by decide +kernel
theorem d_qn_bindCaller_6 : decode qn_bindCaller_c 6 = .ok (.aload_n 0, 1) := by decide +kernel
theorem d_qn_bindCaller_7 : decode qn_bindCaller_c 7 = .ok (.getfield 9, 3) := by decide +kernel
theorem d_qn_bindCaller_10 : decode qn_bindCaller_c 10 = .ok (.iload_n 1, 1) := by decide +kernel
theorem d_qn_bindCaller_11 : decode qn_bindCaller_c 11 = .ok (.iload_n 2, 1) := by decide +kernel
theorem d_qn_bindCaller_12 : decode qn_bindCaller_c 12 = .ok (.bipush 7, 2) := by decide +kernel
theorem d_qn_bindCaller_14 : decode qn_bindCaller_c 14 = .ok (.aload_n 0, 1) := by decide +kernel
theorem d_qn_bindCaller_15 : decode qn_bindCaller_c 15 = .ok (.getfield 61, 3) := by decide +kernel
theorem d_qn_bindCaller_18 : decode qn_bindCaller_c 18 = .ok (.i2l, 1) := by decide +kernel
theorem d_qn_bindCaller_19 : decode qn_bindCaller_c 19 = .ok (.invokestatic 102, 3) := by decide +kernel
theorem d_qn_bindCaller_22 : decode qn_bindCaller_c 22 = .ok (.invokevirtual 242, 3) := by decide +kernel
theorem d_qn_bindCaller_25 : decode qn_bindCaller_c 25 = .ok (.ifCond .eq 7, 3) := by decide +kernel
theorem d_qn_bindCaller_28 : decode qn_bindCaller_c 28 = .ok (.iconst 1, 1) := by decide +kernel
theorem d_qn_bindCaller_29 : decode qn_bindCaller_c 29 = .ok (.goto 4, 3) := by decide +kernel
theorem d_qn_bindCaller_32 : decode qn_bindCaller_c 32 = .ok (.iconst 0, 1) := by decide +kernel
theorem d_qn_bindCaller_33 : decode qn_bindCaller_c 33 = .ok (.ireturn, 1) := by decide +kernel
theorem d_qh_bodyOf_0 : decode qh_bodyOf_c 0 = .ok (.aload_n 0, 1) := by decide +kernel
theorem d_qh_bodyOf_1 : decode qh_bodyOf_c 1 = .ok (.iload_n 1, 1) := by decide +kernel
theorem d_qh_bodyOf_2 : decode qh_bodyOf_c 2 = .ok (.invokevirtual 57, 3) := by decide +kernel
theorem d_qh_bodyOf_5 : decode qh_bodyOf_c 5 = .ok (.lreturn, 1) := by decide +kernel
theorem d_qn_combineCompound_0 : decode qn_combineCompound_c 0 = .ok (.aload_n 0, 1) := by decide +kernel
theorem d_qn_combineCompound_1 : decode qn_combineCompound_c 1 = .ok (.getfield 20, 3) := by decide +kernel
theorem d_qn_combineCompound_4 : decode qn_combineCompound_c 4 = .ok (.aload_n 0, 1) := by decide +kernel
theorem d_qn_combineCompound_5 : decode qn_combineCompound_c 5 = .ok (.getfield 9, 3) := by decide +kernel
theorem d_qn_combineCompound_8 : decode qn_combineCompound_c 8 = .ok (.iload_n 1, 1) := by decide +kernel
theorem d_qn_combineCompound_9 : decode qn_combineCompound_c 9 = .ok (.invokevirtual 215, 3) := by decide +kernel
theorem d_qn_combineCompound_12 : decode qn_combineCompound_c 12 = .ok (.aload_n 0, 1) := by decide +kernel
theorem d_qn_combineCompound_13 : decode qn_combineCompound_c 13 = .ok (.getfield 56, 3) := by decide +kernel
theorem d_qn_combineCompound_16 : decode qn_combineCompound_c 16 = .ok (.invokevirtual 218, 3) := by decide +kernel
theorem d_qn_combineCompound_19 : decode qn_combineCompound_c 19 = .ok (.ifCond .ne 10, 3) := by decide +kernel
theorem d_qn_combineCompound_22 : decode qn_combineCompound_c 22 = .ok (.aload_n 0, 1) := by decide +kernel
theorem d_qn_combineCompound_23 : decode qn_combineCompound_c 23 = .ok (.bipush (-8), 2) := by decide +kernel
theorem d_qn_combineCompound_25 : decode qn_combineCompound_c 25 = .ok (.invokevirtual 99, 3) := by decide +kernel
theorem d_qn_combineCompound_28 : decode qn_combineCompound_c 28 = .ok (.return_, 1) := by decide +kernel
theorem d_qn_combineCompound_29 : decode qn_combineCompound_c 29 = .ok (.aload_n 0, 1) := by decide +kernel
theorem d_qn_combineCompound_30 : decode qn_combineCompound_c 30 = .ok (.getfield 9, 3) := by decide +kernel
theorem d_qn_combineCompound_33 : decode qn_combineCompound_c 33 = .ok (.aload_n 0, 1) := by decide +kernel
theorem d_qn_combineCompound_34 : decode qn_combineCompound_c 34 = .ok (.getfield 9, 3) := by decide +kernel
theorem d_qn_combineCompound_37 : decode qn_combineCompound_c 37 = .ok (.iload_n 1, 1) := by decide +kernel
theorem d_qn_combineCompound_38 : decode qn_combineCompound_c 38 = .ok (.invokevirtual 222, 3) := by decide +kernel
theorem d_qn_combineCompound_41 : decode qn_combineCompound_c 41 = .ok (.invokevirtual 226, 3) := by decide +kernel
theorem d_qn_combineCompound_44 : decode qn_combineCompound_c 44 = .ok (.istore_n 2, 1) := by decide +kernel
theorem d_qn_combineCompound_45 : decode qn_combineCompound_c 45 = .ok (.iload_n 2, 1) := by decide +kernel
theorem d_qn_combineCompound_46 : decode qn_combineCompound_c 46 = .ok (.iconst (-1), 1) := by decide +kernel
theorem d_qn_combineCompound_47 : decode qn_combineCompound_c 47 = .ok (.if_icmp .eq 30, 3) := by decide +kernel
theorem d_qn_combineCompound_50 : decode qn_combineCompound_c 50 = .ok (.aload_n 0, 1) := by decide +kernel
theorem d_qn_combineCompound_51 : decode qn_combineCompound_c 51 = .ok (.getfield 20, 3) := by decide +kernel
theorem d_qn_combineCompound_54 : decode qn_combineCompound_c 54 = .ok (.iload_n 2, 1) := by decide +kernel
theorem d_qn_combineCompound_55 : decode qn_combineCompound_c 55 = .ok (.invokevirtual 229, 3) := by decide +kernel
theorem d_qn_combineCompound_58 : decode qn_combineCompound_c 58 = .ok (.ifCond .eq 19, 3) := by decide +kernel
theorem d_qn_combineCompound_61 : decode qn_combineCompound_c 61 = .ok (.aload_n 0, 1) := by decide +kernel
theorem d_qn_combineCompound_62 : decode qn_combineCompound_c 62 = .ok (.iload_n 2, 1) := by decide +kernel
theorem d_qn_combineCompound_63 : decode qn_combineCompound_c 63 = .ok (.aload_n 0, 1) := by decide +kernel
theorem d_qn_combineCompound_64 : decode qn_combineCompound_c 64 = .ok (.getfield 9, 3) := by decide +kernel
theorem d_qn_combineCompound_67 : decode qn_combineCompound_c 67 = .ok (.iload_n 1, 1) := by decide +kernel
theorem d_qn_combineCompound_68 : decode qn_combineCompound_c 68 = .ok (.invokevirtual 232, 3) := by decide +kernel
theorem d_qn_combineCompound_71 : decode qn_combineCompound_c 71 = .ok (.invokevirtual 235, 3) := by decide +kernel
theorem d_qn_combineCompound_74 : decode qn_combineCompound_c 74 = .ok (.ifCond .ne 10, 3) := by decide +kernel
theorem d_qn_combineCompound_77 : decode qn_combineCompound_c 77 = .ok (.aload_n 0, 1) := by decide +kernel
theorem d_qn_combineCompound_78 : decode qn_combineCompound_c 78 = .ok (.bipush (-5), 2) := by decide +kernel
theorem d_qn_combineCompound_80 : decode qn_combineCompound_c 80 = .ok (.invokevirtual 99, 3) := by decide +kernel
theorem d_qn_combineCompound_83 : decode qn_combineCompound_c 83 = .ok (.return_, 1) := by decide +kernel
theorem d_qn_combineCompound_84 : decode qn_combineCompound_c 84 = .ok (.aload_n 0, 1) := by decide +kernel
theorem d_qn_combineCompound_85 : decode qn_combineCompound_c 85 = .ok (.iload_n 2, 1) := by decide +kernel
theorem d_qn_combineCompound_86 : decode qn_combineCompound_c 86 = .ok (.putfield 61, 3) := by decide +kernel
theorem d_qn_combineCompound_89 : decode qn_combineCompound_c 89 = .ok (.aload_n 0, 1) := by decide +kernel
theorem d_qn_combineCompound_90 : decode qn_combineCompound_c 90 = .ok (.aload_n 0, 1) := by decide +kernel
theorem d_qn_combineCompound_91 : decode qn_combineCompound_c 91 = .ok (.getfield 9, 3) := by decide +kernel
theorem d_qn_combineCompound_94 : decode qn_combineCompound_c 94 = .ok (.iload_n 1, 1) := by decide +kernel
theorem d_qn_combineCompound_95 : decode qn_combineCompound_c 95 = .ok (.invokevirtual 239, 3) := by decide +kernel
theorem d_qn_combineCompound_98 : decode qn_combineCompound_c 98 = .ok (.invokevirtual 77, 3) := by decide +kernel
theorem d_qn_combineCompound_101 : decode qn_combineCompound_c 101 = .ok (.return_, 1) := by decide +kernel
theorem d_qn_combineCurrent_0 : decode qn_combineCurrent_c 0 = .ok (.aload_n 0, 1) := by decide +kernel
theorem d_qn_combineCurrent_1 : decode qn_combineCurrent_c 1 = .ok (.getfield 52, 3) := by decide +kernel
theorem d_qn_combineCurrent_4 : decode qn_combineCurrent_c 4 = .ok (.invokestatic 117, 3) := by decide +kernel
theorem d_qn_combineCurrent_7 : decode qn_combineCurrent_c 7 = .ok (.istore_n 1, 1) := by decide +kernel
theorem d_qn_combineCurrent_8 : decode qn_combineCurrent_c 8 = .ok (.iload_n 1, 1) := by decide +kernel
theorem d_qn_combineCurrent_9 : decode qn_combineCurrent_c 9 = .ok (.bipush 6, 2) := by decide +kernel
theorem d_qn_combineCurrent_11 : decode qn_combineCurrent_c 11 = .ok (.if_icmp .ne 10, 3) := by decide +kernel
theorem d_qn_combineCurrent_14 : decode qn_combineCurrent_c 14 = .ok (.aload_n 0, 1) := by decide +kernel
theorem d_qn_combineCurrent_15 : decode qn_combineCurrent_c 15 = .ok (.invokevirtual 142, 3) := by decide +kernel
theorem d_qn_combineCurrent_18 : decode qn_combineCurrent_c 18 = .ok (.goto 49, 3) := by decide +kernel
theorem d_qn_combineCurrent_21 : decode qn_combineCurrent_c 21 = .ok (.iload_n 1, 1) := by decide +kernel
theorem d_qn_combineCurrent_22 : decode qn_combineCurrent_c 22 = .ok (.iconst 5, 1) := by decide +kernel
theorem d_qn_combineCurrent_23 : decode qn_combineCurrent_c 23 = .ok (.if_icmp .eq 12, 3) := by decide +kernel
theorem d_qn_combineCurrent_26 : decode qn_combineCurrent_c 26 = .ok (.aload_n 0, 1) := by decide +kernel
theorem d_qn_combineCurrent_27 : decode qn_combineCurrent_c 27 = .ok (.bipush (-7), 2) := by decide +kernel
theorem d_qn_combineCurrent_29 : decode qn_combineCurrent_c 29 = .ok (.invokevirtual 99, 3) := by decide +kernel
theorem d_qn_combineCurrent_32 : decode qn_combineCurrent_c 32 = .ok (.goto 35, 3) := by decide +kernel
theorem d_qn_combineCurrent_35 : decode qn_combineCurrent_c 35 = .ok (.aload_n 0, 1) := by decide +kernel
theorem d_qn_combineCurrent_36 : decode qn_combineCurrent_c 36 = .ok (.getfield 52, 3) := by decide +kernel
theorem d_qn_combineCurrent_39 : decode qn_combineCurrent_c 39 = .ok (.invokestatic 88, 3) := by decide +kernel
theorem d_qn_combineCurrent_42 : decode qn_combineCurrent_c 42 = .ok (.invokestatic 145, 3) := by decide +kernel
theorem d_qn_combineCurrent_45 : decode qn_combineCurrent_c 45 = .ok (.ifCond .eq 11, 3) := by decide +kernel
theorem d_qn_combineCurrent_48 : decode qn_combineCurrent_c 48 = .ok (.aload_n 0, 1) := by decide +kernel
theorem d_qn_combineCurrent_49 : decode qn_combineCurrent_c 49 = .ok (.iconst 2, 1) := by decide +kernel
theorem d_qn_combineCurrent_50 : decode qn_combineCurrent_c 50 = .ok (.putfield 45, 3) := by decide +kernel
theorem d_qn_combineCurrent_53 : decode qn_combineCurrent_c 53 = .ok (.goto 14, 3) := by decide +kernel
theorem d_qn_combineCurrent_56 : decode qn_combineCurrent_c 56 = .ok (.aload_n 0, 1) := by decide +kernel
theorem d_qn_combineCurrent_57 : decode qn_combineCurrent_c 57 = .ok (.aload_n 0, 1) := by decide +kernel
theorem d_qn_combineCurrent_58 : decode qn_combineCurrent_c 58 = .ok (.getfield 52, 3) := by decide +kernel
theorem d_qn_combineCurrent_61 : decode qn_combineCurrent_c 61 = .ok (.invokestatic 88, 3) := by decide +kernel
theorem d_qn_combineCurrent_64 : decode qn_combineCurrent_c 64 = .ok (.invokevirtual 149, 3) := by decide +kernel
theorem d_qn_combineCurrent_67 : decode qn_combineCurrent_c 67 = .ok (.return_, 1) := by decide +kernel
theorem d_qn_hasDueCount_0 : decode qn_hasDueCount_c 0 = .ok (.iload_n 1, 1) := by decide +kernel
theorem d_qn_hasDueCount_1 : decode qn_hasDueCount_c 1 = .ok (.ifCond .lt 16, 3) := by decide +kernel
theorem d_qn_hasDueCount_4 : decode qn_hasDueCount_c 4 = .ok (.iload_n 1, 1) := by decide +kernel
theorem d_qn_hasDueCount_5 : decode qn_hasDueCount_c 5 = .ok (.getstatic 262, 3) := by decide +kernel
theorem d_qn_hasDueCount_8 : decode qn_hasDueCount_c 8 = .ok (.arraylength, 1) := by decide +kernel
theorem d_qn_hasDueCount_9 : decode qn_hasDueCount_c 9 = .ok (.if_icmp .ge 8, 3) := by decide +kernel
theorem d_qn_hasDueCount_12 : decode qn_hasDueCount_c 12 = .ok (.iload_n 2, 1) := by decide +kernel
theorem d_qn_hasDueCount_13 : decode qn_hasDueCount_c 13 = .ok (.iconst (-1), 1) := by decide +kernel
theorem d_qn_hasDueCount_14 : decode qn_hasDueCount_c 14 = .ok (.if_icmp .ne 5, 3) := by decide +kernel
theorem d_qn_hasDueCount_17 : decode qn_hasDueCount_c 17 = .ok (.iconst 0, 1) := by decide +kernel
theorem d_qn_hasDueCount_18 : decode qn_hasDueCount_c 18 = .ok (.ireturn, 1) := by decide +kernel
theorem d_qn_hasDueCount_19 : decode qn_hasDueCount_c 19 = .ok (.getstatic 262, 3) := by decide +kernel
theorem d_qn_hasDueCount_22 : decode qn_hasDueCount_c 22 = .ok (.iload_n 1, 1) := by decide +kernel
theorem d_qn_hasDueCount_23 : decode qn_hasDueCount_c 23 = .ok (.iaload, 1) := by decide +kernel
theorem d_qn_hasDueCount_24 : decode qn_hasDueCount_c 24 = .ok (.iload_n 2, 1) := by decide +kernel
theorem d_qn_hasDueCount_25 : decode qn_hasDueCount_c 25 = .ok (.if_icmp .eq 12, 3) := by decide +kernel
theorem d_qn_hasDueCount_28 : decode qn_hasDueCount_c 28 = .ok (.getstatic 262, 3) := by decide +kernel
theorem d_qn_hasDueCount_31 : decode qn_hasDueCount_c 31 = .ok (.iload_n 1, 1) := by decide +kernel
theorem d_qn_hasDueCount_32 : decode qn_hasDueCount_c 32 = .ok (.iaload, 1) := by decide +kernel
theorem d_qn_hasDueCount_33 : decode qn_hasDueCount_c 33 = .ok (.iconst (-1), 1) := by decide +kernel
theorem d_qn_hasDueCount_34 : decode qn_hasDueCount_c 34 = .ok (.if_icmp .ne 7, 3) := by decide +kernel
theorem d_qn_hasDueCount_37 : decode qn_hasDueCount_c 37 = .ok (.iconst 1, 1) := by decide +kernel
theorem d_qn_hasDueCount_38 : decode qn_hasDueCount_c 38 = .ok (.goto 4, 3) := by decide +kernel
theorem d_qn_hasDueCount_41 : decode qn_hasDueCount_c 41 = .ok (.iconst 0, 1) := by decide +kernel
theorem d_qn_hasDueCount_42 : decode qn_hasDueCount_c 42 = .ok (.ireturn, 1) := by decide +kernel
theorem d_qh_elementOf_0 : decode qh_elementOf_c 0 = .ok (.lload_n 1, 1) := by decide +kernel
theorem d_qh_elementOf_1 : decode qh_elementOf_c 1 = .ok (.lstore 4, 2) := by decide +kernel
theorem d_qh_elementOf_3 : decode qh_elementOf_c 3 = .ok (.iconst 0, 1) := by decide +kernel
theorem d_qh_elementOf_4 : decode qh_elementOf_c 4 = .ok (.istore 6, 2) := by decide +kernel
theorem d_qh_elementOf_6 : decode qh_elementOf_c 6 = .ok (.iload 6, 2) := by decide +kernel
theorem d_qh_elementOf_8 : decode qh_elementOf_c 8 = .ok (.iload_n 3, 1) := by decide +kernel
theorem d_qh_elementOf_9 : decode qh_elementOf_c 9 = .ok (.if_icmp .ge 20, 3) := by decide +kernel
theorem d_qh_elementOf_12 : decode qh_elementOf_c 12 = .ok (.aload_n 0, 1) := by decide +kernel
theorem d_qh_elementOf_13 : decode qh_elementOf_c 13 = .ok (.lload 4, 2) := by decide +kernel
theorem d_qh_elementOf_15 : decode qh_elementOf_c 15 = .ok (.invokestatic 53, 3) := by decide +kernel
theorem d_qh_elementOf_18 : decode qh_elementOf_c 18 = .ok (.invokevirtual 61, 3) := by decide +kernel
theorem d_qh_elementOf_21 : decode qh_elementOf_c 21 = .ok (.lstore 4, 2) := by decide +kernel
theorem d_qh_elementOf_23 : decode qh_elementOf_c 23 = .ok (.iinc 6 1, 3) := by decide +kernel
theorem d_qh_elementOf_26 : decode qh_elementOf_c 26 = .ok (.goto (-20), 3) := by decide +kernel
theorem d_qh_elementOf_29 : decode qh_elementOf_c 29 = .ok (.aload_n 0, 1) := by decide +kernel
theorem d_qh_elementOf_30 : decode qh_elementOf_c 30 = .ok (.lload 4, 2) := by decide +kernel
theorem d_qh_elementOf_32 : decode qh_elementOf_c 32 = .ok (.invokestatic 53, 3) := by decide +kernel
theorem d_qh_elementOf_35 : decode qh_elementOf_c 35 = .ok (.invokevirtual 57, 3) := by decide +kernel
theorem d_qh_elementOf_38 : decode qh_elementOf_c 38 = .ok (.lreturn, 1) := by decide +kernel
theorem d_qn_operand_0 : decode qn_operand_c 0 = .ok (.aload_n 0, 1) := by decide +kernel
theorem d_qn_operand_1 : decode qn_operand_c 1 = .ok (.getfield 9, 3) := by decide +kernel
theorem d_qn_operand_4 : decode qn_operand_c 4 = .ok (.aload_n 0, 1) := by decide +kernel
theorem d_qn_operand_5 : decode qn_operand_c 5 = .ok (.getfield 56, 3) := by decide +kernel
theorem d_qn_operand_8 : decode qn_operand_c 8 = .ok (.iload_n 1, 1) := by decide +kernel
theorem d_qn_operand_9 : decode qn_operand_c 9 = .ok (.invokevirtual 289, 3) := by decide +kernel
theorem d_qn_operand_12 : decode qn_operand_c 12 = .ok (.lreturn, 1) := by decide +kernel
theorem d_qt_hasFound_0 : decode qt_hasFound_c 0 = .ok (.iconst 0, 1) := by decide +kernel
theorem d_qt_hasFound_1 : decode qt_hasFound_c 1 = .ok (.istore_n 2, 1) := by decide +kernel
theorem d_qt_hasFound_2 : decode qt_hasFound_c 2 = .ok (.iload_n 2, 1) := by decide +kernel
theorem d_qt_hasFound_3 : decode qt_hasFound_c 3 = .ok (.aload_n 0, 1) := by decide +kernel
theorem d_qt_hasFound_4 : decode qt_hasFound_c 4 = .ok (.getfield 33, 3) := by decide +kernel
theorem d_qt_hasFound_7 : decode qt_hasFound_c 7 = .ok (.if_icmp .ge 27, 3) := by decide +kernel
theorem d_qt_hasFound_10 : decode qt_hasFound_c 10 = .ok (.iload_n 2, 1) := by decide +kernel
theorem d_qt_hasFound_11 : decode qt_hasFound_c 11 = .ok (.bipush 100, 2) := by decide +kernel
theorem d_qt_hasFound_13 : decode qt_hasFound_c 13 = .ok (.if_icmp .ge 21, 3) := by decide +kernel
theorem d_qt_hasFound_16 : decode qt_hasFound_c 16 = .ok (.aload_n 0, 1) := by decide +kernel
theorem d_qt_hasFound_17 : decode qt_hasFound_c 17 = .ok (.getfield 22, 3) := by decide +kernel
theorem d_qt_hasFound_20 : decode qt_hasFound_c 20 = .ok (.iload_n 2, 1) := by decide +kernel
theorem d_qt_hasFound_21 : decode qt_hasFound_c 21 = .ok (.iaload, 1) := by decide +kernel
theorem d_qt_hasFound_22 : decode qt_hasFound_c 22 = .ok (.iload_n 1, 1) := by decide +kernel
theorem d_qt_hasFound_23 : decode qt_hasFound_c 23 = .ok (.if_icmp .ne 5, 3) := by decide +kernel
theorem d_qt_hasFound_26 : decode qt_hasFound_c 26 = .ok (.iconst 1, 1) := by decide +kernel
theorem d_qt_hasFound_27 : decode qt_hasFound_c 27 = .ok (.ireturn, 1) := by decide +kernel
theorem d_qt_hasFound_28 : decode qt_hasFound_c 28 = .ok (.iinc 2 1, 3) := by decide +kernel
theorem d_qt_hasFound_31 : decode qt_hasFound_c 31 = .ok (.goto (-29), 3) := by decide +kernel
theorem d_qt_hasFound_34 : decode qt_hasFound_c 34 = .ok (.iconst 0, 1) := by decide +kernel
theorem d_qt_hasFound_35 : decode qt_hasFound_c 35 = .ok (.ireturn, 1) := by decide +kernel
theorem d_qt_isParameterTree_0 : decode qt_isParameterTree_c 0 = .ok (.aload_n 0, 1) := by decide +kernel
theorem d_qt_isParameterTree_1 : decode qt_isParameterTree_c 1 = .ok (.lload_n 1, 1) := by decide +kernel
theorem d_qt_isParameterTree_2 : decode qt_isParameterTree_c 2 = .ok (.ldc2_w 36, 3) := by decide +kernel
theorem d_qt_isParameterTree_5 : decode qt_isParameterTree_c 5 = .ok (.invokevirtual 38, 3) := by decide +kernel
theorem d_qt_isParameterTree_8 : decode qt_isParameterTree_c 8 = .ok (.iconst 0, 1) := by decide +kernel
theorem d_qt_isParameterTree_9 : decode qt_isParameterTree_c 9 = .ok (.istore_n 3, 1) := by decide +kernel
theorem d_qt_isParameterTree_10 : decode qt_isParameterTree_c 10 = .ok (.iconst 0, 1) := by decide +kernel
theorem d_qt_isParameterTree_11 : decode qt_isParameterTree_c 11 = .ok (.istore 4, 2) := by decide +kernel
theorem d_qt_isParameterTree_13 : decode qt_isParameterTree_c 13 = .ok (.iload 4, 2) := by decide +kernel
theorem d_qt_isParameterTree_15 : decode qt_isParameterTree_c 15 = .ok (.sipush 201, 3) := by decide +kernel
theorem d_qt_isParameterTree_18 : decode qt_isParameterTree_c 18 = .ok (.if_icmp .ge 148, 3) := by decide +kernel
theorem d_qt_isParameterTree_21 : decode qt_isParameterTree_c 21 = .ok (.aload_n 0, 1) := by decide +kernel
theorem d_qt_isParameterTree_22 : decode qt_isParameterTree_c 22 = .ok (.getfield 29, 3) := by decide +kernel
theorem d_qt_isParameterTree_25 : decode qt_isParameterTree_c 25 = .ok (.ifCond .le 141, 3) := by decide +kernel
theorem d_qt_isParameterTree_28 : decode qt_isParameterTree_c 28 = .ok (.aload_n 0, 1) := by decide +kernel
theorem d_qt_isParameterTree_29 : decode qt_isParameterTree_c 29 = .ok (.invokevirtual 42, 3) := by decide +kernel
theorem d_qt_isParameterTree_32 : decode qt_isParameterTree_c 32 = .ok (.lstore 5, 2) := by decide +kernel
theorem d_qt_isParameterTree_34 : decode qt_isParameterTree_c 34 = .ok (.lload 5, 2) := by decide +kernel
theorem d_qt_isParameterTree_36 : decode qt_isParameterTree_c 36 = .ok (.invokestatic 46, 3) := by decide +kernel
theorem d_qt_isParameterTree_39 : decode qt_isParameterTree_c 39 = .ok (.tableswitch 119 2 8 #[87, 116, 41, 119, 119, 119, 116], 41) := by decide +kernel
theorem d_qt_isParameterTree_80 : decode qt_isParameterTree_c 80 = .ok (.iinc 3 1, 3) := by decide +kernel
theorem d_qt_isParameterTree_83 : decode qt_isParameterTree_c 83 = .ok (.iload_n 3, 1) := by decide +kernel
theorem d_qt_isParameterTree_84 : decode qt_isParameterTree_c 84 = .ok (.bipush 100, 2) := by decide +kernel
theorem d_qt_isParameterTree_86 : decode qt_isParameterTree_c 86 = .ok (.if_icmp .le 5, 3) := by decide +kernel
theorem d_qt_isParameterTree_89 : decode qt_isParameterTree_c 89 = .ok (.iconst 0, 1) := by decide +kernel
theorem d_qt_isParameterTree_90 : decode qt_isParameterTree_c 90 = .ok (.ireturn, 1) := by decide +kernel
theorem d_qt_isParameterTree_91 : decode qt_isParameterTree_c 91 = .ok (.aload_n 0, 1) := by decide +kernel
theorem d_qt_isParameterTree_92 : decode qt_isParameterTree_c 92 = .ok (.aload_n 0, 1) := by decide +kernel
theorem d_qt_isParameterTree_93 : decode qt_isParameterTree_c 93 = .ok (.getfield 9, 3) := by decide +kernel
theorem d_qt_isParameterTree_96 : decode qt_isParameterTree_c 96 = .ok (.lload 5, 2) := by decide +kernel
theorem d_qt_isParameterTree_98 : decode qt_isParameterTree_c 98 = .ok (.invokevirtual 50, 3) := by decide +kernel
theorem d_qt_isParameterTree_101 : decode qt_isParameterTree_c 101 = .ok (.ldc2_w 36, 3) := by decide +kernel
theorem d_qt_isParameterTree_104 : decode qt_isParameterTree_c 104 = .ok (.invokevirtual 56, 3) := by decide +kernel
theorem d_qt_isParameterTree_107 : decode qt_isParameterTree_c 107 = .ok (.aload_n 0, 1) := by decide +kernel
theorem d_qt_isParameterTree_108 : decode qt_isParameterTree_c 108 = .ok (.aload_n 0, 1) := by decide +kernel
theorem d_qt_isParameterTree_109 : decode qt_isParameterTree_c 109 = .ok (.getfield 9, 3) := by decide +kernel
theorem d_qt_isParameterTree_112 : decode qt_isParameterTree_c 112 = .ok (.lload 5, 2) := by decide +kernel
theorem d_qt_isParameterTree_114 : decode qt_isParameterTree_c 114 = .ok (.invokevirtual 59, 3) := by decide +kernel
theorem d_qt_isParameterTree_117 : decode qt_isParameterTree_c 117 = .ok (.ldc2_w 36, 3) := by decide +kernel
theorem d_qt_isParameterTree_120 : decode qt_isParameterTree_c 120 = .ok (.invokevirtual 56, 3) := by decide +kernel
theorem d_qt_isParameterTree_123 : decode qt_isParameterTree_c 123 = .ok (.goto 37, 3) := by decide +kernel
theorem d_qt_isParameterTree_126 : decode qt_isParameterTree_c 126 = .ok (.aload_n 0, 1) := by decide +kernel
theorem d_qt_isParameterTree_127 : decode qt_isParameterTree_c 127 = .ok (.lload 5, 2) := by decide +kernel
theorem d_qt_isParameterTree_129 : decode qt_isParameterTree_c 129 = .ok (.invokestatic 62, 3) := by decide +kernel
theorem d_qt_isParameterTree_132 : decode qt_isParameterTree_c 132 = .ok (.invokevirtual 65, 3) := by decide +kernel
theorem d_qt_isParameterTree_135 : decode qt_isParameterTree_c 135 = .ok (.ifCond .eq 5, 3) := by decide +kernel
theorem d_qt_isParameterTree_138 : decode qt_isParameterTree_c 138 = .ok (.iconst 0, 1) := by decide +kernel
theorem d_qt_isParameterTree_139 : decode qt_isParameterTree_c 139 = .ok (.ireturn, 1) := by decide +kernel
theorem d_qt_isParameterTree_140 : decode qt_isParameterTree_c 140 = .ok (.aload_n 0, 1) := by decide +kernel
theorem d_qt_isParameterTree_141 : decode qt_isParameterTree_c 141 = .ok (.lload 5, 2) := by decide +kernel
theorem d_qt_isParameterTree_143 : decode qt_isParameterTree_c 143 = .ok (.invokestatic 62, 3) := by decide +kernel
theorem d_qt_isParameterTree_146 : decode qt_isParameterTree_c 146 = .ok (.ldc2_w 36, 3) := by decide +kernel
theorem d_qt_isParameterTree_149 : decode qt_isParameterTree_c 149 = .ok (.invokevirtual 69, 3) := by decide +kernel
theorem d_qt_isParameterTree_152 : decode qt_isParameterTree_c 152 = .ok (.goto 8, 3) := by decide +kernel
theorem d_qt_isParameterTree_155 : decode qt_isParameterTree_c 155 = .ok (.goto 5, 3) := by decide +kernel
theorem d_qt_isParameterTree_158 : decode qt_isParameterTree_c 158 = .ok (.iconst 0, 1) := by decide +kernel
theorem d_qt_isParameterTree_159 : decode qt_isParameterTree_c 159 = .ok (.ireturn, 1) := by decide +kernel
theorem d_qt_isParameterTree_160 : decode qt_isParameterTree_c 160 = .ok (.iinc 4 1, 3) := by decide +kernel
theorem d_qt_isParameterTree_163 : decode qt_isParameterTree_c 163 = .ok (.goto (-150), 3) := by decide +kernel
theorem d_qt_isParameterTree_166 : decode qt_isParameterTree_c 166 = .ok (.aload_n 0, 1) := by decide +kernel
theorem d_qt_isParameterTree_167 : decode qt_isParameterTree_c 167 = .ok (.getfield 29, 3) := by decide +kernel
theorem d_qt_isParameterTree_170 : decode qt_isParameterTree_c 170 = .ok (.ifCond .ne 7, 3) := by decide +kernel
theorem d_qt_isParameterTree_173 : decode qt_isParameterTree_c 173 = .ok (.iconst 1, 1) := by decide +kernel
theorem d_qt_isParameterTree_174 : decode qt_isParameterTree_c 174 = .ok (.goto 4, 3) := by decide +kernel
theorem d_qt_isParameterTree_177 : decode qt_isParameterTree_c 177 = .ok (.iconst 0, 1) := by decide +kernel
theorem d_qt_isParameterTree_178 : decode qt_isParameterTree_c 178 = .ok (.ireturn, 1) := by decide +kernel
theorem d_qn_canNameCaller_0 : decode qn_canNameCaller_c 0 = .ok (.lload_n 1, 1) := by decide +kernel
theorem d_qn_canNameCaller_1 : decode qn_canNameCaller_c 1 = .ok (.invokestatic 117, 3) := by decide +kernel
theorem d_qn_canNameCaller_4 : decode qn_canNameCaller_c 4 = .ok (.istore_n 3, 1) := by decide +kernel
theorem d_qn_canNameCaller_5 : decode qn_canNameCaller_c 5 = .ok (.lload_n 1, 1) := by decide +kernel
theorem d_qn_canNameCaller_6 : decode qn_canNameCaller_c 6 = .ok (.ldc2_w 284, 3) := by decide +kernel
theorem d_qn_canNameCaller_9 : decode qn_canNameCaller_c 9 = .ok (.lcmp, 1) := by decide +kernel
theorem d_qn_canNameCaller_10 : decode qn_canNameCaller_c 10 = .ok (.ifCond .eq 22, 3) := by decide +kernel
theorem d_qn_canNameCaller_13 : decode qn_canNameCaller_c 13 = .ok (.iload_n 3, 1) := by decide +kernel
theorem d_qn_canNameCaller_14 : decode qn_canNameCaller_c 14 = .ok (.iconst 2, 1) := by decide +kernel
theorem d_qn_canNameCaller_15 : decode qn_canNameCaller_c 15 = .ok (.if_icmp .ne 21, 3) := by decide +kernel
theorem d_qn_canNameCaller_18 : decode qn_canNameCaller_c 18 = .ok (.aload_n 0, 1) := by decide +kernel
theorem d_qn_canNameCaller_19 : decode qn_canNameCaller_c 19 = .ok (.getfield 20, 3) := by decide +kernel
theorem d_qn_canNameCaller_22 : decode qn_canNameCaller_c 22 = .ok (.lload_n 1, 1) := by decide +kernel
theorem d_qn_canNameCaller_23 : decode qn_canNameCaller_c 23 = .ok (.invokestatic 88, 3) := by decide +kernel
theorem d_qn_canNameCaller_26 : decode qn_canNameCaller_c 26 = .ok (.invokevirtual 286, 3) := by decide +kernel
theorem d_qn_canNameCaller_29 : decode qn_canNameCaller_c 29 = .ok (.ifCond .ne 7, 3) := by decide +kernel
theorem d_qn_canNameCaller_32 : decode qn_canNameCaller_c 32 = .ok (.iconst 1, 1) := by decide +kernel
theorem d_qn_canNameCaller_33 : decode qn_canNameCaller_c 33 = .ok (.goto 4, 3) := by decide +kernel
theorem d_qn_canNameCaller_36 : decode qn_canNameCaller_c 36 = .ok (.iconst 0, 1) := by decide +kernel
theorem d_qn_canNameCaller_37 : decode qn_canNameCaller_c 37 = .ok (.ireturn, 1) := by decide +kernel
theorem d_qn_isOperand_0 : decode qn_isOperand_c 0 = .ok (.aload_n 0, 1) := by decide +kernel
theorem d_qn_isOperand_1 : decode qn_isOperand_c 1 = .ok (.getfield 9, 3) := by decide +kernel
theorem d_qn_isOperand_4 : decode qn_isOperand_c 4 = .ok (.aload_n 0, 1) := by decide +kernel
theorem d_qn_isOperand_5 : decode qn_isOperand_c 5 = .ok (.getfield 56, 3) := by decide +kernel
theorem d_qn_isOperand_8 : decode qn_isOperand_c 8 = .ok (.iload_n 1, 1) := by decide +kernel
theorem d_qn_isOperand_9 : decode qn_isOperand_c 9 = .ok (.invokevirtual 289, 3) := by decide +kernel
theorem d_qn_isOperand_12 : decode qn_isOperand_c 12 = .ok (.invokestatic 117, 3) := by decide +kernel
theorem d_qn_isOperand_15 : decode qn_isOperand_c 15 = .ok (.iload_n 2, 1) := by decide +kernel
theorem d_qn_isOperand_16 : decode qn_isOperand_c 16 = .ok (.if_icmp .ne 7, 3) := by decide +kernel
theorem d_qn_isOperand_19 : decode qn_isOperand_c 19 = .ok (.iconst 1, 1) := by decide +kernel
theorem d_qn_isOperand_20 : decode qn_isOperand_c 20 = .ok (.goto 4, 3) := by decide +kernel
theorem d_qn_isOperand_23 : decode qn_isOperand_c 23 = .ok (.iconst 0, 1) := by decide +kernel
theorem d_qn_isOperand_24 : decode qn_isOperand_c 24 = .ok (.ireturn, 1) := by decide +kernel
theorem d_qn_areIntegers_0 : decode qn_areIntegers_c 0 = .ok (.aload_n 0, 1) := by decide +kernel
theorem d_qn_areIntegers_1 : decode qn_areIntegers_c 1 = .ok (.getfield 56, 3) := by decide +kernel
theorem d_qn_areIntegers_4 : decode qn_areIntegers_c 4 = .ok (.lstore_n 1, 1) := by decide +kernel
theorem d_qn_areIntegers_5 : decode qn_areIntegers_c 5 = .ok (.iconst 0, 1) := by decide +kernel
theorem d_qn_areIntegers_6 : decode qn_areIntegers_c 6 = .ok (.istore_n 3, 1) := by decide +kernel
theorem d_qn_areIntegers_7 : decode qn_areIntegers_c 7 = .ok (.lload_n 1, 1) := by decide +kernel
theorem d_qn_areIntegers_8 : decode qn_areIntegers_c 8 = .ok (.ldc2_w 50, 3) := by decide +kernel
theorem d_qn_areIntegers_11 : decode qn_areIntegers_c 11 = .ok (.lcmp, 1) := by decide +kernel
theorem d_qn_areIntegers_12 : decode qn_areIntegers_c 12 = .ok (.ifCond .eq 41, 3) := by decide +kernel
theorem d_qn_areIntegers_15 : decode qn_areIntegers_c 15 = .ok (.iload_n 3, 1) := by decide +kernel
theorem d_qn_areIntegers_16 : decode qn_areIntegers_c 16 = .ok (.sipush 4100, 3) := by decide +kernel
theorem d_qn_areIntegers_19 : decode qn_areIntegers_c 19 = .ok (.if_icmp .ge 34, 3) := by decide +kernel
theorem d_qn_areIntegers_22 : decode qn_areIntegers_c 22 = .ok (.aload_n 0, 1) := by decide +kernel
theorem d_qn_areIntegers_23 : decode qn_areIntegers_c 23 = .ok (.getfield 9, 3) := by decide +kernel
theorem d_qn_areIntegers_26 : decode qn_areIntegers_c 26 = .ok (.lload_n 1, 1) := by decide +kernel
theorem d_qn_areIntegers_27 : decode qn_areIntegers_c 27 = .ok (.invokevirtual 120, 3) := by decide +kernel
theorem d_qn_areIntegers_30 : decode qn_areIntegers_c 30 = .ok (.invokestatic 117, 3) := by decide +kernel
theorem d_qn_areIntegers_33 : decode qn_areIntegers_c 33 = .ok (.ifCond .eq 5, 3) := by decide +kernel
theorem d_qn_areIntegers_36 : decode qn_areIntegers_c 36 = .ok (.iconst 0, 1) := by decide +kernel
theorem d_qn_areIntegers_37 : decode qn_areIntegers_c 37 = .ok (.ireturn, 1) := by decide +kernel
theorem d_qn_areIntegers_38 : decode qn_areIntegers_c 38 = .ok (.aload_n 0, 1) := by decide +kernel
theorem d_qn_areIntegers_39 : decode qn_areIntegers_c 39 = .ok (.getfield 9, 3) := by decide +kernel
theorem d_qn_areIntegers_42 : decode qn_areIntegers_c 42 = .ok (.lload_n 1, 1) := by decide +kernel
theorem d_qn_areIntegers_43 : decode qn_areIntegers_c 43 = .ok (.invokevirtual 124, 3) := by decide +kernel
theorem d_qn_areIntegers_46 : decode qn_areIntegers_c 46 = .ok (.lstore_n 1, 1) := by decide +kernel
theorem d_qn_areIntegers_47 : decode qn_areIntegers_c 47 = .ok (.iinc 3 1, 3) := by decide +kernel
theorem d_qn_areIntegers_50 : decode qn_areIntegers_c 50 = .ok (.goto (-43), 3) := by decide +kernel
theorem d_qn_areIntegers_53 : decode qn_areIntegers_c 53 = .ok (.iconst 1, 1) := by decide +kernel
theorem d_qn_areIntegers_54 : decode qn_areIntegers_c 54 = .ok (.ireturn, 1) := by decide +kernel
theorem d_qw_isCombiner_0 : decode qw_isCombiner_c 0 = .ok (.lload_n 0, 1) := by decide +kernel
theorem d_qw_isCombiner_1 : decode qw_isCombiner_c 1 = .ok (.invokestatic 17, 3) := by decide +kernel
theorem d_qw_isCombiner_4 : decode qw_isCombiner_c 4 = .ok (.iconst 5, 1) := by decide +kernel
theorem d_qw_isCombiner_5 : decode qw_isCombiner_c 5 = .ok (.if_icmp .eq 12, 3) := by decide +kernel
theorem d_qw_isCombiner_8 : decode qw_isCombiner_c 8 = .ok (.lload_n 0, 1) := by decide +kernel
theorem d_qw_isCombiner_9 : decode qw_isCombiner_c 9 = .ok (.invokestatic 17, 3) := by decide +kernel
theorem d_qw_isCombiner_12 : decode qw_isCombiner_c 12 = .ok (.bipush 6, 2) := by decide +kernel
theorem d_qw_isCombiner_14 : decode qw_isCombiner_c 14 = .ok (.if_icmp .ne 7, 3) := by decide +kernel
theorem d_qw_isCombiner_17 : decode qw_isCombiner_c 17 = .ok (.iconst 1, 1) := by decide +kernel
theorem d_qw_isCombiner_18 : decode qw_isCombiner_c 18 = .ok (.goto 4, 3) := by decide +kernel
theorem d_qw_isCombiner_21 : decode qw_isCombiner_c 21 = .ok (.iconst 0, 1) := by decide +kernel
theorem d_qw_isCombiner_22 : decode qw_isCombiner_c 22 = .ok (.ireturn, 1) := by decide +kernel
theorem d_qn_haveDueKinds_0 : decode qn_haveDueKinds_c 0 = .ok (.iload_n 1, 1) := by decide +kernel
theorem d_qn_haveDueKinds_1 : decode qn_haveDueKinds_c 1 = .ok (.tableswitch 233 1 24 #[111, 144, 157, 164, 233, 233, 233, 233, 233, 171, 171, 171, 171, 233, 233, 176, 176, 233, 233, 183, 191, 200, 208, 200], 111) := by decide +kernel
theorem d_qn_haveDueKinds_112 : decode qn_haveDueKinds_c 112 = .ok (.aload_n 0, 1) := by decide +kernel
theorem d_qn_haveDueKinds_113 : decode qn_haveDueKinds_c 113 = .ok (.getfield 20, 3) := by decide +kernel
theorem d_qn_haveDueKinds_116 : decode qn_haveDueKinds_c 116 = .ok (.aload_n 0, 1) := by decide +kernel
theorem d_qn_haveDueKinds_117 : decode qn_haveDueKinds_c 117 = .ok (.iconst 0, 1) := by decide +kernel
theorem d_qn_haveDueKinds_118 : decode qn_haveDueKinds_c 118 = .ok (.invokevirtual 266, 3) := by decide +kernel
theorem d_qn_haveDueKinds_121 : decode qn_haveDueKinds_c 121 = .ok (.invokevirtual 269, 3) := by decide +kernel
theorem d_qn_haveDueKinds_124 : decode qn_haveDueKinds_c 124 = .ok (.ifCond .eq 19, 3) := by decide +kernel
theorem d_qn_haveDueKinds_127 : decode qn_haveDueKinds_c 127 = .ok (.aload_n 0, 1) := by decide +kernel
theorem d_qn_haveDueKinds_128 : decode qn_haveDueKinds_c 128 = .ok (.aload_n 0, 1) := by decide +kernel
theorem d_qn_haveDueKinds_129 : decode qn_haveDueKinds_c 129 = .ok (.iconst 1, 1) := by decide +kernel
theorem d_qn_haveDueKinds_130 : decode qn_haveDueKinds_c 130 = .ok (.invokevirtual 266, 3) := by decide +kernel
theorem d_qn_haveDueKinds_133 : decode qn_haveDueKinds_c 133 = .ok (.invokevirtual 272, 3) := by decide +kernel
theorem d_qn_haveDueKinds_136 : decode qn_haveDueKinds_c 136 = .ok (.ifCond .eq 7, 3) := by decide +kernel
theorem d_qn_haveDueKinds_139 : decode qn_haveDueKinds_c 139 = .ok (.iconst 1, 1) := by decide +kernel
theorem d_qn_haveDueKinds_140 : decode qn_haveDueKinds_c 140 = .ok (.goto 4, 3) := by decide +kernel
theorem d_qn_haveDueKinds_143 : decode qn_haveDueKinds_c 143 = .ok (.iconst 0, 1) := by decide +kernel
theorem d_qn_haveDueKinds_144 : decode qn_haveDueKinds_c 144 = .ok (.ireturn, 1) := by decide +kernel
theorem d_qn_haveDueKinds_145 : decode qn_haveDueKinds_c 145 = .ok (.aload_n 0, 1) := by decide +kernel
theorem d_qn_haveDueKinds_146 : decode qn_haveDueKinds_c 146 = .ok (.getfield 20, 3) := by decide +kernel
theorem d_qn_haveDueKinds_149 : decode qn_haveDueKinds_c 149 = .ok (.aload_n 0, 1) := by decide +kernel
theorem d_qn_haveDueKinds_150 : decode qn_haveDueKinds_c 150 = .ok (.iconst 0, 1) := by decide +kernel
theorem d_qn_haveDueKinds_151 : decode qn_haveDueKinds_c 151 = .ok (.invokevirtual 266, 3) := by decide +kernel
theorem d_qn_haveDueKinds_154 : decode qn_haveDueKinds_c 154 = .ok (.invokevirtual 269, 3) := by decide +kernel
theorem d_qn_haveDueKinds_157 : decode qn_haveDueKinds_c 157 = .ok (.ireturn, 1) := by decide +kernel
theorem d_qn_haveDueKinds_158 : decode qn_haveDueKinds_c 158 = .ok (.aload_n 0, 1) := by decide +kernel
theorem d_qn_haveDueKinds_159 : decode qn_haveDueKinds_c 159 = .ok (.iconst 0, 1) := by decide +kernel
theorem d_qn_haveDueKinds_160 : decode qn_haveDueKinds_c 160 = .ok (.iconst 2, 1) := by decide +kernel
theorem d_qn_haveDueKinds_161 : decode qn_haveDueKinds_c 161 = .ok (.invokevirtual 275, 3) := by decide +kernel
theorem d_qn_haveDueKinds_164 : decode qn_haveDueKinds_c 164 = .ok (.ireturn, 1) := by decide +kernel
theorem d_qn_haveDueKinds_165 : decode qn_haveDueKinds_c 165 = .ok (.aload_n 0, 1) := by decide +kernel
theorem d_qn_haveDueKinds_166 : decode qn_haveDueKinds_c 166 = .ok (.iconst 1, 1) := by decide +kernel
theorem d_qn_haveDueKinds_167 : decode qn_haveDueKinds_c 167 = .ok (.iconst 2, 1) := by decide +kernel
theorem d_qn_haveDueKinds_168 : decode qn_haveDueKinds_c 168 = .ok (.invokevirtual 275, 3) := by decide +kernel
theorem d_qn_haveDueKinds_171 : decode qn_haveDueKinds_c 171 = .ok (.ireturn, 1) := by decide +kernel
theorem d_qn_haveDueKinds_172 : decode qn_haveDueKinds_c 172 = .ok (.aload_n 0, 1) := by decide +kernel
theorem d_qn_haveDueKinds_173 : decode qn_haveDueKinds_c 173 = .ok (.invokevirtual 278, 3) := by decide +kernel
theorem d_qn_haveDueKinds_176 : decode qn_haveDueKinds_c 176 = .ok (.ireturn, 1) := by decide +kernel
theorem d_qn_haveDueKinds_177 : decode qn_haveDueKinds_c 177 = .ok (.aload_n 0, 1) := by decide +kernel
theorem d_qn_haveDueKinds_178 : decode qn_haveDueKinds_c 178 = .ok (.iconst 0, 1) := by decide +kernel
theorem d_qn_haveDueKinds_179 : decode qn_haveDueKinds_c 179 = .ok (.iconst 4, 1) := by decide +kernel
theorem d_qn_haveDueKinds_180 : decode qn_haveDueKinds_c 180 = .ok (.invokevirtual 275, 3) := by decide +kernel
theorem d_qn_haveDueKinds_183 : decode qn_haveDueKinds_c 183 = .ok (.ireturn, 1) := by decide +kernel
theorem d_qn_haveDueKinds_184 : decode qn_haveDueKinds_c 184 = .ok (.aload_n 0, 1) := by decide +kernel
theorem d_qn_haveDueKinds_185 : decode qn_haveDueKinds_c 185 = .ok (.iconst 1, 1) := by decide +kernel
theorem d_qn_haveDueKinds_186 : decode qn_haveDueKinds_c 186 = .ok (.bipush 7, 2) := by decide +kernel
theorem d_qn_haveDueKinds_188 : decode qn_haveDueKinds_c 188 = .ok (.invokevirtual 275, 3) := by decide +kernel
theorem d_qn_haveDueKinds_191 : decode qn_haveDueKinds_c 191 = .ok (.ireturn, 1) := by decide +kernel
theorem d_qn_haveDueKinds_192 : decode qn_haveDueKinds_c 192 = .ok (.aload_n 0, 1) := by decide +kernel
theorem d_qn_haveDueKinds_193 : decode qn_haveDueKinds_c 193 = .ok (.iconst 0, 1) := by decide +kernel
theorem d_qn_haveDueKinds_194 : decode qn_haveDueKinds_c 194 = .ok (.invokevirtual 266, 3) := by decide +kernel
theorem d_qn_haveDueKinds_197 : decode qn_haveDueKinds_c 197 = .ok (.invokestatic 281, 3) := by decide +kernel
theorem d_qn_haveDueKinds_200 : decode qn_haveDueKinds_c 200 = .ok (.ireturn, 1) := by decide +kernel
theorem d_qn_haveDueKinds_201 : decode qn_haveDueKinds_c 201 = .ok (.aload_n 0, 1) := by decide +kernel
theorem d_qn_haveDueKinds_202 : decode qn_haveDueKinds_c 202 = .ok (.iconst 0, 1) := by decide +kernel
theorem d_qn_haveDueKinds_203 : decode qn_haveDueKinds_c 203 = .ok (.bipush 6, 2) := by decide +kernel
theorem d_qn_haveDueKinds_205 : decode qn_haveDueKinds_c 205 = .ok (.invokevirtual 275, 3) := by decide +kernel
theorem d_qn_haveDueKinds_208 : decode qn_haveDueKinds_c 208 = .ok (.ireturn, 1) := by decide +kernel
theorem d_qn_haveDueKinds_209 : decode qn_haveDueKinds_c 209 = .ok (.iload_n 2, 1) := by decide +kernel
theorem d_qn_haveDueKinds_210 : decode qn_haveDueKinds_c 210 = .ok (.ifCond .eq 18, 3) := by decide +kernel
theorem d_qn_haveDueKinds_213 : decode qn_haveDueKinds_c 213 = .ok (.iload_n 2, 1) := by decide +kernel
theorem d_qn_haveDueKinds_214 : decode qn_haveDueKinds_c 214 = .ok (.iconst 1, 1) := by decide +kernel
theorem d_qn_haveDueKinds_215 : decode qn_haveDueKinds_c 215 = .ok (.if_icmp .ne 17, 3) := by decide +kernel
theorem d_qn_haveDueKinds_218 : decode qn_haveDueKinds_c 218 = .ok (.aload_n 0, 1) := by decide +kernel
theorem d_qn_haveDueKinds_219 : decode qn_haveDueKinds_c 219 = .ok (.iconst 0, 1) := by decide +kernel
theorem d_qn_haveDueKinds_220 : decode qn_haveDueKinds_c 220 = .ok (.bipush 7, 2) := by decide +kernel
theorem d_qn_haveDueKinds_222 : decode qn_haveDueKinds_c 222 = .ok (.invokevirtual 275, 3) := by decide +kernel
theorem d_qn_haveDueKinds_225 : decode qn_haveDueKinds_c 225 = .ok (.ifCond .eq 7, 3) := by decide +kernel
theorem d_qn_haveDueKinds_228 : decode qn_haveDueKinds_c 228 = .ok (.iconst 1, 1) := by decide +kernel
theorem d_qn_haveDueKinds_229 : decode qn_haveDueKinds_c 229 = .ok (.goto 4, 3) := by decide +kernel
theorem d_qn_haveDueKinds_232 : decode qn_haveDueKinds_c 232 = .ok (.iconst 0, 1) := by decide +kernel
theorem d_qn_haveDueKinds_233 : decode qn_haveDueKinds_c 233 = .ok (.ireturn, 1) := by decide +kernel
theorem d_qn_haveDueKinds_234 : decode qn_haveDueKinds_c 234 = .ok (.iconst 1, 1) := by decide +kernel
theorem d_qn_haveDueKinds_235 : decode qn_haveDueKinds_c 235 = .ok (.ireturn, 1) := by decide +kernel
theorem d_qh_addOperative_0 : decode qh_addOperative_c 0 = .ok (.lload_n 1, 1) := by decide +kernel
theorem d_qh_addOperative_1 : decode qh_addOperative_c 1 = .ok (.bipush 7, 2) := by decide +kernel
theorem d_qh_addOperative_3 : decode qh_addOperative_c 3 = .ok (.lshl, 1) := by decide +kernel
theorem d_qh_addOperative_4 : decode qh_addOperative_c 4 = .ok (.iload_n 3, 1) := by decide +kernel
theorem d_qh_addOperative_5 : decode qh_addOperative_c 5 = .ok (.i2l, 1) := by decide +kernel
theorem d_qh_addOperative_6 : decode qh_addOperative_c 6 = .ok (.lor, 1) := by decide +kernel
theorem d_qh_addOperative_7 : decode qh_addOperative_c 7 = .ok (.lstore 7, 2) := by decide +kernel
theorem d_qh_addOperative_9 : decode qh_addOperative_c 9 = .ok (.aload_n 0, 1) := by decide +kernel
theorem d_qh_addOperative_10 : decode qh_addOperative_c 10 = .ok (.lload 4, 2) := by decide +kernel
theorem d_qh_addOperative_12 : decode qh_addOperative_c 12 = .ok (.lload 7, 2) := by decide +kernel
theorem d_qh_addOperative_14 : decode qh_addOperative_c 14 = .ok (.bipush 13, 2) := by decide +kernel
theorem d_qh_addOperative_16 : decode qh_addOperative_c 16 = .ok (.lshl, 1) := by decide +kernel
theorem d_qh_addOperative_17 : decode qh_addOperative_c 17 = .ok (.iload 6, 2) := by decide +kernel
theorem d_qh_addOperative_19 : decode qh_addOperative_c 19 = .ok (.i2l, 1) := by decide +kernel
theorem d_qh_addOperative_20 : decode qh_addOperative_c 20 = .ok (.lor, 1) := by decide +kernel
theorem d_qh_addOperative_21 : decode qh_addOperative_c 21 = .ok (.invokevirtual 49, 3) := by decide +kernel
theorem d_qh_addOperative_24 : decode qh_addOperative_c 24 = .ok (.ireturn, 1) := by decide +kernel
theorem d_qn_giveBackNew_0 : decode qn_giveBackNew_c 0 = .ok (.iload_n 2, 1) := by decide +kernel
theorem d_qn_giveBackNew_1 : decode qn_giveBackNew_c 1 = .ok (.iconst (-1), 1) := by decide +kernel
theorem d_qn_giveBackNew_2 : decode qn_giveBackNew_c 2 = .ok (.if_icmp .ne 12, 3) := by decide +kernel
theorem d_qn_giveBackNew_5 : decode qn_giveBackNew_c 5 = .ok (.aload_n 0, 1) := by decide +kernel
theorem d_qn_giveBackNew_6 : decode qn_giveBackNew_c 6 = .ok (.bipush (-5), 2) := by decide +kernel
theorem d_qn_giveBackNew_8 : decode qn_giveBackNew_c 8 = .ok (.invokevirtual 99, 3) := by decide +kernel
theorem d_qn_giveBackNew_11 : decode qn_giveBackNew_c 11 = .ok (.goto 13, 3) := by decide +kernel
theorem d_qn_giveBackNew_14 : decode qn_giveBackNew_c 14 = .ok (.aload_n 0, 1) := by decide +kernel
theorem d_qn_giveBackNew_15 : decode qn_giveBackNew_c 15 = .ok (.iload_n 1, 1) := by decide +kernel
theorem d_qn_giveBackNew_16 : decode qn_giveBackNew_c 16 = .ok (.iload_n 2, 1) := by decide +kernel
theorem d_qn_giveBackNew_17 : decode qn_giveBackNew_c 17 = .ok (.i2l, 1) := by decide +kernel
theorem d_qn_giveBackNew_18 : decode qn_giveBackNew_c 18 = .ok (.invokestatic 102, 3) := by decide +kernel
theorem d_qn_giveBackNew_21 : decode qn_giveBackNew_c 21 = .ok (.invokevirtual 106, 3) := by decide +kernel
theorem d_qn_giveBackNew_24 : decode qn_giveBackNew_c 24 = .ok (.return_, 1) := by decide +kernel
theorem d_qn_makeOperative_0 : decode qn_makeOperative_c 0 = .ok (.lload_n 3, 1) := by decide +kernel
theorem d_qn_makeOperative_1 : decode qn_makeOperative_c 1 = .ok (.ldc2_w 284, 3) := by decide +kernel
theorem d_qn_makeOperative_4 : decode qn_makeOperative_c 4 = .ok (.lcmp, 1) := by decide +kernel
theorem d_qn_makeOperative_5 : decode qn_makeOperative_c 5 = .ok (.ifCond .ne 8, 3) := by decide +kernel
theorem d_qn_makeOperative_8 : decode qn_makeOperative_c 8 = .ok (.bipush 127, 2) := by decide +kernel
theorem d_qn_makeOperative_10 : decode qn_makeOperative_c 10 = .ok (.goto 7, 3) := by decide +kernel
theorem d_qn_makeOperative_13 : decode qn_makeOperative_c 13 = .ok (.lload_n 3, 1) := by decide +kernel
theorem d_qn_makeOperative_14 : decode qn_makeOperative_c 14 = .ok (.invokestatic 88, 3) := by decide +kernel
theorem d_qn_makeOperative_17 : decode qn_makeOperative_c 17 = .ok (.istore 7, 2) := by decide +kernel
theorem d_qn_makeOperative_19 : decode qn_makeOperative_c 19 = .ok (.aload_n 0, 1) := by decide +kernel
theorem d_qn_makeOperative_20 : decode qn_makeOperative_c 20 = .ok (.iconst 5, 1) := by decide +kernel
theorem d_qn_makeOperative_21 : decode qn_makeOperative_c 21 = .ok (.aload_n 0, 1) := by decide +kernel
theorem d_qn_makeOperative_22 : decode qn_makeOperative_c 22 = .ok (.getfield 9, 3) := by decide +kernel
theorem d_qn_makeOperative_25 : decode qn_makeOperative_c 25 = .ok (.lload_n 1, 1) := by decide +kernel
theorem d_qn_makeOperative_26 : decode qn_makeOperative_c 26 = .ok (.iload 7, 2) := by decide +kernel
theorem d_qn_makeOperative_28 : decode qn_makeOperative_c 28 = .ok (.lload 5, 2) := by decide +kernel
theorem d_qn_makeOperative_30 : decode qn_makeOperative_c 30 = .ok (.aload_n 0, 1) := by decide +kernel
theorem d_qn_makeOperative_31 : decode qn_makeOperative_c 31 = .ok (.getfield 61, 3) := by decide +kernel
theorem d_qn_makeOperative_34 : decode qn_makeOperative_c 34 = .ok (.invokevirtual 300, 3) := by decide +kernel
theorem d_qn_makeOperative_37 : decode qn_makeOperative_c 37 = .ok (.invokevirtual 304, 3) := by decide +kernel
theorem d_qn_makeOperative_40 : decode qn_makeOperative_c 40 = .ok (.return_, 1) := by decide +kernel
theorem d_qh_addApplicative_0 : decode qh_addApplicative_c 0 = .ok (.aload_n 0, 1) := by decide +kernel
theorem d_qh_addApplicative_1 : decode qh_addApplicative_c 1 = .ok (.lload_n 1, 1) := by decide +kernel
theorem d_qh_addApplicative_2 : decode qh_addApplicative_c 2 = .ok (.lconst 0, 1) := by decide +kernel
theorem d_qh_addApplicative_3 : decode qh_addApplicative_c 3 = .ok (.invokevirtual 49, 3) := by decide +kernel
theorem d_qh_addApplicative_6 : decode qh_addApplicative_c 6 = .ok (.ireturn, 1) := by decide +kernel
theorem d_qn_makeFunction_0 : decode qn_makeFunction_c 0 = .ok (.aload_n 0, 1) := by decide +kernel
theorem d_qn_makeFunction_1 : decode qn_makeFunction_c 1 = .ok (.getfield 9, 3) := by decide +kernel
theorem d_qn_makeFunction_4 : decode qn_makeFunction_c 4 = .ok (.lload_n 1, 1) := by decide +kernel
theorem d_qn_makeFunction_5 : decode qn_makeFunction_c 5 = .ok (.bipush 127, 2) := by decide +kernel
theorem d_qn_makeFunction_7 : decode qn_makeFunction_c 7 = .ok (.lload_n 3, 1) := by decide +kernel
theorem d_qn_makeFunction_8 : decode qn_makeFunction_c 8 = .ok (.aload_n 0, 1) := by decide +kernel
theorem d_qn_makeFunction_9 : decode qn_makeFunction_c 9 = .ok (.getfield 61, 3) := by decide +kernel
theorem d_qn_makeFunction_12 : decode qn_makeFunction_c 12 = .ok (.invokevirtual 300, 3) := by decide +kernel
theorem d_qn_makeFunction_15 : decode qn_makeFunction_c 15 = .ok (.istore 5, 2) := by decide +kernel
theorem d_qn_makeFunction_17 : decode qn_makeFunction_c 17 = .ok (.iload 5, 2) := by decide +kernel
theorem d_qn_makeFunction_19 : decode qn_makeFunction_c 19 = .ok (.iconst (-1), 1) := by decide +kernel
theorem d_qn_makeFunction_20 : decode qn_makeFunction_c 20 = .ok (.if_icmp .ne 12, 3) := by decide +kernel
theorem d_qn_makeFunction_23 : decode qn_makeFunction_c 23 = .ok (.aload_n 0, 1) := by decide +kernel
theorem d_qn_makeFunction_24 : decode qn_makeFunction_c 24 = .ok (.bipush (-5), 2) := by decide +kernel
theorem d_qn_makeFunction_26 : decode qn_makeFunction_c 26 = .ok (.invokevirtual 99, 3) := by decide +kernel
theorem d_qn_makeFunction_29 : decode qn_makeFunction_c 29 = .ok (.goto 23, 3) := by decide +kernel
theorem d_qn_makeFunction_32 : decode qn_makeFunction_c 32 = .ok (.aload_n 0, 1) := by decide +kernel
theorem d_qn_makeFunction_33 : decode qn_makeFunction_c 33 = .ok (.bipush 6, 2) := by decide +kernel
theorem d_qn_makeFunction_35 : decode qn_makeFunction_c 35 = .ok (.aload_n 0, 1) := by decide +kernel
theorem d_qn_makeFunction_36 : decode qn_makeFunction_c 36 = .ok (.getfield 9, 3) := by decide +kernel
theorem d_qn_makeFunction_39 : decode qn_makeFunction_c 39 = .ok (.iconst 5, 1) := by decide +kernel
theorem d_qn_makeFunction_40 : decode qn_makeFunction_c 40 = .ok (.iload 5, 2) := by decide +kernel
theorem d_qn_makeFunction_42 : decode qn_makeFunction_c 42 = .ok (.i2l, 1) := by decide +kernel
theorem d_qn_makeFunction_43 : decode qn_makeFunction_c 43 = .ok (.invokestatic 102, 3) := by decide +kernel
theorem d_qn_makeFunction_46 : decode qn_makeFunction_c 46 = .ok (.invokevirtual 307, 3) := by decide +kernel
theorem d_qn_makeFunction_49 : decode qn_makeFunction_c 49 = .ok (.invokevirtual 304, 3) := by decide +kernel
theorem d_qn_makeFunction_52 : decode qn_makeFunction_c 52 = .ok (.return_, 1) := by decide +kernel
theorem d_qn_evaluateSequence_0 : decode qn_evaluateSequence_c 0 = .ok (.lload_n 1, 1) := by decide +kernel
theorem d_qn_evaluateSequence_1 : decode qn_evaluateSequence_c 1 = .ok (.ldc2_w 50, 3) := by decide +kernel
theorem d_qn_evaluateSequence_4 : decode qn_evaluateSequence_c 4 = .ok (.lcmp, 1) := by decide +kernel
theorem d_qn_evaluateSequence_5 : decode qn_evaluateSequence_c 5 = .ok (.ifCond .ne 13, 3) := by decide +kernel
theorem d_qn_evaluateSequence_8 : decode qn_evaluateSequence_c 8 = .ok (.aload_n 0, 1) := by decide +kernel
theorem d_qn_evaluateSequence_9 : decode qn_evaluateSequence_c 9 = .ok (.ldc2_w 284, 3) := by decide +kernel
theorem d_qn_evaluateSequence_12 : decode qn_evaluateSequence_c 12 = .ok (.invokevirtual 106, 3) := by decide +kernel
theorem d_qn_evaluateSequence_15 : decode qn_evaluateSequence_c 15 = .ok (.goto 61, 3) := by decide +kernel
theorem d_qn_evaluateSequence_18 : decode qn_evaluateSequence_c 18 = .ok (.aload_n 0, 1) := by decide +kernel
theorem d_qn_evaluateSequence_19 : decode qn_evaluateSequence_c 19 = .ok (.getfield 9, 3) := by decide +kernel
theorem d_qn_evaluateSequence_22 : decode qn_evaluateSequence_c 22 = .ok (.lload_n 1, 1) := by decide +kernel
theorem d_qn_evaluateSequence_23 : decode qn_evaluateSequence_c 23 = .ok (.invokevirtual 124, 3) := by decide +kernel
theorem d_qn_evaluateSequence_26 : decode qn_evaluateSequence_c 26 = .ok (.ldc2_w 50, 3) := by decide +kernel
theorem d_qn_evaluateSequence_29 : decode qn_evaluateSequence_c 29 = .ok (.lcmp, 1) := by decide +kernel
theorem d_qn_evaluateSequence_30 : decode qn_evaluateSequence_c 30 = .ok (.ifCond .ne 18, 3) := by decide +kernel
theorem d_qn_evaluateSequence_33 : decode qn_evaluateSequence_c 33 = .ok (.aload_n 0, 1) := by decide +kernel
theorem d_qn_evaluateSequence_34 : decode qn_evaluateSequence_c 34 = .ok (.aload_n 0, 1) := by decide +kernel
theorem d_qn_evaluateSequence_35 : decode qn_evaluateSequence_c 35 = .ok (.getfield 9, 3) := by decide +kernel
theorem d_qn_evaluateSequence_38 : decode qn_evaluateSequence_c 38 = .ok (.lload_n 1, 1) := by decide +kernel
theorem d_qn_evaluateSequence_39 : decode qn_evaluateSequence_c 39 = .ok (.invokevirtual 120, 3) := by decide +kernel
theorem d_qn_evaluateSequence_42 : decode qn_evaluateSequence_c 42 = .ok (.invokevirtual 77, 3) := by decide +kernel
theorem d_qn_evaluateSequence_45 : decode qn_evaluateSequence_c 45 = .ok (.goto 31, 3) := by decide +kernel
theorem d_qn_evaluateSequence_48 : decode qn_evaluateSequence_c 48 = .ok (.aload_n 0, 1) := by decide +kernel
theorem d_qn_evaluateSequence_49 : decode qn_evaluateSequence_c 49 = .ok (.getfield 9, 3) := by decide +kernel
theorem d_qn_evaluateSequence_52 : decode qn_evaluateSequence_c 52 = .ok (.lload_n 1, 1) := by decide +kernel
theorem d_qn_evaluateSequence_53 : decode qn_evaluateSequence_c 53 = .ok (.invokevirtual 124, 3) := by decide +kernel
theorem d_qn_evaluateSequence_56 : decode qn_evaluateSequence_c 56 = .ok (.lstore_n 3, 1) := by decide +kernel
theorem d_qn_evaluateSequence_57 : decode qn_evaluateSequence_c 57 = .ok (.aload_n 0, 1) := by decide +kernel
theorem d_qn_evaluateSequence_58 : decode qn_evaluateSequence_c 58 = .ok (.aload_n 0, 1) := by decide +kernel
theorem d_qn_evaluateSequence_59 : decode qn_evaluateSequence_c 59 = .ok (.getfield 9, 3) := by decide +kernel
theorem d_qn_evaluateSequence_62 : decode qn_evaluateSequence_c 62 = .ok (.lload_n 1, 1) := by decide +kernel
theorem d_qn_evaluateSequence_63 : decode qn_evaluateSequence_c 63 = .ok (.invokevirtual 120, 3) := by decide +kernel
theorem d_qn_evaluateSequence_66 : decode qn_evaluateSequence_c 66 = .ok (.bipush 6, 2) := by decide +kernel
theorem d_qn_evaluateSequence_68 : decode qn_evaluateSequence_c 68 = .ok (.lload_n 3, 1) := by decide +kernel
theorem d_qn_evaluateSequence_69 : decode qn_evaluateSequence_c 69 = .ok (.ldc2_w 50, 3) := by decide +kernel
theorem d_qn_evaluateSequence_72 : decode qn_evaluateSequence_c 72 = .ok (.iconst 0, 1) := by decide +kernel
theorem d_qn_evaluateSequence_73 : decode qn_evaluateSequence_c 73 = .ok (.invokevirtual 127, 3) := by decide +kernel
theorem d_qn_evaluateSequence_76 : decode qn_evaluateSequence_c 76 = .ok (.return_, 1) := by decide +kernel
theorem d_qn_callSpecial_0 : decode qn_callSpecial_c 0 = .ok (.iload_n 1, 1) := by decide +kernel
theorem d_qn_callSpecial_1 : decode qn_callSpecial_c 1 = .ok (.tableswitch 186 0 7 #[47, 75, 97, 114, 135, 163, 174, 186], 47) := by decide +kernel
theorem d_qn_callSpecial_48 : decode qn_callSpecial_c 48 = .ok (.aload_n 0, 1) := by decide +kernel
theorem d_qn_callSpecial_49 : decode qn_callSpecial_c 49 = .ok (.aload_n 0, 1) := by decide +kernel
theorem d_qn_callSpecial_50 : decode qn_callSpecial_c 50 = .ok (.iconst 0, 1) := by decide +kernel
theorem d_qn_callSpecial_51 : decode qn_callSpecial_c 51 = .ok (.invokevirtual 266, 3) := by decide +kernel
theorem d_qn_callSpecial_54 : decode qn_callSpecial_c 54 = .ok (.iconst 2, 1) := by decide +kernel
theorem d_qn_callSpecial_55 : decode qn_callSpecial_c 55 = .ok (.aload_n 0, 1) := by decide +kernel
theorem d_qn_callSpecial_56 : decode qn_callSpecial_c 56 = .ok (.getfield 9, 3) := by decide +kernel
theorem d_qn_callSpecial_59 : decode qn_callSpecial_c 59 = .ok (.aload_n 0, 1) := by decide +kernel
theorem d_qn_callSpecial_60 : decode qn_callSpecial_c 60 = .ok (.getfield 56, 3) := by decide +kernel
theorem d_qn_callSpecial_63 : decode qn_callSpecial_c 63 = .ok (.invokevirtual 124, 3) := by decide +kernel
theorem d_qn_callSpecial_66 : decode qn_callSpecial_c 66 = .ok (.ldc2_w 50, 3) := by decide +kernel
theorem d_qn_callSpecial_69 : decode qn_callSpecial_c 69 = .ok (.iconst 0, 1) := by decide +kernel
theorem d_qn_callSpecial_70 : decode qn_callSpecial_c 70 = .ok (.invokevirtual 127, 3) := by decide +kernel
theorem d_qn_callSpecial_73 : decode qn_callSpecial_c 73 = .ok (.goto 128, 3) := by decide +kernel
theorem d_qn_callSpecial_76 : decode qn_callSpecial_c 76 = .ok (.aload_n 0, 1) := by decide +kernel
theorem d_qn_callSpecial_77 : decode qn_callSpecial_c 77 = .ok (.aload_n 0, 1) := by decide +kernel
theorem d_qn_callSpecial_78 : decode qn_callSpecial_c 78 = .ok (.iconst 0, 1) := by decide +kernel
theorem d_qn_callSpecial_79 : decode qn_callSpecial_c 79 = .ok (.invokevirtual 266, 3) := by decide +kernel
theorem d_qn_callSpecial_82 : decode qn_callSpecial_c 82 = .ok (.aload_n 0, 1) := by decide +kernel
theorem d_qn_callSpecial_83 : decode qn_callSpecial_c 83 = .ok (.iconst 1, 1) := by decide +kernel
theorem d_qn_callSpecial_84 : decode qn_callSpecial_c 84 = .ok (.invokevirtual 266, 3) := by decide +kernel
theorem d_qn_callSpecial_87 : decode qn_callSpecial_c 87 = .ok (.aload_n 0, 1) := by decide +kernel
theorem d_qn_callSpecial_88 : decode qn_callSpecial_c 88 = .ok (.iconst 2, 1) := by decide +kernel
theorem d_qn_callSpecial_89 : decode qn_callSpecial_c 89 = .ok (.invokevirtual 266, 3) := by decide +kernel
theorem d_qn_callSpecial_92 : decode qn_callSpecial_c 92 = .ok (.invokevirtual 293, 3) := by decide +kernel
theorem d_qn_callSpecial_95 : decode qn_callSpecial_c 95 = .ok (.goto 106, 3) := by decide +kernel
theorem d_qn_callSpecial_98 : decode qn_callSpecial_c 98 = .ok (.aload_n 0, 1) := by decide +kernel
theorem d_qn_callSpecial_99 : decode qn_callSpecial_c 99 = .ok (.aload_n 0, 1) := by decide +kernel
theorem d_qn_callSpecial_100 : decode qn_callSpecial_c 100 = .ok (.iconst 0, 1) := by decide +kernel
theorem d_qn_callSpecial_101 : decode qn_callSpecial_c 101 = .ok (.invokevirtual 266, 3) := by decide +kernel
theorem d_qn_callSpecial_104 : decode qn_callSpecial_c 104 = .ok (.aload_n 0, 1) := by decide +kernel
theorem d_qn_callSpecial_105 : decode qn_callSpecial_c 105 = .ok (.iconst 1, 1) := by decide +kernel
theorem d_qn_callSpecial_106 : decode qn_callSpecial_c 106 = .ok (.invokevirtual 266, 3) := by decide +kernel
theorem d_qn_callSpecial_109 : decode qn_callSpecial_c 109 = .ok (.invokevirtual 297, 3) := by decide +kernel
theorem d_qn_callSpecial_112 : decode qn_callSpecial_c 112 = .ok (.goto 89, 3) := by decide +kernel
theorem d_qn_callSpecial_115 : decode qn_callSpecial_c 115 = .ok (.aload_n 0, 1) := by decide +kernel
theorem d_qn_callSpecial_116 : decode qn_callSpecial_c 116 = .ok (.aload_n 0, 1) := by decide +kernel
theorem d_qn_callSpecial_117 : decode qn_callSpecial_c 117 = .ok (.iconst 1, 1) := by decide +kernel
theorem d_qn_callSpecial_118 : decode qn_callSpecial_c 118 = .ok (.invokevirtual 266, 3) := by decide +kernel
theorem d_qn_callSpecial_121 : decode qn_callSpecial_c 121 = .ok (.iconst 3, 1) := by decide +kernel
theorem d_qn_callSpecial_122 : decode qn_callSpecial_c 122 = .ok (.aload_n 0, 1) := by decide +kernel
theorem d_qn_callSpecial_123 : decode qn_callSpecial_c 123 = .ok (.getfield 56, 3) := by decide +kernel
theorem d_qn_callSpecial_126 : decode qn_callSpecial_c 126 = .ok (.ldc2_w 50, 3) := by decide +kernel
theorem d_qn_callSpecial_129 : decode qn_callSpecial_c 129 = .ok (.iconst 0, 1) := by decide +kernel
theorem d_qn_callSpecial_130 : decode qn_callSpecial_c 130 = .ok (.invokevirtual 127, 3) := by decide +kernel
theorem d_qn_callSpecial_133 : decode qn_callSpecial_c 133 = .ok (.goto 68, 3) := by decide +kernel
theorem d_qn_callSpecial_136 : decode qn_callSpecial_c 136 = .ok (.aload_n 0, 1) := by decide +kernel
theorem d_qn_callSpecial_137 : decode qn_callSpecial_c 137 = .ok (.aload_n 0, 1) := by decide +kernel
theorem d_qn_callSpecial_138 : decode qn_callSpecial_c 138 = .ok (.iconst 0, 1) := by decide +kernel
theorem d_qn_callSpecial_139 : decode qn_callSpecial_c 139 = .ok (.invokevirtual 266, 3) := by decide +kernel
theorem d_qn_callSpecial_142 : decode qn_callSpecial_c 142 = .ok (.iconst 4, 1) := by decide +kernel
theorem d_qn_callSpecial_143 : decode qn_callSpecial_c 143 = .ok (.aload_n 0, 1) := by decide +kernel
theorem d_qn_callSpecial_144 : decode qn_callSpecial_c 144 = .ok (.getfield 9, 3) := by decide +kernel
theorem d_qn_callSpecial_147 : decode qn_callSpecial_c 147 = .ok (.aload_n 0, 1) := by decide +kernel
theorem d_qn_callSpecial_148 : decode qn_callSpecial_c 148 = .ok (.getfield 56, 3) := by decide +kernel
theorem d_qn_callSpecial_151 : decode qn_callSpecial_c 151 = .ok (.invokevirtual 124, 3) := by decide +kernel
theorem d_qn_callSpecial_154 : decode qn_callSpecial_c 154 = .ok (.ldc2_w 50, 3) := by decide +kernel
theorem d_qn_callSpecial_157 : decode qn_callSpecial_c 157 = .ok (.iconst 0, 1) := by decide +kernel
theorem d_qn_callSpecial_158 : decode qn_callSpecial_c 158 = .ok (.invokevirtual 127, 3) := by decide +kernel
theorem d_qn_callSpecial_161 : decode qn_callSpecial_c 161 = .ok (.goto 40, 3) := by decide +kernel
theorem d_qn_callSpecial_164 : decode qn_callSpecial_c 164 = .ok (.aload_n 0, 1) := by decide +kernel
theorem d_qn_callSpecial_165 : decode qn_callSpecial_c 165 = .ok (.aload_n 0, 1) := by decide +kernel
theorem d_qn_callSpecial_166 : decode qn_callSpecial_c 166 = .ok (.getfield 56, 3) := by decide +kernel
theorem d_qn_callSpecial_169 : decode qn_callSpecial_c 169 = .ok (.invokevirtual 192, 3) := by decide +kernel
theorem d_qn_callSpecial_172 : decode qn_callSpecial_c 172 = .ok (.goto 29, 3) := by decide +kernel
theorem d_qn_callSpecial_175 : decode qn_callSpecial_c 175 = .ok (.aload_n 0, 1) := by decide +kernel
theorem d_qn_callSpecial_176 : decode qn_callSpecial_c 176 = .ok (.aload_n 0, 1) := by decide +kernel
theorem d_qn_callSpecial_177 : decode qn_callSpecial_c 177 = .ok (.iconst 0, 1) := by decide +kernel
theorem d_qn_callSpecial_178 : decode qn_callSpecial_c 178 = .ok (.invokevirtual 266, 3) := by decide +kernel
theorem d_qn_callSpecial_181 : decode qn_callSpecial_c 181 = .ok (.invokevirtual 106, 3) := by decide +kernel
theorem d_qn_callSpecial_184 : decode qn_callSpecial_c 184 = .ok (.goto 17, 3) := by decide +kernel
theorem d_qn_callSpecial_187 : decode qn_callSpecial_c 187 = .ok (.aload_n 0, 1) := by decide +kernel
theorem d_qn_callSpecial_188 : decode qn_callSpecial_c 188 = .ok (.bipush 7, 2) := by decide +kernel
theorem d_qn_callSpecial_190 : decode qn_callSpecial_c 190 = .ok (.aload_n 0, 1) := by decide +kernel
theorem d_qn_callSpecial_191 : decode qn_callSpecial_c 191 = .ok (.getfield 61, 3) := by decide +kernel
theorem d_qn_callSpecial_194 : decode qn_callSpecial_c 194 = .ok (.i2l, 1) := by decide +kernel
theorem d_qn_callSpecial_195 : decode qn_callSpecial_c 195 = .ok (.invokestatic 102, 3) := by decide +kernel
theorem d_qn_callSpecial_198 : decode qn_callSpecial_c 198 = .ok (.invokevirtual 106, 3) := by decide +kernel
theorem d_qn_callSpecial_201 : decode qn_callSpecial_c 201 = .ok (.return_, 1) := by decide +kernel
theorem d_qw_product_0 : decode qw_product_c 0 = .ok (.lload_n 0, 1) := by decide +kernel
theorem d_qw_product_1 : decode qw_product_c 1 = .ok (.lconst 0, 1) := by decide +kernel
theorem d_qw_product_2 : decode qw_product_c 2 = .ok (.lcmp, 1) := by decide +kernel
theorem d_qw_product_3 : decode qw_product_c 3 = .ok (.ifCond .eq 23, 3) := by decide +kernel
theorem d_qw_product_6 : decode qw_product_c 6 = .ok (.lload_n 2, 1) := by decide +kernel
theorem d_qw_product_7 : decode qw_product_c 7 = .ok (.invokestatic 25, 3) := by decide +kernel
theorem d_qw_product_10 : decode qw_product_c 10 = .ok (.ldc2_w 23, 3) := by decide +kernel
theorem d_qw_product_13 : decode qw_product_c 13 = .ok (.lload_n 0, 1) := by decide +kernel
theorem d_qw_product_14 : decode qw_product_c 14 = .ok (.invokestatic 25, 3) := by decide +kernel
theorem d_qw_product_17 : decode qw_product_c 17 = .ok (.ldiv, 1) := by decide +kernel
theorem d_qw_product_18 : decode qw_product_c 18 = .ok (.lcmp, 1) := by decide +kernel
theorem d_qw_product_19 : decode qw_product_c 19 = .ok (.ifCond .le 7, 3) := by decide +kernel
theorem d_qw_product_22 : decode qw_product_c 22 = .ok (.ldc2_w 31, 3) := by decide +kernel
theorem d_qw_product_25 : decode qw_product_c 25 = .ok (.lreturn, 1) := by decide +kernel
theorem d_qw_product_26 : decode qw_product_c 26 = .ok (.lload_n 0, 1) := by decide +kernel
theorem d_qw_product_27 : decode qw_product_c 27 = .ok (.lload_n 2, 1) := by decide +kernel
theorem d_qw_product_28 : decode qw_product_c 28 = .ok (.lmul, 1) := by decide +kernel
theorem d_qw_product_29 : decode qw_product_c 29 = .ok (.lreturn, 1) := by decide +kernel
theorem d_qn_giveBackInteger_0 : decode qn_giveBackInteger_c 0 = .ok (.lload_n 1, 1) := by decide +kernel
theorem d_qn_giveBackInteger_1 : decode qn_giveBackInteger_c 1 = .ok (.invokestatic 109, 3) := by decide +kernel
theorem d_qn_giveBackInteger_4 : decode qn_giveBackInteger_c 4 = .ok (.ifCond .eq 15, 3) := by decide +kernel
theorem d_qn_giveBackInteger_7 : decode qn_giveBackInteger_c 7 = .ok (.aload_n 0, 1) := by decide +kernel
theorem d_qn_giveBackInteger_8 : decode qn_giveBackInteger_c 8 = .ok (.iconst 0, 1) := by decide +kernel
theorem d_qn_giveBackInteger_9 : decode qn_giveBackInteger_c 9 = .ok (.lload_n 1, 1) := by decide +kernel
theorem d_qn_giveBackInteger_10 : decode qn_giveBackInteger_c 10 = .ok (.invokestatic 102, 3) := by decide +kernel
theorem d_qn_giveBackInteger_13 : decode qn_giveBackInteger_c 13 = .ok (.invokevirtual 106, 3) := by decide +kernel
theorem d_qn_giveBackInteger_16 : decode qn_giveBackInteger_c 16 = .ok (.goto 9, 3) := by decide +kernel
theorem d_qn_giveBackInteger_19 : decode qn_giveBackInteger_c 19 = .ok (.aload_n 0, 1) := by decide +kernel
theorem d_qn_giveBackInteger_20 : decode qn_giveBackInteger_c 20 = .ok (.bipush (-9), 2) := by decide +kernel
theorem d_qn_giveBackInteger_22 : decode qn_giveBackInteger_c 22 = .ok (.invokevirtual 99, 3) := by decide +kernel
theorem d_qn_giveBackInteger_25 : decode qn_giveBackInteger_c 25 = .ok (.return_, 1) := by decide +kernel
theorem d_qn_accumulate_0 : decode qn_accumulate_c 0 = .ok (.iload_n 1, 1) := by decide +kernel
theorem d_qn_accumulate_1 : decode qn_accumulate_c 1 = .ok (.ifCond .eq 7, 3) := by decide +kernel
theorem d_qn_accumulate_4 : decode qn_accumulate_c 4 = .ok (.lconst 1, 1) := by decide +kernel
theorem d_qn_accumulate_5 : decode qn_accumulate_c 5 = .ok (.goto 4, 3) := by decide +kernel
theorem d_qn_accumulate_8 : decode qn_accumulate_c 8 = .ok (.lconst 0, 1) := by decide +kernel
theorem d_qn_accumulate_9 : decode qn_accumulate_c 9 = .ok (.lstore_n 2, 1) := by decide +kernel
theorem d_qn_accumulate_10 : decode qn_accumulate_c 10 = .ok (.aload_n 0, 1) := by decide +kernel
theorem d_qn_accumulate_11 : decode qn_accumulate_c 11 = .ok (.getfield 56, 3) := by decide +kernel
theorem d_qn_accumulate_14 : decode qn_accumulate_c 14 = .ok (.lstore 4, 2) := by decide +kernel
theorem d_qn_accumulate_16 : decode qn_accumulate_c 16 = .ok (.iconst 0, 1) := by decide +kernel
theorem d_qn_accumulate_17 : decode qn_accumulate_c 17 = .ok (.istore 6, 2) := by decide +kernel
theorem d_qn_accumulate_19 : decode qn_accumulate_c 19 = .ok (.lload 4, 2) := by decide +kernel
theorem d_qn_accumulate_21 : decode qn_accumulate_c 21 = .ok (.ldc2_w 50, 3) := by decide +kernel
theorem d_qn_accumulate_24 : decode qn_accumulate_c 24 = .ok (.lcmp, 1) := by decide +kernel
theorem d_qn_accumulate_25 : decode qn_accumulate_c 25 = .ok (.ifCond .eq 74, 3) := by decide +kernel
theorem d_qn_accumulate_28 : decode qn_accumulate_c 28 = .ok (.iload 6, 2) := by decide +kernel
theorem d_qn_accumulate_30 : decode qn_accumulate_c 30 = .ok (.sipush 4100, 3) := by decide +kernel
theorem d_qn_accumulate_33 : decode qn_accumulate_c 33 = .ok (.if_icmp .ge 66, 3) := by decide +kernel
theorem d_qn_accumulate_36 : decode qn_accumulate_c 36 = .ok (.aload_n 0, 1) := by decide +kernel
theorem d_qn_accumulate_37 : decode qn_accumulate_c 37 = .ok (.getfield 9, 3) := by decide +kernel
theorem d_qn_accumulate_40 : decode qn_accumulate_c 40 = .ok (.lload 4, 2) := by decide +kernel
theorem d_qn_accumulate_42 : decode qn_accumulate_c 42 = .ok (.invokevirtual 120, 3) := by decide +kernel
theorem d_qn_accumulate_45 : decode qn_accumulate_c 45 = .ok (.invokestatic 310, 3) := by decide +kernel
theorem d_qn_accumulate_48 : decode qn_accumulate_c 48 = .ok (.lstore 7, 2) := by decide +kernel
theorem d_qn_accumulate_50 : decode qn_accumulate_c 50 = .ok (.iload_n 1, 1) := by decide +kernel
theorem d_qn_accumulate_51 : decode qn_accumulate_c 51 = .ok (.ifCond .eq 12, 3) := by decide +kernel
theorem d_qn_accumulate_54 : decode qn_accumulate_c 54 = .ok (.lload_n 2, 1) := by decide +kernel
theorem d_qn_accumulate_55 : decode qn_accumulate_c 55 = .ok (.lload 7, 2) := by decide +kernel
theorem d_qn_accumulate_57 : decode qn_accumulate_c 57 = .ok (.invokestatic 327, 3) := by decide +kernel
theorem d_qn_accumulate_60 : decode qn_accumulate_c 60 = .ok (.goto 7, 3) := by decide +kernel
theorem d_qn_accumulate_63 : decode qn_accumulate_c 63 = .ok (.lload_n 2, 1) := by decide +kernel
theorem d_qn_accumulate_64 : decode qn_accumulate_c 64 = .ok (.lload 7, 2) := by decide +kernel
theorem d_qn_accumulate_66 : decode qn_accumulate_c 66 = .ok (.ladd, 1) := by decide +kernel
theorem d_qn_accumulate_67 : decode qn_accumulate_c 67 = .ok (.lstore_n 2, 1) := by decide +kernel
theorem d_qn_accumulate_68 : decode qn_accumulate_c 68 = .ok (.lload_n 2, 1) := by decide +kernel
theorem d_qn_accumulate_69 : decode qn_accumulate_c 69 = .ok (.invokestatic 109, 3) := by decide +kernel
theorem d_qn_accumulate_72 : decode qn_accumulate_c 72 = .ok (.ifCond .ne 10, 3) := by decide +kernel
theorem d_qn_accumulate_75 : decode qn_accumulate_c 75 = .ok (.aload_n 0, 1) := by decide +kernel
theorem d_qn_accumulate_76 : decode qn_accumulate_c 76 = .ok (.bipush (-9), 2) := by decide +kernel
theorem d_qn_accumulate_78 : decode qn_accumulate_c 78 = .ok (.invokevirtual 99, 3) := by decide +kernel
theorem d_qn_accumulate_81 : decode qn_accumulate_c 81 = .ok (.return_, 1) := by decide +kernel
theorem d_qn_accumulate_82 : decode qn_accumulate_c 82 = .ok (.aload_n 0, 1) := by decide +kernel
theorem d_qn_accumulate_83 : decode qn_accumulate_c 83 = .ok (.getfield 9, 3) := by decide +kernel
theorem d_qn_accumulate_86 : decode qn_accumulate_c 86 = .ok (.lload 4, 2) := by decide +kernel
theorem d_qn_accumulate_88 : decode qn_accumulate_c 88 = .ok (.invokevirtual 124, 3) := by decide +kernel
theorem d_qn_accumulate_91 : decode qn_accumulate_c 91 = .ok (.lstore 4, 2) := by decide +kernel
theorem d_qn_accumulate_93 : decode qn_accumulate_c 93 = .ok (.iinc 6 1, 3) := by decide +kernel
theorem d_qn_accumulate_96 : decode qn_accumulate_c 96 = .ok (.goto (-77), 3) := by decide +kernel
theorem d_qn_accumulate_99 : decode qn_accumulate_c 99 = .ok (.aload_n 0, 1) := by decide +kernel
theorem d_qn_accumulate_100 : decode qn_accumulate_c 100 = .ok (.lload_n 2, 1) := by decide +kernel
theorem d_qn_accumulate_101 : decode qn_accumulate_c 101 = .ok (.invokevirtual 320, 3) := by decide +kernel
theorem d_qn_accumulate_104 : decode qn_accumulate_c 104 = .ok (.return_, 1) := by decide +kernel
theorem d_qn_callDataFunction_0 : decode qn_callDataFunction_c 0 = .ok (.iload_n 1, 1) := by decide +kernel
theorem d_qn_callDataFunction_1 : decode qn_callDataFunction_c 1 = .ok (.tableswitch 251 10 19 #[55, 55, 73, 97, 132, 161, 186, 205, 224, 251], 55) := by decide +kernel
theorem d_qn_callDataFunction_56 : decode qn_callDataFunction_c 56 = .ok (.aload_n 0, 1) := by decide +kernel
theorem d_qn_callDataFunction_57 : decode qn_callDataFunction_c 57 = .ok (.iload_n 1, 1) := by decide +kernel
theorem d_qn_callDataFunction_58 : decode qn_callDataFunction_c 58 = .ok (.bipush 11, 2) := by decide +kernel
theorem d_qn_callDataFunction_60 : decode qn_callDataFunction_c 60 = .ok (.if_icmp .ne 7, 3) := by decide +kernel
theorem d_qn_callDataFunction_63 : decode qn_callDataFunction_c 63 = .ok (.iconst 1, 1) := by decide +kernel
theorem d_qn_callDataFunction_64 : decode qn_callDataFunction_c 64 = .ok (.goto 4, 3) := by decide +kernel
theorem d_qn_callDataFunction_67 : decode qn_callDataFunction_c 67 = .ok (.iconst 0, 1) := by decide +kernel
theorem d_qn_callDataFunction_68 : decode qn_callDataFunction_c 68 = .ok (.invokevirtual 316, 3) := by decide +kernel
theorem d_qn_callDataFunction_71 : decode qn_callDataFunction_c 71 = .ok (.goto 194, 3) := by decide +kernel
theorem d_qn_callDataFunction_74 : decode qn_callDataFunction_c 74 = .ok (.aload_n 0, 1) := by decide +kernel
theorem d_qn_callDataFunction_75 : decode qn_callDataFunction_c 75 = .ok (.aload_n 0, 1) := by decide +kernel
theorem d_qn_callDataFunction_76 : decode qn_callDataFunction_c 76 = .ok (.iconst 0, 1) := by decide +kernel
theorem d_qn_callDataFunction_77 : decode qn_callDataFunction_c 77 = .ok (.invokevirtual 266, 3) := by decide +kernel
theorem d_qn_callDataFunction_80 : decode qn_callDataFunction_c 80 = .ok (.invokestatic 310, 3) := by decide +kernel
theorem d_qn_callDataFunction_83 : decode qn_callDataFunction_c 83 = .ok (.aload_n 0, 1) := by decide +kernel
theorem d_qn_callDataFunction_84 : decode qn_callDataFunction_c 84 = .ok (.iconst 1, 1) := by decide +kernel
theorem d_qn_callDataFunction_85 : decode qn_callDataFunction_c 85 = .ok (.invokevirtual 266, 3) := by decide +kernel
theorem d_qn_callDataFunction_88 : decode qn_callDataFunction_c 88 = .ok (.invokestatic 310, 3) := by decide +kernel
theorem d_qn_callDataFunction_91 : decode qn_callDataFunction_c 91 = .ok (.lsub, 1) := by decide +kernel
theorem d_qn_callDataFunction_92 : decode qn_callDataFunction_c 92 = .ok (.invokevirtual 320, 3) := by decide +kernel
theorem d_qn_callDataFunction_95 : decode qn_callDataFunction_c 95 = .ok (.goto 170, 3) := by decide +kernel
theorem d_qn_callDataFunction_98 : decode qn_callDataFunction_c 98 = .ok (.aload_n 0, 1) := by decide +kernel
theorem d_qn_callDataFunction_99 : decode qn_callDataFunction_c 99 = .ok (.aload_n 0, 1) := by decide +kernel
theorem d_qn_callDataFunction_100 : decode qn_callDataFunction_c 100 = .ok (.iconst 0, 1) := by decide +kernel
theorem d_qn_callDataFunction_101 : decode qn_callDataFunction_c 101 = .ok (.invokevirtual 266, 3) := by decide +kernel
theorem d_qn_callDataFunction_104 : decode qn_callDataFunction_c 104 = .ok (.invokestatic 310, 3) := by decide +kernel
theorem d_qn_callDataFunction_107 : decode qn_callDataFunction_c 107 = .ok (.aload_n 0, 1) := by decide +kernel
theorem d_qn_callDataFunction_108 : decode qn_callDataFunction_c 108 = .ok (.iconst 1, 1) := by decide +kernel
theorem d_qn_callDataFunction_109 : decode qn_callDataFunction_c 109 = .ok (.invokevirtual 266, 3) := by decide +kernel
theorem d_qn_callDataFunction_112 : decode qn_callDataFunction_c 112 = .ok (.invokestatic 310, 3) := by decide +kernel
theorem d_qn_callDataFunction_115 : decode qn_callDataFunction_c 115 = .ok (.lcmp, 1) := by decide +kernel
theorem d_qn_callDataFunction_116 : decode qn_callDataFunction_c 116 = .ok (.ifCond .ge 7, 3) := by decide +kernel
theorem d_qn_callDataFunction_119 : decode qn_callDataFunction_c 119 = .ok (.iconst 1, 1) := by decide +kernel
theorem d_qn_callDataFunction_120 : decode qn_callDataFunction_c 120 = .ok (.goto 4, 3) := by decide +kernel
theorem d_qn_callDataFunction_123 : decode qn_callDataFunction_c 123 = .ok (.iconst 0, 1) := by decide +kernel
theorem d_qn_callDataFunction_124 : decode qn_callDataFunction_c 124 = .ok (.invokestatic 323, 3) := by decide +kernel
theorem d_qn_callDataFunction_127 : decode qn_callDataFunction_c 127 = .ok (.invokevirtual 106, 3) := by decide +kernel
theorem d_qn_callDataFunction_130 : decode qn_callDataFunction_c 130 = .ok (.goto 135, 3) := by decide +kernel
theorem d_qn_callDataFunction_133 : decode qn_callDataFunction_c 133 = .ok (.aload_n 0, 1) := by decide +kernel
theorem d_qn_callDataFunction_134 : decode qn_callDataFunction_c 134 = .ok (.aload_n 0, 1) := by decide +kernel
theorem d_qn_callDataFunction_135 : decode qn_callDataFunction_c 135 = .ok (.iconst 0, 1) := by decide +kernel
theorem d_qn_callDataFunction_136 : decode qn_callDataFunction_c 136 = .ok (.invokevirtual 266, 3) := by decide +kernel
theorem d_qn_callDataFunction_139 : decode qn_callDataFunction_c 139 = .ok (.aload_n 0, 1) := by decide +kernel
theorem d_qn_callDataFunction_140 : decode qn_callDataFunction_c 140 = .ok (.iconst 1, 1) := by decide +kernel
theorem d_qn_callDataFunction_141 : decode qn_callDataFunction_c 141 = .ok (.invokevirtual 266, 3) := by decide +kernel
theorem d_qn_callDataFunction_144 : decode qn_callDataFunction_c 144 = .ok (.lcmp, 1) := by decide +kernel
theorem d_qn_callDataFunction_145 : decode qn_callDataFunction_c 145 = .ok (.ifCond .ne 7, 3) := by decide +kernel
theorem d_qn_callDataFunction_148 : decode qn_callDataFunction_c 148 = .ok (.iconst 1, 1) := by decide +kernel
theorem d_qn_callDataFunction_149 : decode qn_callDataFunction_c 149 = .ok (.goto 4, 3) := by decide +kernel
theorem d_qn_callDataFunction_152 : decode qn_callDataFunction_c 152 = .ok (.iconst 0, 1) := by decide +kernel
theorem d_qn_callDataFunction_153 : decode qn_callDataFunction_c 153 = .ok (.invokestatic 323, 3) := by decide +kernel
theorem d_qn_callDataFunction_156 : decode qn_callDataFunction_c 156 = .ok (.invokevirtual 106, 3) := by decide +kernel
theorem d_qn_callDataFunction_159 : decode qn_callDataFunction_c 159 = .ok (.goto 106, 3) := by decide +kernel
theorem d_qn_callDataFunction_162 : decode qn_callDataFunction_c 162 = .ok (.aload_n 0, 1) := by decide +kernel
theorem d_qn_callDataFunction_163 : decode qn_callDataFunction_c 163 = .ok (.iconst 4, 1) := by decide +kernel
theorem d_qn_callDataFunction_164 : decode qn_callDataFunction_c 164 = .ok (.aload_n 0, 1) := by decide +kernel
theorem d_qn_callDataFunction_165 : decode qn_callDataFunction_c 165 = .ok (.getfield 9, 3) := by decide +kernel
theorem d_qn_callDataFunction_168 : decode qn_callDataFunction_c 168 = .ok (.aload_n 0, 1) := by decide +kernel
theorem d_qn_callDataFunction_169 : decode qn_callDataFunction_c 169 = .ok (.iconst 0, 1) := by decide +kernel
theorem d_qn_callDataFunction_170 : decode qn_callDataFunction_c 170 = .ok (.invokevirtual 266, 3) := by decide +kernel
theorem d_qn_callDataFunction_173 : decode qn_callDataFunction_c 173 = .ok (.aload_n 0, 1) := by decide +kernel
theorem d_qn_callDataFunction_174 : decode qn_callDataFunction_c 174 = .ok (.iconst 1, 1) := by decide +kernel
theorem d_qn_callDataFunction_175 : decode qn_callDataFunction_c 175 = .ok (.invokevirtual 266, 3) := by decide +kernel
theorem d_qn_callDataFunction_178 : decode qn_callDataFunction_c 178 = .ok (.invokevirtual 211, 3) := by decide +kernel
theorem d_qn_callDataFunction_181 : decode qn_callDataFunction_c 181 = .ok (.invokevirtual 304, 3) := by decide +kernel
theorem d_qn_callDataFunction_184 : decode qn_callDataFunction_c 184 = .ok (.goto 81, 3) := by decide +kernel
theorem d_qn_callDataFunction_187 : decode qn_callDataFunction_c 187 = .ok (.aload_n 0, 1) := by decide +kernel
theorem d_qn_callDataFunction_188 : decode qn_callDataFunction_c 188 = .ok (.aload_n 0, 1) := by decide +kernel
theorem d_qn_callDataFunction_189 : decode qn_callDataFunction_c 189 = .ok (.getfield 9, 3) := by decide +kernel
theorem d_qn_callDataFunction_192 : decode qn_callDataFunction_c 192 = .ok (.aload_n 0, 1) := by decide +kernel
theorem d_qn_callDataFunction_193 : decode qn_callDataFunction_c 193 = .ok (.iconst 0, 1) := by decide +kernel
theorem d_qn_callDataFunction_194 : decode qn_callDataFunction_c 194 = .ok (.invokevirtual 266, 3) := by decide +kernel
theorem d_qn_callDataFunction_197 : decode qn_callDataFunction_c 197 = .ok (.invokevirtual 120, 3) := by decide +kernel
theorem d_qn_callDataFunction_200 : decode qn_callDataFunction_c 200 = .ok (.invokevirtual 106, 3) := by decide +kernel
theorem d_qn_callDataFunction_203 : decode qn_callDataFunction_c 203 = .ok (.goto 62, 3) := by decide +kernel
theorem d_qn_callDataFunction_206 : decode qn_callDataFunction_c 206 = .ok (.aload_n 0, 1) := by decide +kernel
theorem d_qn_callDataFunction_207 : decode qn_callDataFunction_c 207 = .ok (.aload_n 0, 1) := by decide +kernel
theorem d_qn_callDataFunction_208 : decode qn_callDataFunction_c 208 = .ok (.getfield 9, 3) := by decide +kernel
theorem d_qn_callDataFunction_211 : decode qn_callDataFunction_c 211 = .ok (.aload_n 0, 1) := by decide +kernel
theorem d_qn_callDataFunction_212 : decode qn_callDataFunction_c 212 = .ok (.iconst 0, 1) := by decide +kernel
theorem d_qn_callDataFunction_213 : decode qn_callDataFunction_c 213 = .ok (.invokevirtual 266, 3) := by decide +kernel
theorem d_qn_callDataFunction_216 : decode qn_callDataFunction_c 216 = .ok (.invokevirtual 124, 3) := by decide +kernel
theorem d_qn_callDataFunction_219 : decode qn_callDataFunction_c 219 = .ok (.invokevirtual 106, 3) := by decide +kernel
theorem d_qn_callDataFunction_222 : decode qn_callDataFunction_c 222 = .ok (.goto 43, 3) := by decide +kernel
theorem d_qn_callDataFunction_225 : decode qn_callDataFunction_c 225 = .ok (.aload_n 0, 1) := by decide +kernel
theorem d_qn_callDataFunction_226 : decode qn_callDataFunction_c 226 = .ok (.aload_n 0, 1) := by decide +kernel
theorem d_qn_callDataFunction_227 : decode qn_callDataFunction_c 227 = .ok (.iconst 0, 1) := by decide +kernel
theorem d_qn_callDataFunction_228 : decode qn_callDataFunction_c 228 = .ok (.invokevirtual 266, 3) := by decide +kernel
theorem d_qn_callDataFunction_231 : decode qn_callDataFunction_c 231 = .ok (.ldc2_w 50, 3) := by decide +kernel
theorem d_qn_callDataFunction_234 : decode qn_callDataFunction_c 234 = .ok (.lcmp, 1) := by decide +kernel
theorem d_qn_callDataFunction_235 : decode qn_callDataFunction_c 235 = .ok (.ifCond .ne 7, 3) := by decide +kernel
theorem d_qn_callDataFunction_238 : decode qn_callDataFunction_c 238 = .ok (.iconst 1, 1) := by decide +kernel
theorem d_qn_callDataFunction_239 : decode qn_callDataFunction_c 239 = .ok (.goto 4, 3) := by decide +kernel
theorem d_qn_callDataFunction_242 : decode qn_callDataFunction_c 242 = .ok (.iconst 0, 1) := by decide +kernel
theorem d_qn_callDataFunction_243 : decode qn_callDataFunction_c 243 = .ok (.invokestatic 323, 3) := by decide +kernel
theorem d_qn_callDataFunction_246 : decode qn_callDataFunction_c 246 = .ok (.invokevirtual 106, 3) := by decide +kernel
theorem d_qn_callDataFunction_249 : decode qn_callDataFunction_c 249 = .ok (.goto 16, 3) := by decide +kernel
theorem d_qn_callDataFunction_252 : decode qn_callDataFunction_c 252 = .ok (.aload_n 0, 1) := by decide +kernel
theorem d_qn_callDataFunction_253 : decode qn_callDataFunction_c 253 = .ok (.aload_n 0, 1) := by decide +kernel
theorem d_qn_callDataFunction_254 : decode qn_callDataFunction_c 254 = .ok (.iconst 0, 1) := by decide +kernel
theorem d_qn_callDataFunction_255 : decode qn_callDataFunction_c 255 = .ok (.iconst 4, 1) := by decide +kernel
theorem d_qn_callDataFunction_256 : decode qn_callDataFunction_c 256 = .ok (.invokevirtual 275, 3) := by decide +kernel
theorem d_qn_callDataFunction_259 : decode qn_callDataFunction_c 259 = .ok (.invokestatic 323, 3) := by decide +kernel
theorem d_qn_callDataFunction_262 : decode qn_callDataFunction_c 262 = .ok (.invokevirtual 106, 3) := by decide +kernel
theorem d_qn_callDataFunction_265 : decode qn_callDataFunction_c 265 = .ok (.return_, 1) := by decide +kernel
theorem d_qn_makeEnvironment_0 : decode qn_makeEnvironment_c 0 = .ok (.aload_n 0, 1) := by decide +kernel
theorem d_qn_makeEnvironment_1 : decode qn_makeEnvironment_c 1 = .ok (.bipush 7, 2) := by decide +kernel
theorem d_qn_makeEnvironment_3 : decode qn_makeEnvironment_c 3 = .ok (.aload_n 0, 1) := by decide +kernel
theorem d_qn_makeEnvironment_4 : decode qn_makeEnvironment_c 4 = .ok (.getfield 9, 3) := by decide +kernel
theorem d_qn_makeEnvironment_7 : decode qn_makeEnvironment_c 7 = .ok (.iload_n 1, 1) := by decide +kernel
theorem d_qn_makeEnvironment_8 : decode qn_makeEnvironment_c 8 = .ok (.invokevirtual 226, 3) := by decide +kernel
theorem d_qn_makeEnvironment_11 : decode qn_makeEnvironment_c 11 = .ok (.invokevirtual 304, 3) := by decide +kernel
theorem d_qn_makeEnvironment_14 : decode qn_makeEnvironment_c 14 = .ok (.return_, 1) := by decide +kernel
theorem d_qn_applyWithoutScope_0 : decode qn_applyWithoutScope_c 0 = .ok (.aload_n 0, 1) := by decide +kernel
theorem d_qn_applyWithoutScope_1 : decode qn_applyWithoutScope_c 1 = .ok (.getfield 9, 3) := by decide +kernel
theorem d_qn_applyWithoutScope_4 : decode qn_applyWithoutScope_c 4 = .ok (.iconst (-1), 1) := by decide +kernel
theorem d_qn_applyWithoutScope_5 : decode qn_applyWithoutScope_c 5 = .ok (.invokevirtual 226, 3) := by decide +kernel
theorem d_qn_applyWithoutScope_8 : decode qn_applyWithoutScope_c 8 = .ok (.istore_n 1, 1) := by decide +kernel
theorem d_qn_applyWithoutScope_9 : decode qn_applyWithoutScope_c 9 = .ok (.iload_n 1, 1) := by decide +kernel
theorem d_qn_applyWithoutScope_10 : decode qn_applyWithoutScope_c 10 = .ok (.iconst (-1), 1) := by decide +kernel
theorem d_qn_applyWithoutScope_11 : decode qn_applyWithoutScope_c 11 = .ok (.if_icmp .ne 10, 3) := by decide +kernel
theorem d_qn_applyWithoutScope_14 : decode qn_applyWithoutScope_c 14 = .ok (.aload_n 0, 1) := by decide +kernel
theorem d_qn_applyWithoutScope_15 : decode qn_applyWithoutScope_c 15 = .ok (.bipush (-5), 2) := by decide +kernel
theorem d_qn_applyWithoutScope_17 : decode qn_applyWithoutScope_c 17 = .ok (.invokevirtual 99, 3) := by decide +kernel
theorem d_qn_applyWithoutScope_20 : decode qn_applyWithoutScope_c 20 = .ok (.return_, 1) := by decide +kernel
theorem d_qn_applyWithoutScope_21 : decode qn_applyWithoutScope_c 21 = .ok (.aload_n 0, 1) := by decide +kernel
theorem d_qn_applyWithoutScope_22 : decode qn_applyWithoutScope_c 22 = .ok (.getfield 9, 3) := by decide +kernel
theorem d_qn_applyWithoutScope_25 : decode qn_applyWithoutScope_c 25 = .ok (.aload_n 0, 1) := by decide +kernel
theorem d_qn_applyWithoutScope_26 : decode qn_applyWithoutScope_c 26 = .ok (.iconst 0, 1) := by decide +kernel
theorem d_qn_applyWithoutScope_27 : decode qn_applyWithoutScope_c 27 = .ok (.invokevirtual 266, 3) := by decide +kernel
theorem d_qn_applyWithoutScope_30 : decode qn_applyWithoutScope_c 30 = .ok (.invokevirtual 198, 3) := by decide +kernel
theorem d_qn_applyWithoutScope_33 : decode qn_applyWithoutScope_c 33 = .ok (.lstore_n 2, 1) := by decide +kernel
theorem d_qn_applyWithoutScope_34 : decode qn_applyWithoutScope_c 34 = .ok (.aload_n 0, 1) := by decide +kernel
theorem d_qn_applyWithoutScope_35 : decode qn_applyWithoutScope_c 35 = .ok (.iconst 1, 1) := by decide +kernel
theorem d_qn_applyWithoutScope_36 : decode qn_applyWithoutScope_c 36 = .ok (.invokevirtual 266, 3) := by decide +kernel
theorem d_qn_applyWithoutScope_39 : decode qn_applyWithoutScope_c 39 = .ok (.lstore 4, 2) := by decide +kernel
theorem d_qn_applyWithoutScope_41 : decode qn_applyWithoutScope_c 41 = .ok (.aload_n 0, 1) := by decide +kernel
theorem d_qn_applyWithoutScope_42 : decode qn_applyWithoutScope_c 42 = .ok (.iload_n 1, 1) := by decide +kernel
theorem d_qn_applyWithoutScope_43 : decode qn_applyWithoutScope_c 43 = .ok (.putfield 61, 3) := by decide +kernel
theorem d_qn_applyWithoutScope_46 : decode qn_applyWithoutScope_c 46 = .ok (.aload_n 0, 1) := by decide +kernel
theorem d_qn_applyWithoutScope_47 : decode qn_applyWithoutScope_c 47 = .ok (.lload_n 2, 1) := by decide +kernel
theorem d_qn_applyWithoutScope_48 : decode qn_applyWithoutScope_c 48 = .ok (.lload 4, 2) := by decide +kernel
theorem d_qn_applyWithoutScope_50 : decode qn_applyWithoutScope_c 50 = .ok (.invokevirtual 168, 3) := by decide +kernel
theorem d_qn_applyWithoutScope_53 : decode qn_applyWithoutScope_c 53 = .ok (.return_, 1) := by decide +kernel
theorem d_qn_callScopeFunction_0 : decode qn_callScopeFunction_c 0 = .ok (.iload_n 1, 1) := by decide +kernel
theorem d_qn_callScopeFunction_1 : decode qn_callScopeFunction_c 1 = .ok (.tableswitch 133 20 25 #[39, 63, 84, 103, 126, 133], 39) := by decide +kernel
theorem d_qn_callScopeFunction_40 : decode qn_callScopeFunction_c 40 = .ok (.aload_n 0, 1) := by decide +kernel
theorem d_qn_callScopeFunction_41 : decode qn_callScopeFunction_c 41 = .ok (.aload_n 0, 1) := by decide +kernel
theorem d_qn_callScopeFunction_42 : decode qn_callScopeFunction_c 42 = .ok (.iconst 1, 1) := by decide +kernel
theorem d_qn_callScopeFunction_43 : decode qn_callScopeFunction_c 43 = .ok (.invokevirtual 266, 3) := by decide +kernel
theorem d_qn_callScopeFunction_46 : decode qn_callScopeFunction_c 46 = .ok (.invokestatic 88, 3) := by decide +kernel
theorem d_qn_callScopeFunction_49 : decode qn_callScopeFunction_c 49 = .ok (.putfield 61, 3) := by decide +kernel
theorem d_qn_callScopeFunction_52 : decode qn_callScopeFunction_c 52 = .ok (.aload_n 0, 1) := by decide +kernel
theorem d_qn_callScopeFunction_53 : decode qn_callScopeFunction_c 53 = .ok (.aload_n 0, 1) := by decide +kernel
theorem d_qn_callScopeFunction_54 : decode qn_callScopeFunction_c 54 = .ok (.iconst 0, 1) := by decide +kernel
theorem d_qn_callScopeFunction_55 : decode qn_callScopeFunction_c 55 = .ok (.invokevirtual 266, 3) := by decide +kernel
theorem d_qn_callScopeFunction_58 : decode qn_callScopeFunction_c 58 = .ok (.invokevirtual 77, 3) := by decide +kernel
theorem d_qn_callScopeFunction_61 : decode qn_callScopeFunction_c 61 = .ok (.goto 81, 3) := by decide +kernel
theorem d_qn_callScopeFunction_64 : decode qn_callScopeFunction_c 64 = .ok (.aload_n 0, 1) := by decide +kernel
theorem d_qn_callScopeFunction_65 : decode qn_callScopeFunction_c 65 = .ok (.bipush 6, 2) := by decide +kernel
theorem d_qn_callScopeFunction_67 : decode qn_callScopeFunction_c 67 = .ok (.aload_n 0, 1) := by decide +kernel
theorem d_qn_callScopeFunction_68 : decode qn_callScopeFunction_c 68 = .ok (.getfield 9, 3) := by decide +kernel
theorem d_qn_callScopeFunction_71 : decode qn_callScopeFunction_c 71 = .ok (.aload_n 0, 1) := by decide +kernel
theorem d_qn_callScopeFunction_72 : decode qn_callScopeFunction_c 72 = .ok (.iconst 0, 1) := by decide +kernel
theorem d_qn_callScopeFunction_73 : decode qn_callScopeFunction_c 73 = .ok (.invokevirtual 266, 3) := by decide +kernel
theorem d_qn_callScopeFunction_76 : decode qn_callScopeFunction_c 76 = .ok (.invokevirtual 307, 3) := by decide +kernel
theorem d_qn_callScopeFunction_79 : decode qn_callScopeFunction_c 79 = .ok (.invokevirtual 304, 3) := by decide +kernel
theorem d_qn_callScopeFunction_82 : decode qn_callScopeFunction_c 82 = .ok (.goto 60, 3) := by decide +kernel
theorem d_qn_callScopeFunction_85 : decode qn_callScopeFunction_c 85 = .ok (.aload_n 0, 1) := by decide +kernel
theorem d_qn_callScopeFunction_86 : decode qn_callScopeFunction_c 86 = .ok (.aload_n 0, 1) := by decide +kernel
theorem d_qn_callScopeFunction_87 : decode qn_callScopeFunction_c 87 = .ok (.getfield 9, 3) := by decide +kernel
theorem d_qn_callScopeFunction_90 : decode qn_callScopeFunction_c 90 = .ok (.aload_n 0, 1) := by decide +kernel
theorem d_qn_callScopeFunction_91 : decode qn_callScopeFunction_c 91 = .ok (.iconst 0, 1) := by decide +kernel
theorem d_qn_callScopeFunction_92 : decode qn_callScopeFunction_c 92 = .ok (.invokevirtual 266, 3) := by decide +kernel
theorem d_qn_callScopeFunction_95 : decode qn_callScopeFunction_c 95 = .ok (.invokevirtual 198, 3) := by decide +kernel
theorem d_qn_callScopeFunction_98 : decode qn_callScopeFunction_c 98 = .ok (.invokevirtual 106, 3) := by decide +kernel
theorem d_qn_callScopeFunction_101 : decode qn_callScopeFunction_c 101 = .ok (.goto 41, 3) := by decide +kernel
theorem d_qn_callScopeFunction_104 : decode qn_callScopeFunction_c 104 = .ok (.aload_n 0, 1) := by decide +kernel
theorem d_qn_callScopeFunction_105 : decode qn_callScopeFunction_c 105 = .ok (.iload_n 2, 1) := by decide +kernel
theorem d_qn_callScopeFunction_106 : decode qn_callScopeFunction_c 106 = .ok (.ifCond .ne 7, 3) := by decide +kernel
theorem d_qn_callScopeFunction_109 : decode qn_callScopeFunction_c 109 = .ok (.iconst (-1), 1) := by decide +kernel
theorem d_qn_callScopeFunction_110 : decode qn_callScopeFunction_c 110 = .ok (.goto 11, 3) := by decide +kernel
theorem d_qn_callScopeFunction_113 : decode qn_callScopeFunction_c 113 = .ok (.aload_n 0, 1) := by decide +kernel
theorem d_qn_callScopeFunction_114 : decode qn_callScopeFunction_c 114 = .ok (.iconst 0, 1) := by decide +kernel
theorem d_qn_callScopeFunction_115 : decode qn_callScopeFunction_c 115 = .ok (.invokevirtual 266, 3) := by decide +kernel
theorem d_qn_callScopeFunction_118 : decode qn_callScopeFunction_c 118 = .ok (.invokestatic 88, 3) := by decide +kernel
theorem d_qn_callScopeFunction_121 : decode qn_callScopeFunction_c 121 = .ok (.invokevirtual 331, 3) := by decide +kernel
theorem d_qn_callScopeFunction_124 : decode qn_callScopeFunction_c 124 = .ok (.goto 18, 3) := by decide +kernel
theorem d_qn_callScopeFunction_127 : decode qn_callScopeFunction_c 127 = .ok (.aload_n 0, 1) := by decide +kernel
theorem d_qn_callScopeFunction_128 : decode qn_callScopeFunction_c 128 = .ok (.invokevirtual 334, 3) := by decide +kernel
theorem d_qn_callScopeFunction_131 : decode qn_callScopeFunction_c 131 = .ok (.goto 11, 3) := by decide +kernel
theorem d_qn_callScopeFunction_134 : decode qn_callScopeFunction_c 134 = .ok (.aload_n 0, 1) := by decide +kernel
theorem d_qn_callScopeFunction_135 : decode qn_callScopeFunction_c 135 = .ok (.aload_n 0, 1) := by decide +kernel
theorem d_qn_callScopeFunction_136 : decode qn_callScopeFunction_c 136 = .ok (.getfield 56, 3) := by decide +kernel
theorem d_qn_callScopeFunction_139 : decode qn_callScopeFunction_c 139 = .ok (.invokevirtual 106, 3) := by decide +kernel
theorem d_qn_callScopeFunction_142 : decode qn_callScopeFunction_c 142 = .ok (.return_, 1) := by decide +kernel
theorem d_qn_callPrimitive_0 : decode qn_callPrimitive_c 0 = .ok (.aload_n 0, 1) := by decide +kernel
theorem d_qn_callPrimitive_1 : decode qn_callPrimitive_c 1 = .ok (.getfield 9, 3) := by decide +kernel
theorem d_qn_callPrimitive_4 : decode qn_callPrimitive_c 4 = .ok (.aload_n 0, 1) := by decide +kernel
theorem d_qn_callPrimitive_5 : decode qn_callPrimitive_c 5 = .ok (.getfield 56, 3) := by decide +kernel
theorem d_qn_callPrimitive_8 : decode qn_callPrimitive_c 8 = .ok (.invokevirtual 195, 3) := by decide +kernel
theorem d_qn_callPrimitive_11 : decode qn_callPrimitive_c 11 = .ok (.istore_n 2, 1) := by decide +kernel
theorem d_qn_callPrimitive_12 : decode qn_callPrimitive_c 12 = .ok (.aload_n 0, 1) := by decide +kernel
theorem d_qn_callPrimitive_13 : decode qn_callPrimitive_c 13 = .ok (.iload_n 1, 1) := by decide +kernel
theorem d_qn_callPrimitive_14 : decode qn_callPrimitive_c 14 = .ok (.iload_n 2, 1) := by decide +kernel
theorem d_qn_callPrimitive_15 : decode qn_callPrimitive_c 15 = .ok (.invokevirtual 246, 3) := by decide +kernel
theorem d_qn_callPrimitive_18 : decode qn_callPrimitive_c 18 = .ok (.ifCond .eq 12, 3) := by decide +kernel
theorem d_qn_callPrimitive_21 : decode qn_callPrimitive_c 21 = .ok (.aload_n 0, 1) := by decide +kernel
theorem d_qn_callPrimitive_22 : decode qn_callPrimitive_c 22 = .ok (.iload_n 1, 1) := by decide +kernel
theorem d_qn_callPrimitive_23 : decode qn_callPrimitive_c 23 = .ok (.iload_n 2, 1) := by decide +kernel
theorem d_qn_callPrimitive_24 : decode qn_callPrimitive_c 24 = .ok (.invokevirtual 249, 3) := by decide +kernel
theorem d_qn_callPrimitive_27 : decode qn_callPrimitive_c 27 = .ok (.ifCond .ne 12, 3) := by decide +kernel
theorem d_qn_callPrimitive_30 : decode qn_callPrimitive_c 30 = .ok (.aload_n 0, 1) := by decide +kernel
theorem d_qn_callPrimitive_31 : decode qn_callPrimitive_c 31 = .ok (.bipush (-8), 2) := by decide +kernel
theorem d_qn_callPrimitive_33 : decode qn_callPrimitive_c 33 = .ok (.invokevirtual 99, 3) := by decide +kernel
theorem d_qn_callPrimitive_36 : decode qn_callPrimitive_c 36 = .ok (.goto 37, 3) := by decide +kernel
theorem d_qn_callPrimitive_39 : decode qn_callPrimitive_c 39 = .ok (.iload_n 1, 1) := by decide +kernel
theorem d_qn_callPrimitive_40 : decode qn_callPrimitive_c 40 = .ok (.bipush 10, 2) := by decide +kernel
theorem d_qn_callPrimitive_42 : decode qn_callPrimitive_c 42 = .ok (.if_icmp .ge 11, 3) := by decide +kernel
theorem d_qn_callPrimitive_45 : decode qn_callPrimitive_c 45 = .ok (.aload_n 0, 1) := by decide +kernel
theorem d_qn_callPrimitive_46 : decode qn_callPrimitive_c 46 = .ok (.iload_n 1, 1) := by decide +kernel
theorem d_qn_callPrimitive_47 : decode qn_callPrimitive_c 47 = .ok (.invokevirtual 252, 3) := by decide +kernel
theorem d_qn_callPrimitive_50 : decode qn_callPrimitive_c 50 = .ok (.goto 23, 3) := by decide +kernel
theorem d_qn_callPrimitive_53 : decode qn_callPrimitive_c 53 = .ok (.iload_n 1, 1) := by decide +kernel
theorem d_qn_callPrimitive_54 : decode qn_callPrimitive_c 54 = .ok (.bipush 20, 2) := by decide +kernel
theorem d_qn_callPrimitive_56 : decode qn_callPrimitive_c 56 = .ok (.if_icmp .ge 11, 3) := by decide +kernel
theorem d_qn_callPrimitive_59 : decode qn_callPrimitive_c 59 = .ok (.aload_n 0, 1) := by decide +kernel
theorem d_qn_callPrimitive_60 : decode qn_callPrimitive_c 60 = .ok (.iload_n 1, 1) := by decide +kernel
theorem d_qn_callPrimitive_61 : decode qn_callPrimitive_c 61 = .ok (.invokevirtual 255, 3) := by decide +kernel
theorem d_qn_callPrimitive_64 : decode qn_callPrimitive_c 64 = .ok (.goto 9, 3) := by decide +kernel
theorem d_qn_callPrimitive_67 : decode qn_callPrimitive_c 67 = .ok (.aload_n 0, 1) := by decide +kernel
theorem d_qn_callPrimitive_68 : decode qn_callPrimitive_c 68 = .ok (.iload_n 1, 1) := by decide +kernel
theorem d_qn_callPrimitive_69 : decode qn_callPrimitive_c 69 = .ok (.iload_n 2, 1) := by decide +kernel
theorem d_qn_callPrimitive_70 : decode qn_callPrimitive_c 70 = .ok (.invokevirtual 258, 3) := by decide +kernel
theorem d_qn_callPrimitive_73 : decode qn_callPrimitive_c 73 = .ok (.return_, 1) := by decide +kernel
theorem d_qf_isEmpty_0 : decode qf_isEmpty_c 0 = .ok (.aload_n 0, 1) := by decide +kernel
theorem d_qf_isEmpty_1 : decode qf_isEmpty_c 1 = .ok (.getfield 26, 3) := by decide +kernel
theorem d_qf_isEmpty_4 : decode qf_isEmpty_c 4 = .ok (.ifCond .gt 7, 3) := by decide +kernel
theorem d_qf_isEmpty_7 : decode qf_isEmpty_c 7 = .ok (.iconst 1, 1) := by decide +kernel
theorem d_qf_isEmpty_8 : decode qf_isEmpty_c 8 = .ok (.goto 4, 3) := by decide +kernel
theorem d_qf_isEmpty_11 : decode qf_isEmpty_c 11 = .ok (.iconst 0, 1) := by decide +kernel
theorem d_qf_isEmpty_12 : decode qf_isEmpty_c 12 = .ok (.ireturn, 1) := by decide +kernel
theorem d_qf_take_0 : decode qf_take_c 0 = .ok (.aload_n 0, 1) := by decide +kernel
theorem d_qf_take_1 : decode qf_take_c 1 = .ok (.getfield 26, 3) := by decide +kernel
theorem d_qf_take_4 : decode qf_take_c 4 = .ok (.ifCond .le 13, 3) := by decide +kernel
theorem d_qf_take_7 : decode qf_take_c 7 = .ok (.aload_n 0, 1) := by decide +kernel
theorem d_qf_take_8 : decode qf_take_c 8 = .ok (.dup, 1) := by decide +kernel
theorem d_qf_take_9 : decode qf_take_c 9 = .ok (.getfield 26, 3) := by decide +kernel
theorem d_qf_take_12 : decode qf_take_c 12 = .ok (.iconst 1, 1) := by decide +kernel
theorem d_qf_take_13 : decode qf_take_c 13 = .ok (.isub, 1) := by decide +kernel
theorem d_qf_take_14 : decode qf_take_c 14 = .ok (.putfield 26, 3) := by decide +kernel
theorem d_qf_take_17 : decode qf_take_c 17 = .ok (.return_, 1) := by decide +kernel
theorem d_qf_canRead_0 : decode qf_canRead_c 0 = .ok (.aload_n 0, 1) := by decide +kernel
theorem d_qf_canRead_1 : decode qf_canRead_c 1 = .ok (.getfield 26, 3) := by decide +kernel
theorem d_qf_canRead_4 : decode qf_canRead_c 4 = .ok (.ifCond .lt 17, 3) := by decide +kernel
theorem d_qf_canRead_7 : decode qf_canRead_c 7 = .ok (.aload_n 0, 1) := by decide +kernel
theorem d_qf_canRead_8 : decode qf_canRead_c 8 = .ok (.getfield 26, 3) := by decide +kernel
theorem d_qf_canRead_11 : decode qf_canRead_c 11 = .ok (.sipush 300, 3) := by decide +kernel
theorem d_qf_canRead_14 : decode qf_canRead_c 14 = .ok (.if_icmp .ge 7, 3) := by decide +kernel
theorem d_qf_canRead_17 : decode qf_canRead_c 17 = .ok (.iconst 1, 1) := by decide +kernel
theorem d_qf_canRead_18 : decode qf_canRead_c 18 = .ok (.goto 4, 3) := by decide +kernel
theorem d_qf_canRead_21 : decode qf_canRead_c 21 = .ok (.iconst 0, 1) := by decide +kernel
theorem d_qf_canRead_22 : decode qf_canRead_c 22 = .ok (.ireturn, 1) := by decide +kernel
theorem d_qf_environment_0 : decode qf_environment_c 0 = .ok (.aload_n 0, 1) := by decide +kernel
theorem d_qf_environment_1 : decode qf_environment_c 1 = .ok (.invokevirtual 33, 3) := by decide +kernel
theorem d_qf_environment_4 : decode qf_environment_c 4 = .ok (.ifCond .eq 15, 3) := by decide +kernel
theorem d_qf_environment_7 : decode qf_environment_c 7 = .ok (.aload_n 0, 1) := by decide +kernel
theorem d_qf_environment_8 : decode qf_environment_c 8 = .ok (.getfield 13, 3) := by decide +kernel
theorem d_qf_environment_11 : decode qf_environment_c 11 = .ok (.aload_n 0, 1) := by decide +kernel
theorem d_qf_environment_12 : decode qf_environment_c 12 = .ok (.getfield 26, 3) := by decide +kernel
theorem d_qf_environment_15 : decode qf_environment_c 15 = .ok (.iaload, 1) := by decide +kernel
theorem d_qf_environment_16 : decode qf_environment_c 16 = .ok (.goto 4, 3) := by decide +kernel
theorem d_qf_environment_19 : decode qf_environment_c 19 = .ok (.iconst (-1), 1) := by decide +kernel
theorem d_qf_environment_20 : decode qf_environment_c 20 = .ok (.ireturn, 1) := by decide +kernel
theorem d_qf_rest_0 : decode qf_rest_c 0 = .ok (.aload_n 0, 1) := by decide +kernel
theorem d_qf_rest_1 : decode qf_rest_c 1 = .ok (.invokevirtual 33, 3) := by decide +kernel
theorem d_qf_rest_4 : decode qf_rest_c 4 = .ok (.ifCond .eq 15, 3) := by decide +kernel
theorem d_qf_rest_7 : decode qf_rest_c 7 = .ok (.aload_n 0, 1) := by decide +kernel
theorem d_qf_rest_8 : decode qf_rest_c 8 = .ok (.getfield 16, 3) := by decide +kernel
theorem d_qf_rest_11 : decode qf_rest_c 11 = .ok (.aload_n 0, 1) := by decide +kernel
theorem d_qf_rest_12 : decode qf_rest_c 12 = .ok (.getfield 26, 3) := by decide +kernel
theorem d_qf_rest_15 : decode qf_rest_c 15 = .ok (.laload, 1) := by decide +kernel
theorem d_qf_rest_16 : decode qf_rest_c 16 = .ok (.goto 6, 3) := by decide +kernel
theorem d_qf_rest_19 : decode qf_rest_c 19 = .ok (.ldc2_w 41, 3) := by decide +kernel
theorem d_qf_rest_22 : decode qf_rest_c 22 = .ok (.lreturn, 1) := by decide +kernel
theorem d_qf_task_0 : decode qf_task_c 0 = .ok (.aload_n 0, 1) := by decide +kernel
theorem d_qf_task_1 : decode qf_task_c 1 = .ok (.invokevirtual 33, 3) := by decide +kernel
theorem d_qf_task_4 : decode qf_task_c 4 = .ok (.ifCond .eq 15, 3) := by decide +kernel
theorem d_qf_task_7 : decode qf_task_c 7 = .ok (.aload_n 0, 1) := by decide +kernel
theorem d_qf_task_8 : decode qf_task_c 8 = .ok (.getfield 9, 3) := by decide +kernel
theorem d_qf_task_11 : decode qf_task_c 11 = .ok (.aload_n 0, 1) := by decide +kernel
theorem d_qf_task_12 : decode qf_task_c 12 = .ok (.getfield 26, 3) := by decide +kernel
theorem d_qf_task_15 : decode qf_task_c 15 = .ok (.iaload, 1) := by decide +kernel
theorem d_qf_task_16 : decode qf_task_c 16 = .ok (.goto 4, 3) := by decide +kernel
theorem d_qf_task_19 : decode qf_task_c 19 = .ok (.iconst 0, 1) := by decide +kernel
theorem d_qf_task_20 : decode qf_task_c 20 = .ok (.ireturn, 1) := by decide +kernel
theorem d_qf_held_0 : decode qf_held_c 0 = .ok (.aload_n 0, 1) := by decide +kernel
theorem d_qf_held_1 : decode qf_held_c 1 = .ok (.invokevirtual 33, 3) := by decide +kernel
theorem d_qf_held_4 : decode qf_held_c 4 = .ok (.ifCond .eq 15, 3) := by decide +kernel
theorem d_qf_held_7 : decode qf_held_c 7 = .ok (.aload_n 0, 1) := by decide +kernel
theorem d_qf_held_8 : decode qf_held_c 8 = .ok (.getfield 20, 3) := by decide +kernel
theorem d_qf_held_11 : decode qf_held_c 11 = .ok (.aload_n 0, 1) := by decide +kernel
theorem d_qf_held_12 : decode qf_held_c 12 = .ok (.getfield 26, 3) := by decide +kernel
theorem d_qf_held_15 : decode qf_held_c 15 = .ok (.laload, 1) := by decide +kernel
theorem d_qf_held_16 : decode qf_held_c 16 = .ok (.goto 6, 3) := by decide +kernel
theorem d_qf_held_19 : decode qf_held_c 19 = .ok (.ldc2_w 41, 3) := by decide +kernel
theorem d_qf_held_22 : decode qf_held_c 22 = .ok (.lreturn, 1) := by decide +kernel
theorem d_qf_gathered_0 : decode qf_gathered_c 0 = .ok (.aload_n 0, 1) := by decide +kernel
theorem d_qf_gathered_1 : decode qf_gathered_c 1 = .ok (.invokevirtual 33, 3) := by decide +kernel
theorem d_qf_gathered_4 : decode qf_gathered_c 4 = .ok (.ifCond .eq 15, 3) := by decide +kernel
theorem d_qf_gathered_7 : decode qf_gathered_c 7 = .ok (.aload_n 0, 1) := by decide +kernel
theorem d_qf_gathered_8 : decode qf_gathered_c 8 = .ok (.getfield 23, 3) := by decide +kernel
theorem d_qf_gathered_11 : decode qf_gathered_c 11 = .ok (.aload_n 0, 1) := by decide +kernel
theorem d_qf_gathered_12 : decode qf_gathered_c 12 = .ok (.getfield 26, 3) := by decide +kernel
theorem d_qf_gathered_15 : decode qf_gathered_c 15 = .ok (.iaload, 1) := by decide +kernel
theorem d_qf_gathered_16 : decode qf_gathered_c 16 = .ok (.goto 4, 3) := by decide +kernel
theorem d_qf_gathered_19 : decode qf_gathered_c 19 = .ok (.iconst 0, 1) := by decide +kernel
theorem d_qf_gathered_20 : decode qf_gathered_c 20 = .ok (.ireturn, 1) := by decide +kernel
theorem d_qn_takeArgument_0 : decode qn_takeArgument_c 0 = .ok (.aload_n 0, 1) := by decide +kernel
theorem d_qn_takeArgument_1 : decode qn_takeArgument_c 1 = .ok (.getfield 41, 3) := by decide +kernel
theorem d_qn_takeArgument_4 : decode qn_takeArgument_c 4 = .ok (.ifCond .lt 13, 3) := by decide +kernel
theorem d_qn_takeArgument_7 : decode qn_takeArgument_c 7 = .ok (.aload_n 0, 1) := by decide +kernel
theorem d_qn_takeArgument_8 : decode qn_takeArgument_c 8 = .ok (.getfield 41, 3) := by decide +kernel
theorem d_qn_takeArgument_11 : decode qn_takeArgument_c 11 = .ok (.sipush 1500, 3) := by decide +kernel
theorem d_qn_takeArgument_14 : decode qn_takeArgument_c 14 = .ok (.if_icmp .lt 10, 3) := by decide +kernel
theorem d_qn_takeArgument_17 : decode qn_takeArgument_c 17 = .ok (.aload_n 0, 1) := by decide +kernel
theorem d_qn_takeArgument_18 : decode qn_takeArgument_c 18 = .ok (.bipush (-10), 2) := by decide +kernel
theorem d_qn_takeArgument_20 : decode qn_takeArgument_c 20 = .ok (.invokevirtual 99, 3) := by decide +kernel
theorem d_qn_takeArgument_23 : decode qn_takeArgument_c 23 = .ok (.return_, 1) := by decide +kernel
theorem d_qn_takeArgument_24 : decode qn_takeArgument_c 24 = .ok (.aload_n 0, 1) := by decide +kernel
theorem d_qn_takeArgument_25 : decode qn_takeArgument_c 25 = .ok (.getfield 31, 3) := by decide +kernel
theorem d_qn_takeArgument_28 : decode qn_takeArgument_c 28 = .ok (.aload_n 0, 1) := by decide +kernel
theorem d_qn_takeArgument_29 : decode qn_takeArgument_c 29 = .ok (.getfield 41, 3) := by decide +kernel
theorem d_qn_takeArgument_32 : decode qn_takeArgument_c 32 = .ok (.aload_n 0, 1) := by decide +kernel
theorem d_qn_takeArgument_33 : decode qn_takeArgument_c 33 = .ok (.getfield 52, 3) := by decide +kernel
theorem d_qn_takeArgument_36 : decode qn_takeArgument_c 36 = .ok (.lastore, 1) := by decide +kernel
theorem d_qn_takeArgument_37 : decode qn_takeArgument_c 37 = .ok (.aload_n 0, 1) := by decide +kernel
theorem d_qn_takeArgument_38 : decode qn_takeArgument_c 38 = .ok (.dup, 1) := by decide +kernel
theorem d_qn_takeArgument_39 : decode qn_takeArgument_c 39 = .ok (.getfield 41, 3) := by decide +kernel
theorem d_qn_takeArgument_42 : decode qn_takeArgument_c 42 = .ok (.iconst 1, 1) := by decide +kernel
theorem d_qn_takeArgument_43 : decode qn_takeArgument_c 43 = .ok (.iadd, 1) := by decide +kernel
theorem d_qn_takeArgument_44 : decode qn_takeArgument_c 44 = .ok (.putfield 41, 3) := by decide +kernel
theorem d_qn_takeArgument_47 : decode qn_takeArgument_c 47 = .ok (.aload_n 0, 1) := by decide +kernel
theorem d_qn_takeArgument_48 : decode qn_takeArgument_c 48 = .ok (.lload_n 1, 1) := by decide +kernel
theorem d_qn_takeArgument_49 : decode qn_takeArgument_c 49 = .ok (.lload_n 3, 1) := by decide +kernel
theorem d_qn_takeArgument_50 : decode qn_takeArgument_c 50 = .ok (.iload 5, 2) := by decide +kernel
theorem d_qn_takeArgument_52 : decode qn_takeArgument_c 52 = .ok (.iconst 1, 1) := by decide +kernel
theorem d_qn_takeArgument_53 : decode qn_takeArgument_c 53 = .ok (.iadd, 1) := by decide +kernel
theorem d_qn_takeArgument_54 : decode qn_takeArgument_c 54 = .ok (.invokevirtual 201, 3) := by decide +kernel
theorem d_qn_takeArgument_57 : decode qn_takeArgument_c 57 = .ok (.return_, 1) := by decide +kernel
theorem d_qn_choose_0 : decode qn_choose_c 0 = .ok (.aload_n 0, 1) := by decide +kernel
theorem d_qn_choose_1 : decode qn_choose_c 1 = .ok (.getfield 52, 3) := by decide +kernel
theorem d_qn_choose_4 : decode qn_choose_c 4 = .ok (.invokestatic 117, 3) := by decide +kernel
theorem d_qn_choose_7 : decode qn_choose_c 7 = .ok (.iconst 1, 1) := by decide +kernel
theorem d_qn_choose_8 : decode qn_choose_c 8 = .ok (.if_icmp .eq 12, 3) := by decide +kernel
theorem d_qn_choose_11 : decode qn_choose_c 11 = .ok (.aload_n 0, 1) := by decide +kernel
theorem d_qn_choose_12 : decode qn_choose_c 12 = .ok (.bipush (-8), 2) := by decide +kernel
theorem d_qn_choose_14 : decode qn_choose_c 14 = .ok (.invokevirtual 99, 3) := by decide +kernel
theorem d_qn_choose_17 : decode qn_choose_c 17 = .ok (.goto 32, 3) := by decide +kernel
theorem d_qn_choose_20 : decode qn_choose_c 20 = .ok (.aload_n 0, 1) := by decide +kernel
theorem d_qn_choose_21 : decode qn_choose_c 21 = .ok (.aload_n 0, 1) := by decide +kernel
theorem d_qn_choose_22 : decode qn_choose_c 22 = .ok (.getfield 9, 3) := by decide +kernel
theorem d_qn_choose_25 : decode qn_choose_c 25 = .ok (.lload_n 1, 1) := by decide +kernel
theorem d_qn_choose_26 : decode qn_choose_c 26 = .ok (.aload_n 0, 1) := by decide +kernel
theorem d_qn_choose_27 : decode qn_choose_c 27 = .ok (.getfield 52, 3) := by decide +kernel
theorem d_qn_choose_30 : decode qn_choose_c 30 = .ok (.invokestatic 310, 3) := by decide +kernel
theorem d_qn_choose_33 : decode qn_choose_c 33 = .ok (.lconst 1, 1) := by decide +kernel
theorem d_qn_choose_34 : decode qn_choose_c 34 = .ok (.lcmp, 1) := by decide +kernel
theorem d_qn_choose_35 : decode qn_choose_c 35 = .ok (.ifCond .ne 7, 3) := by decide +kernel
theorem d_qn_choose_38 : decode qn_choose_c 38 = .ok (.iconst 0, 1) := by decide +kernel
theorem d_qn_choose_39 : decode qn_choose_c 39 = .ok (.goto 4, 3) := by decide +kernel
theorem d_qn_choose_42 : decode qn_choose_c 42 = .ok (.iconst 1, 1) := by decide +kernel
theorem d_qn_choose_43 : decode qn_choose_c 43 = .ok (.invokevirtual 289, 3) := by decide +kernel
theorem d_qn_choose_46 : decode qn_choose_c 46 = .ok (.invokevirtual 77, 3) := by decide +kernel
theorem d_qn_choose_49 : decode qn_choose_c 49 = .ok (.return_, 1) := by decide +kernel
theorem d_qh_bind_0 : decode qh_bind_c 0 = .ok (.aload_n 0, 1) := by decide +kernel
theorem d_qh_bind_1 : decode qh_bind_c 1 = .ok (.iload_n 1, 1) := by decide +kernel
theorem d_qh_bind_2 : decode qh_bind_c 2 = .ok (.iload_n 2, 1) := by decide +kernel
theorem d_qh_bind_3 : decode qh_bind_c 3 = .ok (.invokevirtual 81, 3) := by decide +kernel
theorem d_qh_bind_6 : decode qh_bind_c 6 = .ok (.istore 5, 2) := by decide +kernel
theorem d_qh_bind_8 : decode qh_bind_c 8 = .ok (.iload 5, 2) := by decide +kernel
theorem d_qh_bind_10 : decode qh_bind_c 10 = .ok (.iconst (-1), 1) := by decide +kernel
theorem d_qh_bind_11 : decode qh_bind_c 11 = .ok (.if_icmp .eq 18, 3) := by decide +kernel
theorem d_qh_bind_14 : decode qh_bind_c 14 = .ok (.aload_n 0, 1) := by decide +kernel
theorem d_qh_bind_15 : decode qh_bind_c 15 = .ok (.iload 5, 2) := by decide +kernel
theorem d_qh_bind_17 : decode qh_bind_c 17 = .ok (.lload_n 3, 1) := by decide +kernel
theorem d_qh_bind_18 : decode qh_bind_c 18 = .ok (.aload_n 0, 1) := by decide +kernel
theorem d_qh_bind_19 : decode qh_bind_c 19 = .ok (.iload 5, 2) := by decide +kernel
theorem d_qh_bind_21 : decode qh_bind_c 21 = .ok (.invokevirtual 61, 3) := by decide +kernel
theorem d_qh_bind_24 : decode qh_bind_c 24 = .ok (.invokevirtual 25, 3) := by decide +kernel
theorem d_qh_bind_27 : decode qh_bind_c 27 = .ok (.iconst 1, 1) := by decide +kernel
theorem d_qh_bind_28 : decode qh_bind_c 28 = .ok (.ireturn, 1) := by decide +kernel
theorem d_qh_bind_29 : decode qh_bind_c 29 = .ok (.aload_n 0, 1) := by decide +kernel
theorem d_qh_bind_30 : decode qh_bind_c 30 = .ok (.iload_n 1, 1) := by decide +kernel
theorem d_qh_bind_31 : decode qh_bind_c 31 = .ok (.iload_n 2, 1) := by decide +kernel
theorem d_qh_bind_32 : decode qh_bind_c 32 = .ok (.lload_n 3, 1) := by decide +kernel
theorem d_qh_bind_33 : decode qh_bind_c 33 = .ok (.invokevirtual 88, 3) := by decide +kernel
theorem d_qh_bind_36 : decode qh_bind_c 36 = .ok (.ireturn, 1) := by decide +kernel
theorem d_qn_bindCurrent_0 : decode qn_bindCurrent_c 0 = .ok (.aload_n 0, 1) := by decide +kernel
theorem d_qn_bindCurrent_1 : decode qn_bindCurrent_c 1 = .ok (.getfield 9, 3) := by decide +kernel
theorem d_qn_bindCurrent_4 : decode qn_bindCurrent_c 4 = .ok (.iload_n 1, 1) := by decide +kernel
theorem d_qn_bindCurrent_5 : decode qn_bindCurrent_c 5 = .ok (.aload_n 0, 1) := by decide +kernel
theorem d_qn_bindCurrent_6 : decode qn_bindCurrent_c 6 = .ok (.getfield 9, 3) := by decide +kernel
theorem d_qn_bindCurrent_9 : decode qn_bindCurrent_c 9 = .ok (.lload_n 2, 1) := by decide +kernel
theorem d_qn_bindCurrent_10 : decode qn_bindCurrent_c 10 = .ok (.invokevirtual 120, 3) := by decide +kernel
theorem d_qn_bindCurrent_13 : decode qn_bindCurrent_c 13 = .ok (.invokestatic 88, 3) := by decide +kernel
theorem d_qn_bindCurrent_16 : decode qn_bindCurrent_c 16 = .ok (.aload_n 0, 1) := by decide +kernel
theorem d_qn_bindCurrent_17 : decode qn_bindCurrent_c 17 = .ok (.getfield 52, 3) := by decide +kernel
theorem d_qn_bindCurrent_20 : decode qn_bindCurrent_c 20 = .ok (.invokevirtual 313, 3) := by decide +kernel
theorem d_qn_bindCurrent_23 : decode qn_bindCurrent_c 23 = .ok (.ifCond .eq 13, 3) := by decide +kernel
theorem d_qn_bindCurrent_26 : decode qn_bindCurrent_c 26 = .ok (.aload_n 0, 1) := by decide +kernel
theorem d_qn_bindCurrent_27 : decode qn_bindCurrent_c 27 = .ok (.ldc2_w 284, 3) := by decide +kernel
theorem d_qn_bindCurrent_30 : decode qn_bindCurrent_c 30 = .ok (.invokevirtual 106, 3) := by decide +kernel
theorem d_qn_bindCurrent_33 : decode qn_bindCurrent_c 33 = .ok (.goto 9, 3) := by decide +kernel
theorem d_qn_bindCurrent_36 : decode qn_bindCurrent_c 36 = .ok (.aload_n 0, 1) := by decide +kernel
theorem d_qn_bindCurrent_37 : decode qn_bindCurrent_c 37 = .ok (.bipush (-5), 2) := by decide +kernel
theorem d_qn_bindCurrent_39 : decode qn_bindCurrent_c 39 = .ok (.invokevirtual 99, 3) := by decide +kernel
theorem d_qn_bindCurrent_42 : decode qn_bindCurrent_c 42 = .ok (.return_, 1) := by decide +kernel
theorem d_qn_takePlace_0 : decode qn_takePlace_c 0 = .ok (.aload_n 0, 1) := by decide +kernel
theorem d_qn_takePlace_1 : decode qn_takePlace_c 1 = .ok (.getfield 52, 3) := by decide +kernel
theorem d_qn_takePlace_4 : decode qn_takePlace_c 4 = .ok (.invokestatic 117, 3) := by decide +kernel
theorem d_qn_takePlace_7 : decode qn_takePlace_c 7 = .ok (.bipush 7, 2) := by decide +kernel
theorem d_qn_takePlace_9 : decode qn_takePlace_c 9 = .ok (.if_icmp .eq 12, 3) := by decide +kernel
theorem d_qn_takePlace_12 : decode qn_takePlace_c 12 = .ok (.aload_n 0, 1) := by decide +kernel
theorem d_qn_takePlace_13 : decode qn_takePlace_c 13 = .ok (.bipush (-8), 2) := by decide +kernel
theorem d_qn_takePlace_15 : decode qn_takePlace_c 15 = .ok (.invokevirtual 99, 3) := by decide +kernel
theorem d_qn_takePlace_18 : decode qn_takePlace_c 18 = .ok (.goto 23, 3) := by decide +kernel
theorem d_qn_takePlace_21 : decode qn_takePlace_c 21 = .ok (.aload_n 0, 1) := by decide +kernel
theorem d_qn_takePlace_22 : decode qn_takePlace_c 22 = .ok (.aload_n 0, 1) := by decide +kernel
theorem d_qn_takePlace_23 : decode qn_takePlace_c 23 = .ok (.getfield 9, 3) := by decide +kernel
theorem d_qn_takePlace_26 : decode qn_takePlace_c 26 = .ok (.lload_n 1, 1) := by decide +kernel
theorem d_qn_takePlace_27 : decode qn_takePlace_c 27 = .ok (.iconst 1, 1) := by decide +kernel
theorem d_qn_takePlace_28 : decode qn_takePlace_c 28 = .ok (.invokevirtual 289, 3) := by decide +kernel
theorem d_qn_takePlace_31 : decode qn_takePlace_c 31 = .ok (.iconst 5, 1) := by decide +kernel
theorem d_qn_takePlace_32 : decode qn_takePlace_c 32 = .ok (.lload_n 1, 1) := by decide +kernel
theorem d_qn_takePlace_33 : decode qn_takePlace_c 33 = .ok (.aload_n 0, 1) := by decide +kernel
theorem d_qn_takePlace_34 : decode qn_takePlace_c 34 = .ok (.getfield 52, 3) := by decide +kernel
theorem d_qn_takePlace_37 : decode qn_takePlace_c 37 = .ok (.iconst 0, 1) := by decide +kernel
theorem d_qn_takePlace_38 : decode qn_takePlace_c 38 = .ok (.invokevirtual 127, 3) := by decide +kernel
theorem d_qn_takePlace_41 : decode qn_takePlace_c 41 = .ok (.return_, 1) := by decide +kernel
theorem d_qn_returnCurrent_0 : decode qn_returnCurrent_c 0 = .ok (.aload_n 0, 1) := by decide +kernel
theorem d_qn_returnCurrent_1 : decode qn_returnCurrent_c 1 = .ok (.getfield 27, 3) := by decide +kernel
theorem d_qn_returnCurrent_4 : decode qn_returnCurrent_c 4 = .ok (.invokevirtual 152, 3) := by decide +kernel
theorem d_qn_returnCurrent_7 : decode qn_returnCurrent_c 7 = .ok (.ifCond .eq 9, 3) := by decide +kernel
theorem d_qn_returnCurrent_10 : decode qn_returnCurrent_c 10 = .ok (.aload_n 0, 1) := by decide +kernel
theorem d_qn_returnCurrent_11 : decode qn_returnCurrent_c 11 = .ok (.iconst 4, 1) := by decide +kernel
theorem d_qn_returnCurrent_12 : decode qn_returnCurrent_c 12 = .ok (.putfield 45, 3) := by decide +kernel
theorem d_qn_returnCurrent_15 : decode qn_returnCurrent_c 15 = .ok (.return_, 1) := by decide +kernel
theorem d_qn_returnCurrent_16 : decode qn_returnCurrent_c 16 = .ok (.aload_n 0, 1) := by decide +kernel
theorem d_qn_returnCurrent_17 : decode qn_returnCurrent_c 17 = .ok (.getfield 27, 3) := by decide +kernel
theorem d_qn_returnCurrent_20 : decode qn_returnCurrent_c 20 = .ok (.invokevirtual 156, 3) := by decide +kernel
theorem d_qn_returnCurrent_23 : decode qn_returnCurrent_c 23 = .ok (.aload_n 0, 1) := by decide +kernel
theorem d_qn_returnCurrent_24 : decode qn_returnCurrent_c 24 = .ok (.aload_n 0, 1) := by decide +kernel
theorem d_qn_returnCurrent_25 : decode qn_returnCurrent_c 25 = .ok (.getfield 27, 3) := by decide +kernel
theorem d_qn_returnCurrent_28 : decode qn_returnCurrent_c 28 = .ok (.invokevirtual 159, 3) := by decide +kernel
theorem d_qn_returnCurrent_31 : decode qn_returnCurrent_c 31 = .ok (.putfield 61, 3) := by decide +kernel
theorem d_qn_returnCurrent_34 : decode qn_returnCurrent_c 34 = .ok (.aload_n 0, 1) := by decide +kernel
theorem d_qn_returnCurrent_35 : decode qn_returnCurrent_c 35 = .ok (.getfield 27, 3) := by decide +kernel
theorem d_qn_returnCurrent_38 : decode qn_returnCurrent_c 38 = .ok (.invokevirtual 161, 3) := by decide +kernel
theorem d_qn_returnCurrent_41 : decode qn_returnCurrent_c 41 = .ok (.lstore_n 1, 1) := by decide +kernel
theorem d_qn_returnCurrent_42 : decode qn_returnCurrent_c 42 = .ok (.aload_n 0, 1) := by decide +kernel
theorem d_qn_returnCurrent_43 : decode qn_returnCurrent_c 43 = .ok (.getfield 27, 3) := by decide +kernel
theorem d_qn_returnCurrent_46 : decode qn_returnCurrent_c 46 = .ok (.invokevirtual 165, 3) := by decide +kernel
theorem d_qn_returnCurrent_49 : decode qn_returnCurrent_c 49 = .ok (.tableswitch 123 0 6 #[43, 55, 77, 85, 97, 105, 123], 43) := by decide +kernel
theorem d_qn_returnCurrent_92 : decode qn_returnCurrent_c 92 = .ok (.aload_n 0, 1) := by decide +kernel
theorem d_qn_returnCurrent_93 : decode qn_returnCurrent_c 93 = .ok (.aload_n 0, 1) := by decide +kernel
theorem d_qn_returnCurrent_94 : decode qn_returnCurrent_c 94 = .ok (.getfield 52, 3) := by decide +kernel
theorem d_qn_returnCurrent_97 : decode qn_returnCurrent_c 97 = .ok (.lload_n 1, 1) := by decide +kernel
theorem d_qn_returnCurrent_98 : decode qn_returnCurrent_c 98 = .ok (.invokevirtual 168, 3) := by decide +kernel
theorem d_qn_returnCurrent_101 : decode qn_returnCurrent_c 101 = .ok (.goto 76, 3) := by decide +kernel
theorem d_qn_returnCurrent_104 : decode qn_returnCurrent_c 104 = .ok (.aload_n 0, 1) := by decide +kernel
theorem d_qn_returnCurrent_105 : decode qn_returnCurrent_c 105 = .ok (.lload_n 1, 1) := by decide +kernel
theorem d_qn_returnCurrent_106 : decode qn_returnCurrent_c 106 = .ok (.aload_n 0, 1) := by decide +kernel
theorem d_qn_returnCurrent_107 : decode qn_returnCurrent_c 107 = .ok (.getfield 27, 3) := by decide +kernel
theorem d_qn_returnCurrent_110 : decode qn_returnCurrent_c 110 = .ok (.invokevirtual 172, 3) := by decide +kernel
theorem d_qn_returnCurrent_113 : decode qn_returnCurrent_c 113 = .ok (.aload_n 0, 1) := by decide +kernel
theorem d_qn_returnCurrent_114 : decode qn_returnCurrent_c 114 = .ok (.getfield 27, 3) := by decide +kernel
theorem d_qn_returnCurrent_117 : decode qn_returnCurrent_c 117 = .ok (.invokevirtual 175, 3) := by decide +kernel
theorem d_qn_returnCurrent_120 : decode qn_returnCurrent_c 120 = .ok (.invokevirtual 178, 3) := by decide +kernel
theorem d_qn_returnCurrent_123 : decode qn_returnCurrent_c 123 = .ok (.goto 54, 3) := by decide +kernel
theorem d_qn_returnCurrent_126 : decode qn_returnCurrent_c 126 = .ok (.aload_n 0, 1) := by decide +kernel
theorem d_qn_returnCurrent_127 : decode qn_returnCurrent_c 127 = .ok (.lload_n 1, 1) := by decide +kernel
theorem d_qn_returnCurrent_128 : decode qn_returnCurrent_c 128 = .ok (.invokevirtual 182, 3) := by decide +kernel
theorem d_qn_returnCurrent_131 : decode qn_returnCurrent_c 131 = .ok (.goto 46, 3) := by decide +kernel
theorem d_qn_returnCurrent_134 : decode qn_returnCurrent_c 134 = .ok (.aload_n 0, 1) := by decide +kernel
theorem d_qn_returnCurrent_135 : decode qn_returnCurrent_c 135 = .ok (.aload_n 0, 1) := by decide +kernel
theorem d_qn_returnCurrent_136 : decode qn_returnCurrent_c 136 = .ok (.getfield 61, 3) := by decide +kernel
theorem d_qn_returnCurrent_139 : decode qn_returnCurrent_c 139 = .ok (.lload_n 1, 1) := by decide +kernel
theorem d_qn_returnCurrent_140 : decode qn_returnCurrent_c 140 = .ok (.invokevirtual 185, 3) := by decide +kernel
theorem d_qn_returnCurrent_143 : decode qn_returnCurrent_c 143 = .ok (.goto 34, 3) := by decide +kernel
theorem d_qn_returnCurrent_146 : decode qn_returnCurrent_c 146 = .ok (.aload_n 0, 1) := by decide +kernel
theorem d_qn_returnCurrent_147 : decode qn_returnCurrent_c 147 = .ok (.lload_n 1, 1) := by decide +kernel
theorem d_qn_returnCurrent_148 : decode qn_returnCurrent_c 148 = .ok (.invokevirtual 189, 3) := by decide +kernel
theorem d_qn_returnCurrent_151 : decode qn_returnCurrent_c 151 = .ok (.goto 26, 3) := by decide +kernel
theorem d_qn_returnCurrent_154 : decode qn_returnCurrent_c 154 = .ok (.aload_n 0, 1) := by decide +kernel
theorem d_qn_returnCurrent_155 : decode qn_returnCurrent_c 155 = .ok (.aload_n 0, 1) := by decide +kernel
theorem d_qn_returnCurrent_156 : decode qn_returnCurrent_c 156 = .ok (.getfield 27, 3) := by decide +kernel
theorem d_qn_returnCurrent_159 : decode qn_returnCurrent_c 159 = .ok (.invokevirtual 172, 3) := by decide +kernel
theorem d_qn_returnCurrent_162 : decode qn_returnCurrent_c 162 = .ok (.invokestatic 88, 3) := by decide +kernel
theorem d_qn_returnCurrent_165 : decode qn_returnCurrent_c 165 = .ok (.lload_n 1, 1) := by decide +kernel
theorem d_qn_returnCurrent_166 : decode qn_returnCurrent_c 166 = .ok (.invokevirtual 185, 3) := by decide +kernel
theorem d_qn_returnCurrent_169 : decode qn_returnCurrent_c 169 = .ok (.goto 8, 3) := by decide +kernel
theorem d_qn_returnCurrent_172 : decode qn_returnCurrent_c 172 = .ok (.aload_n 0, 1) := by decide +kernel
theorem d_qn_returnCurrent_173 : decode qn_returnCurrent_c 173 = .ok (.lload_n 1, 1) := by decide +kernel
theorem d_qn_returnCurrent_174 : decode qn_returnCurrent_c 174 = .ok (.invokevirtual 192, 3) := by decide +kernel
theorem d_qn_returnCurrent_177 : decode qn_returnCurrent_c 177 = .ok (.return_, 1) := by decide +kernel
theorem d_qn_run_0 : decode qn_run_c 0 = .ok (.aload_n 0, 1) := by decide +kernel
theorem d_qn_run_1 : decode qn_run_c 1 = .ok (.invokevirtual 35, 3) := by decide +kernel
theorem d_qn_run_4 : decode qn_run_c 4 = .ok (.aload_n 0, 1) := by decide +kernel
theorem d_qn_run_5 : decode qn_run_c 5 = .ok (.iload 4, 2) := by decide +kernel
theorem d_qn_run_7 : decode qn_run_c 7 = .ok (.putfield 67, 3) := by decide +kernel
theorem d_qn_run_10 : decode qn_run_c 10 = .ok (.aload_n 0, 1) := by decide +kernel
theorem d_qn_run_11 : decode qn_run_c 11 = .ok (.iload_n 3, 1) := by decide +kernel
theorem d_qn_run_12 : decode qn_run_c 12 = .ok (.putfield 61, 3) := by decide +kernel
theorem d_qn_run_15 : decode qn_run_c 15 = .ok (.aload_n 0, 1) := by decide +kernel
theorem d_qn_run_16 : decode qn_run_c 16 = .ok (.lload_n 1, 1) := by decide +kernel
theorem d_qn_run_17 : decode qn_run_c 17 = .ok (.invokevirtual 77, 3) := by decide +kernel
theorem d_qn_run_20 : decode qn_run_c 20 = .ok (.iconst 0, 1) := by decide +kernel
theorem d_qn_run_21 : decode qn_run_c 21 = .ok (.istore 5, 2) := by decide +kernel
theorem d_qn_run_23 : decode qn_run_c 23 = .ok (.iload 5, 2) := by decide +kernel
theorem d_qn_run_25 : decode qn_run_c 25 = .ok (.ldc 81, 2) := by decide +kernel
theorem d_qn_run_27 : decode qn_run_c 27 = .ok (.if_icmp .ge 83, 3) := by decide +kernel
theorem d_qn_run_30 : decode qn_run_c 30 = .ok (.aload_n 0, 1) := by decide +kernel
theorem d_qn_run_31 : decode qn_run_c 31 = .ok (.getfield 45, 3) := by decide +kernel
theorem d_qn_run_34 : decode qn_run_c 34 = .ok (.iconst 4, 1) := by decide +kernel
theorem d_qn_run_35 : decode qn_run_c 35 = .ok (.if_icmp .eq 75, 3) := by decide +kernel
theorem d_qn_run_38 : decode qn_run_c 38 = .ok (.aload_n 0, 1) := by decide +kernel
theorem d_qn_run_39 : decode qn_run_c 39 = .ok (.getfield 45, 3) := by decide +kernel
theorem d_qn_run_42 : decode qn_run_c 42 = .ok (.tableswitch 58 0 3 #[30, 37, 44, 58], 30) := by decide +kernel
theorem d_qn_run_72 : decode qn_run_c 72 = .ok (.aload_n 0, 1) := by decide +kernel
theorem d_qn_run_73 : decode qn_run_c 73 = .ok (.invokevirtual 82, 3) := by decide +kernel
theorem d_qn_run_76 : decode qn_run_c 76 = .ok (.goto 28, 3) := by decide +kernel
theorem d_qn_run_79 : decode qn_run_c 79 = .ok (.aload_n 0, 1) := by decide +kernel
theorem d_qn_run_80 : decode qn_run_c 80 = .ok (.invokevirtual 85, 3) := by decide +kernel
theorem d_qn_run_83 : decode qn_run_c 83 = .ok (.goto 21, 3) := by decide +kernel
theorem d_qn_run_86 : decode qn_run_c 86 = .ok (.aload_n 0, 1) := by decide +kernel
theorem d_qn_run_87 : decode qn_run_c 87 = .ok (.aload_n 0, 1) := by decide +kernel
theorem d_qn_run_88 : decode qn_run_c 88 = .ok (.getfield 52, 3) := by decide +kernel
theorem d_qn_run_91 : decode qn_run_c 91 = .ok (.invokestatic 88, 3) := by decide +kernel
theorem d_qn_run_94 : decode qn_run_c 94 = .ok (.invokevirtual 92, 3) := by decide +kernel
theorem d_qn_run_97 : decode qn_run_c 97 = .ok (.goto 7, 3) := by decide +kernel
theorem d_qn_run_100 : decode qn_run_c 100 = .ok (.aload_n 0, 1) := by decide +kernel
theorem d_qn_run_101 : decode qn_run_c 101 = .ok (.invokevirtual 96, 3) := by decide +kernel
theorem d_qn_run_104 : decode qn_run_c 104 = .ok (.iinc 5 1, 3) := by decide +kernel
theorem d_qn_run_107 : decode qn_run_c 107 = .ok (.goto (-84), 3) := by decide +kernel
theorem d_qn_run_110 : decode qn_run_c 110 = .ok (.aload_n 0, 1) := by decide +kernel
theorem d_qn_run_111 : decode qn_run_c 111 = .ok (.getfield 70, 3) := by decide +kernel
theorem d_qn_run_114 : decode qn_run_c 114 = .ok (.ifCond .eq 10, 3) := by decide +kernel
theorem d_qn_run_117 : decode qn_run_c 117 = .ok (.aload_n 0, 1) := by decide +kernel
theorem d_qn_run_118 : decode qn_run_c 118 = .ok (.getfield 70, 3) := by decide +kernel
theorem d_qn_run_121 : decode qn_run_c 121 = .ok (.goto 7, 3) := by decide +kernel
theorem d_qn_run_124 : decode qn_run_c 124 = .ok (.aload_n 0, 1) := by decide +kernel
theorem d_qn_run_125 : decode qn_run_c 125 = .ok (.getfield 64, 3) := by decide +kernel
theorem d_qn_run_128 : decode qn_run_c 128 = .ok (.ireturn, 1) := by decide +kernel
theorem d_qn_answer_0 : decode qn_answer_c 0 = .ok (.aload_n 0, 1) := by decide +kernel
theorem d_qn_answer_1 : decode qn_answer_c 1 = .ok (.getfield 52, 3) := by decide +kernel
theorem d_qn_answer_4 : decode qn_answer_c 4 = .ok (.lreturn, 1) := by decide +kernel
theorem d_qx_evaluate_0 : decode qx_evaluate_c 0 = .ok (.aload_n 0, 1) := by decide +kernel
theorem d_qx_evaluate_1 : decode qx_evaluate_c 1 = .ok (.getfield 31, 3) := by decide +kernel
theorem d_qx_evaluate_4 : decode qx_evaluate_c 4 = .ok (.iconst 1, 1) := by decide +kernel
theorem d_qx_evaluate_5 : decode qx_evaluate_c 5 = .ok (.if_icmp .ge 6, 3) := by decide +kernel
theorem d_qx_evaluate_8 : decode qx_evaluate_c 8 = .ok (.bipush (-2), 2) := by decide +kernel
theorem d_qx_evaluate_10 : decode qx_evaluate_c 10 = .ok (.ireturn, 1) := by decide +kernel
theorem d_qx_evaluate_11 : decode qx_evaluate_c 11 = .ok (.aload_n 0, 1) := by decide +kernel
theorem d_qx_evaluate_12 : decode qx_evaluate_c 12 = .ok (.iconst 0, 1) := by decide +kernel
theorem d_qx_evaluate_13 : decode qx_evaluate_c 13 = .ok (.invokevirtual 71, 3) := by decide +kernel
theorem d_qx_evaluate_16 : decode qx_evaluate_c 16 = .ok (.lstore_n 1, 1) := by decide +kernel
theorem d_qx_evaluate_17 : decode qx_evaluate_c 17 = .ok (.aload_n 0, 1) := by decide +kernel
theorem d_qx_evaluate_18 : decode qx_evaluate_c 18 = .ok (.dup, 1) := by decide +kernel
theorem d_qx_evaluate_19 : decode qx_evaluate_c 19 = .ok (.getfield 31, 3) := by decide +kernel
theorem d_qx_evaluate_22 : decode qx_evaluate_c 22 = .ok (.iconst 1, 1) := by decide +kernel
theorem d_qx_evaluate_23 : decode qx_evaluate_c 23 = .ok (.isub, 1) := by decide +kernel
theorem d_qx_evaluate_24 : decode qx_evaluate_c 24 = .ok (.putfield 31, 3) := by decide +kernel
theorem d_qx_evaluate_27 : decode qx_evaluate_c 27 = .ok (.aload_n 0, 1) := by decide +kernel
theorem d_qx_evaluate_28 : decode qx_evaluate_c 28 = .ok (.getfield 23, 3) := by decide +kernel
theorem d_qx_evaluate_31 : decode qx_evaluate_c 31 = .ok (.lload_n 1, 1) := by decide +kernel
theorem d_qx_evaluate_32 : decode qx_evaluate_c 32 = .ok (.aload_n 0, 1) := by decide +kernel
theorem d_qx_evaluate_33 : decode qx_evaluate_c 33 = .ok (.getfield 35, 3) := by decide +kernel
theorem d_qx_evaluate_36 : decode qx_evaluate_c 36 = .ok (.aload_n 0, 1) := by decide +kernel
theorem d_qx_evaluate_37 : decode qx_evaluate_c 37 = .ok (.getfield 38, 3) := by decide +kernel
theorem d_qx_evaluate_40 : decode qx_evaluate_c 40 = .ok (.invokevirtual 135, 3) := by decide +kernel
theorem d_qx_evaluate_43 : decode qx_evaluate_c 43 = .ok (.istore_n 3, 1) := by decide +kernel
theorem d_qx_evaluate_44 : decode qx_evaluate_c 44 = .ok (.iload_n 3, 1) := by decide +kernel
theorem d_qx_evaluate_45 : decode qx_evaluate_c 45 = .ok (.ifCond .le 15, 3) := by decide +kernel
theorem d_qx_evaluate_48 : decode qx_evaluate_c 48 = .ok (.aload_n 0, 1) := by decide +kernel
theorem d_qx_evaluate_49 : decode qx_evaluate_c 49 = .ok (.aload_n 0, 1) := by decide +kernel
theorem d_qx_evaluate_50 : decode qx_evaluate_c 50 = .ok (.getfield 23, 3) := by decide +kernel
theorem d_qx_evaluate_53 : decode qx_evaluate_c 53 = .ok (.invokevirtual 139, 3) := by decide +kernel
theorem d_qx_evaluate_56 : decode qx_evaluate_c 56 = .ok (.invokevirtual 51, 3) := by decide +kernel
theorem d_qx_evaluate_59 : decode qx_evaluate_c 59 = .ok (.pop, 1) := by decide +kernel
theorem d_qx_evaluate_60 : decode qx_evaluate_c 60 = .ok (.iload_n 3, 1) := by decide +kernel
theorem d_qx_evaluate_61 : decode qx_evaluate_c 61 = .ok (.ireturn, 1) := by decide +kernel
theorem d_qx_useEnvironment_0 : decode qx_useEnvironment_c 0 = .ok (.aload_n 0, 1) := by decide +kernel
theorem d_qx_useEnvironment_1 : decode qx_useEnvironment_c 1 = .ok (.iconst 0, 1) := by decide +kernel
theorem d_qx_useEnvironment_2 : decode qx_useEnvironment_c 2 = .ok (.bipush 7, 2) := by decide +kernel
theorem d_qx_useEnvironment_4 : decode qx_useEnvironment_c 4 = .ok (.invokevirtual 94, 3) := by decide +kernel
theorem d_qx_useEnvironment_7 : decode qx_useEnvironment_c 7 = .ok (.istore_n 1, 1) := by decide +kernel
theorem d_qx_useEnvironment_8 : decode qx_useEnvironment_c 8 = .ok (.iload_n 1, 1) := by decide +kernel
theorem d_qx_useEnvironment_9 : decode qx_useEnvironment_c 9 = .ok (.ifCond .eq 5, 3) := by decide +kernel
theorem d_qx_useEnvironment_12 : decode qx_useEnvironment_c 12 = .ok (.iload_n 1, 1) := by decide +kernel
theorem d_qx_useEnvironment_13 : decode qx_useEnvironment_c 13 = .ok (.ireturn, 1) := by decide +kernel
theorem d_qx_useEnvironment_14 : decode qx_useEnvironment_c 14 = .ok (.aload_n 0, 1) := by decide +kernel
theorem d_qx_useEnvironment_15 : decode qx_useEnvironment_c 15 = .ok (.aload_n 0, 1) := by decide +kernel
theorem d_qx_useEnvironment_16 : decode qx_useEnvironment_c 16 = .ok (.iconst 0, 1) := by decide +kernel
theorem d_qx_useEnvironment_17 : decode qx_useEnvironment_c 17 = .ok (.invokevirtual 71, 3) := by decide +kernel
theorem d_qx_useEnvironment_20 : decode qx_useEnvironment_c 20 = .ok (.invokestatic 88, 3) := by decide +kernel
theorem d_qx_useEnvironment_23 : decode qx_useEnvironment_c 23 = .ok (.putfield 35, 3) := by decide +kernel
theorem d_qx_useEnvironment_26 : decode qx_useEnvironment_c 26 = .ok (.aload_n 0, 1) := by decide +kernel
theorem d_qx_useEnvironment_27 : decode qx_useEnvironment_c 27 = .ok (.dup, 1) := by decide +kernel
theorem d_qx_useEnvironment_28 : decode qx_useEnvironment_c 28 = .ok (.getfield 31, 3) := by decide +kernel
theorem d_qx_useEnvironment_31 : decode qx_useEnvironment_c 31 = .ok (.iconst 1, 1) := by decide +kernel
theorem d_qx_useEnvironment_32 : decode qx_useEnvironment_c 32 = .ok (.isub, 1) := by decide +kernel
theorem d_qx_useEnvironment_33 : decode qx_useEnvironment_c 33 = .ok (.putfield 31, 3) := by decide +kernel
theorem d_qx_useEnvironment_36 : decode qx_useEnvironment_c 36 = .ok (.aload_n 0, 1) := by decide +kernel
theorem d_qx_useEnvironment_37 : decode qx_useEnvironment_c 37 = .ok (.getfield 31, 3) := by decide +kernel
theorem d_qx_useEnvironment_40 : decode qx_useEnvironment_c 40 = .ok (.ireturn, 1) := by decide +kernel
theorem d_qx_useUser_0 : decode qx_useUser_c 0 = .ok (.aload_n 0, 1) := by decide +kernel
theorem d_qx_useUser_1 : decode qx_useUser_c 1 = .ok (.getfield 35, 3) := by decide +kernel
theorem d_qx_useUser_4 : decode qx_useUser_c 4 = .ok (.iconst 1, 1) := by decide +kernel
theorem d_qx_useUser_5 : decode qx_useUser_c 5 = .ok (.if_icmp .eq 7, 3) := by decide +kernel
theorem d_qx_useUser_8 : decode qx_useUser_c 8 = .ok (.iconst 1, 1) := by decide +kernel
theorem d_qx_useUser_9 : decode qx_useUser_c 9 = .ok (.goto 4, 3) := by decide +kernel
theorem d_qx_useUser_12 : decode qx_useUser_c 12 = .ok (.iconst 0, 1) := by decide +kernel
theorem d_qx_useUser_13 : decode qx_useUser_c 13 = .ok (.istore_n 1, 1) := by decide +kernel
theorem d_qx_useUser_14 : decode qx_useUser_c 14 = .ok (.aload_n 0, 1) := by decide +kernel
theorem d_qx_useUser_15 : decode qx_useUser_c 15 = .ok (.iconst 1, 1) := by decide +kernel
theorem d_qx_useUser_16 : decode qx_useUser_c 16 = .ok (.putfield 35, 3) := by decide +kernel
theorem d_qx_useUser_19 : decode qx_useUser_c 19 = .ok (.iload_n 1, 1) := by decide +kernel
theorem d_qx_useUser_20 : decode qx_useUser_c 20 = .ok (.ifCond .eq 7, 3) := by decide +kernel
theorem d_qx_useUser_23 : decode qx_useUser_c 23 = .ok (.iconst 1, 1) := by decide +kernel
theorem d_qx_useUser_24 : decode qx_useUser_c 24 = .ok (.goto 4, 3) := by decide +kernel
theorem d_qx_useUser_27 : decode qx_useUser_c 27 = .ok (.iconst 0, 1) := by decide +kernel
theorem d_qx_useUser_28 : decode qx_useUser_c 28 = .ok (.ireturn, 1) := by decide +kernel
theorem d_qx_setLimit_0 : decode qx_setLimit_c 0 = .ok (.iload_n 1, 1) := by decide +kernel
theorem d_qx_setLimit_1 : decode qx_setLimit_c 1 = .ok (.iconst 1, 1) := by decide +kernel
theorem d_qx_setLimit_2 : decode qx_setLimit_c 2 = .ok (.if_icmp .lt 10, 3) := by decide +kernel
theorem d_qx_setLimit_5 : decode qx_setLimit_c 5 = .ok (.iload_n 1, 1) := by decide +kernel
theorem d_qx_setLimit_6 : decode qx_setLimit_c 6 = .ok (.sipush 1500, 3) := by decide +kernel
theorem d_qx_setLimit_9 : decode qx_setLimit_c 9 = .ok (.if_icmp .le 5, 3) := by decide +kernel
theorem d_qx_setLimit_12 : decode qx_setLimit_c 12 = .ok (.iconst (-1), 1) := by decide +kernel
theorem d_qx_setLimit_13 : decode qx_setLimit_c 13 = .ok (.ireturn, 1) := by decide +kernel
theorem d_qx_setLimit_14 : decode qx_setLimit_c 14 = .ok (.aload_n 0, 1) := by decide +kernel
theorem d_qx_setLimit_15 : decode qx_setLimit_c 15 = .ok (.getfield 38, 3) := by decide +kernel
theorem d_qx_setLimit_18 : decode qx_setLimit_c 18 = .ok (.istore_n 2, 1) := by decide +kernel
theorem d_qx_setLimit_19 : decode qx_setLimit_c 19 = .ok (.aload_n 0, 1) := by decide +kernel
theorem d_qx_setLimit_20 : decode qx_setLimit_c 20 = .ok (.iload_n 1, 1) := by decide +kernel
theorem d_qx_setLimit_21 : decode qx_setLimit_c 21 = .ok (.putfield 38, 3) := by decide +kernel
theorem d_qx_setLimit_24 : decode qx_setLimit_c 24 = .ok (.iload_n 2, 1) := by decide +kernel
theorem d_qx_setLimit_25 : decode qx_setLimit_c 25 = .ok (.ireturn, 1) := by decide +kernel
theorem d_qn_stepCount_0 : decode qn_stepCount_c 0 = .ok (.aload_n 0, 1) := by decide +kernel
theorem d_qn_stepCount_1 : decode qn_stepCount_c 1 = .ok (.getfield 64, 3) := by decide +kernel
theorem d_qn_stepCount_4 : decode qn_stepCount_c 4 = .ok (.ireturn, 1) := by decide +kernel
theorem d_qf_greatestCount_0 : decode qf_greatestCount_c 0 = .ok (.aload_n 0, 1) := by decide +kernel
theorem d_qf_greatestCount_1 : decode qf_greatestCount_c 1 = .ok (.getfield 30, 3) := by decide +kernel
theorem d_qf_greatestCount_4 : decode qf_greatestCount_c 4 = .ok (.ireturn, 1) := by decide +kernel
theorem d_qn_mostFrames_0 : decode qn_mostFrames_c 0 = .ok (.aload_n 0, 1) := by decide +kernel
theorem d_qn_mostFrames_1 : decode qn_mostFrames_c 1 = .ok (.getfield 27, 3) := by decide +kernel
theorem d_qn_mostFrames_4 : decode qn_mostFrames_c 4 = .ok (.invokevirtual 73, 3) := by decide +kernel
theorem d_qn_mostFrames_7 : decode qn_mostFrames_c 7 = .ok (.ireturn, 1) := by decide +kernel
theorem d_qx_latest_0 : decode qx_latest_c 0 = .ok (.iload_n 1, 1) := by decide +kernel
theorem d_qx_latest_1 : decode qx_latest_c 1 = .ok (.ifCond .eq 10, 3) := by decide +kernel
theorem d_qx_latest_4 : decode qx_latest_c 4 = .ok (.iload_n 1, 1) := by decide +kernel
theorem d_qx_latest_5 : decode qx_latest_c 5 = .ok (.iconst 1, 1) := by decide +kernel
theorem d_qx_latest_6 : decode qx_latest_c 6 = .ok (.if_icmp .eq 5, 3) := by decide +kernel
theorem d_qx_latest_9 : decode qx_latest_c 9 = .ok (.iconst (-1), 1) := by decide +kernel
theorem d_qx_latest_10 : decode qx_latest_c 10 = .ok (.ireturn, 1) := by decide +kernel
theorem d_qx_latest_11 : decode qx_latest_c 11 = .ok (.iload_n 1, 1) := by decide +kernel
theorem d_qx_latest_12 : decode qx_latest_c 12 = .ok (.ifCond .ne 13, 3) := by decide +kernel
theorem d_qx_latest_15 : decode qx_latest_c 15 = .ok (.aload_n 0, 1) := by decide +kernel
theorem d_qx_latest_16 : decode qx_latest_c 16 = .ok (.getfield 23, 3) := by decide +kernel
theorem d_qx_latest_19 : decode qx_latest_c 19 = .ok (.invokevirtual 143, 3) := by decide +kernel
theorem d_qx_latest_22 : decode qx_latest_c 22 = .ok (.goto 10, 3) := by decide +kernel
theorem d_qx_latest_25 : decode qx_latest_c 25 = .ok (.aload_n 0, 1) := by decide +kernel
theorem d_qx_latest_26 : decode qx_latest_c 26 = .ok (.getfield 23, 3) := by decide +kernel
theorem d_qx_latest_29 : decode qx_latest_c 29 = .ok (.invokevirtual 146, 3) := by decide +kernel
theorem d_qx_latest_32 : decode qx_latest_c 32 = .ok (.ireturn, 1) := by decide +kernel
theorem d_qx_heapSize_0 : decode qx_heapSize_c 0 = .ok (.aload_n 0, 1) := by decide +kernel
theorem d_qx_heapSize_1 : decode qx_heapSize_c 1 = .ok (.getfield 12, 3) := by decide +kernel
theorem d_qx_heapSize_4 : decode qx_heapSize_c 4 = .ok (.invokevirtual 114, 3) := by decide +kernel
theorem d_qx_heapSize_7 : decode qx_heapSize_c 7 = .ok (.ireturn, 1) := by decide +kernel

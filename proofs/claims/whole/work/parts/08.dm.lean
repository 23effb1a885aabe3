/-! decoded instructions -/
theorem d_qm_within_0 : decode qm_within_c 0 = .ok (.lload_n 0, 1) := by decide +kernel
theorem d_qm_within_1 : decode qm_within_c 1 = .ok (.lload_n 2, 1) := by decide +kernel
theorem d_qm_within_2 : decode qm_within_c 2 = .ok (.lcmp, 1) := by decide +kernel
theorem d_qm_within_3 : decode qm_within_c 3 = .ok (.ifCond .lt 14, 3) := by decide +kernel
theorem d_qm_within_6 : decode qm_within_c 6 = .ok (.lload_n 0, 1) := by decide +kernel
theorem d_qm_within_7 : decode qm_within_c 7 = .ok (.lload 4, 2) := by decide +kernel
theorem d_qm_within_9 : decode qm_within_c 9 = .ok (.lcmp, 1) := by decide +kernel
theorem d_qm_within_10 : decode qm_within_c 10 = .ok (.ifCond .gt 7, 3) := by decide +kernel
theorem d_qm_within_13 : decode qm_within_c 13 = .ok (.iconst 1, 1) := by decide +kernel
theorem d_qm_within_14 : decode qm_within_c 14 = .ok (.goto 4, 3) := by decide +kernel
theorem d_qm_within_17 : decode qm_within_c 17 = .ok (.iconst 0, 1) := by decide +kernel
theorem d_qm_within_18 : decode qm_within_c 18 = .ok (.ireturn, 1) := by decide +kernel
theorem d_qm_made_0 : decode qm_made_c 0 = .ok (.ldc2_w 80, 3) := by decide +kernel
theorem d_qm_made_3 : decode qm_made_c 3 = .ok (.lload_n 1, 1) := by decide +kernel
theorem d_qm_made_4 : decode qm_made_c 4 = .ok (.lmul, 1) := by decide +kernel
theorem d_qm_made_5 : decode qm_made_c 5 = .ok (.iload_n 0, 1) := by decide +kernel
theorem d_qm_made_6 : decode qm_made_c 6 = .ok (.i2l, 1) := by decide +kernel
theorem d_qm_made_7 : decode qm_made_c 7 = .ok (.ladd, 1) := by decide +kernel
theorem d_qm_made_8 : decode qm_made_c 8 = .ok (.lreturn, 1) := by decide +kernel
theorem d_qm_begin_0 : decode qm_begin_c 0 = .ok (.aload_n 0, 1) := by decide +kernel
theorem d_qm_begin_1 : decode qm_begin_c 1 = .ok (.iconst 0, 1) := by decide +kernel
theorem d_qm_begin_2 : decode qm_begin_c 2 = .ok (.putfield 88, 3) := by decide +kernel
theorem d_qm_begin_5 : decode qm_begin_c 5 = .ok (.aload_n 0, 1) := by decide +kernel
theorem d_qm_begin_6 : decode qm_begin_c 6 = .ok (.iconst 0, 1) := by decide +kernel
theorem d_qm_begin_7 : decode qm_begin_c 7 = .ok (.putfield 92, 3) := by decide +kernel
theorem d_qm_begin_10 : decode qm_begin_c 10 = .ok (.aload_n 0, 1) := by decide +kernel
theorem d_qm_begin_11 : decode qm_begin_c 11 = .ok (.sipush 1000, 3) := by decide +kernel
theorem d_qm_begin_14 : decode qm_begin_c 14 = .ok (.putfield 95, 3) := by decide +kernel
theorem d_qm_begin_17 : decode qm_begin_c 17 = .ok (.aload_n 0, 1) := by decide +kernel
theorem d_qm_begin_18 : decode qm_begin_c 18 = .ok (.ldc2_w 98, 3) := by decide +kernel
theorem d_qm_begin_21 : decode qm_begin_c 21 = .ok (.putfield 100, 3) := by decide +kernel
theorem d_qm_begin_24 : decode qm_begin_c 24 = .ok (.aload_n 0, 1) := by decide +kernel
theorem d_qm_begin_25 : decode qm_begin_c 25 = .ok (.iconst 0, 1) := by decide +kernel
theorem d_qm_begin_26 : decode qm_begin_c 26 = .ok (.putfield 104, 3) := by decide +kernel
theorem d_qm_begin_29 : decode qm_begin_c 29 = .ok (.aload_n 0, 1) := by decide +kernel
theorem d_qm_begin_30 : decode qm_begin_c 30 = .ok (.iconst 0, 1) := by decide +kernel
theorem d_qm_begin_31 : decode qm_begin_c 31 = .ok (.putfield 107, 3) := by decide +kernel
theorem d_qm_begin_34 : decode qm_begin_c 34 = .ok (.aload_n 0, 1) := by decide +kernel
theorem d_qm_begin_35 : decode qm_begin_c 35 = .ok (.getfield 29, 3) := by decide +kernel
theorem d_qm_begin_38 : decode qm_begin_c 38 = .ok (.iconst 0, 1) := by decide +kernel
theorem d_qm_begin_39 : decode qm_begin_c 39 = .ok (.iconst (-1), 1) := by decide +kernel
theorem d_qm_begin_40 : decode qm_begin_c 40 = .ok (.iastore, 1) := by decide +kernel
theorem d_qm_begin_41 : decode qm_begin_c 41 = .ok (.iconst 0, 1) := by decide +kernel
theorem d_qm_begin_42 : decode qm_begin_c 42 = .ok (.istore_n 1, 1) := by decide +kernel
theorem d_qm_begin_43 : decode qm_begin_c 43 = .ok (.iload_n 1, 1) := by decide +kernel
theorem d_qm_begin_44 : decode qm_begin_c 44 = .ok (.bipush 100, 2) := by decide +kernel
theorem d_qm_begin_46 : decode qm_begin_c 46 = .ok (.if_icmp .ge 67, 3) := by decide +kernel
theorem d_qm_begin_49 : decode qm_begin_c 49 = .ok (.aload_n 0, 1) := by decide +kernel
theorem d_qm_begin_50 : decode qm_begin_c 50 = .ok (.getfield 32, 3) := by decide +kernel
theorem d_qm_begin_53 : decode qm_begin_c 53 = .ok (.iload_n 1, 1) := by decide +kernel
theorem d_qm_begin_54 : decode qm_begin_c 54 = .ok (.iload_n 1, 1) := by decide +kernel
theorem d_qm_begin_55 : decode qm_begin_c 55 = .ok (.bipush 8, 2) := by decide +kernel
theorem d_qm_begin_57 : decode qm_begin_c 57 = .ok (.if_icmp .lt 17, 3) := by decide +kernel
theorem d_qm_begin_60 : decode qm_begin_c 60 = .ok (.iload_n 1, 1) := by decide +kernel
theorem d_qm_begin_61 : decode qm_begin_c 61 = .ok (.i2l, 1) := by decide +kernel
theorem d_qm_begin_62 : decode qm_begin_c 62 = .ok (.ldc2_w 110, 3) := by decide +kernel
theorem d_qm_begin_65 : decode qm_begin_c 65 = .ok (.ldc2_w 112, 3) := by decide +kernel
theorem d_qm_begin_68 : decode qm_begin_c 68 = .ok (.invokestatic 114, 3) := by decide +kernel
theorem d_qm_begin_71 : decode qm_begin_c 71 = .ok (.ifCond .eq 7, 3) := by decide +kernel
theorem d_qm_begin_74 : decode qm_begin_c 74 = .ok (.iconst 1, 1) := by decide +kernel
theorem d_qm_begin_75 : decode qm_begin_c 75 = .ok (.goto 4, 3) := by decide +kernel
theorem d_qm_begin_78 : decode qm_begin_c 78 = .ok (.iconst 0, 1) := by decide +kernel
theorem d_qm_begin_79 : decode qm_begin_c 79 = .ok (.bastore, 1) := by decide +kernel
theorem d_qm_begin_80 : decode qm_begin_c 80 = .ok (.aload_n 0, 1) := by decide +kernel
theorem d_qm_begin_81 : decode qm_begin_c 81 = .ok (.getfield 36, 3) := by decide +kernel
theorem d_qm_begin_84 : decode qm_begin_c 84 = .ok (.iload_n 1, 1) := by decide +kernel
theorem d_qm_begin_85 : decode qm_begin_c 85 = .ok (.iload_n 1, 1) := by decide +kernel
theorem d_qm_begin_86 : decode qm_begin_c 86 = .ok (.bipush 8, 2) := by decide +kernel
theorem d_qm_begin_88 : decode qm_begin_c 88 = .ok (.if_icmp .ge 7, 3) := by decide +kernel
theorem d_qm_begin_91 : decode qm_begin_c 91 = .ok (.iconst 5, 1) := by decide +kernel
theorem d_qm_begin_92 : decode qm_begin_c 92 = .ok (.goto 5, 3) := by decide +kernel
theorem d_qm_begin_95 : decode qm_begin_c 95 = .ok (.bipush 6, 2) := by decide +kernel
theorem d_qm_begin_97 : decode qm_begin_c 97 = .ok (.ldc2_w 118, 3) := by decide +kernel
theorem d_qm_begin_100 : decode qm_begin_c 100 = .ok (.iload_n 1, 1) := by decide +kernel
theorem d_qm_begin_101 : decode qm_begin_c 101 = .ok (.i2l, 1) := by decide +kernel
theorem d_qm_begin_102 : decode qm_begin_c 102 = .ok (.lsub, 1) := by decide +kernel
theorem d_qm_begin_103 : decode qm_begin_c 103 = .ok (.invokestatic 84, 3) := by decide +kernel
theorem d_qm_begin_106 : decode qm_begin_c 106 = .ok (.lastore, 1) := by decide +kernel
theorem d_qm_begin_107 : decode qm_begin_c 107 = .ok (.iinc 1 1, 3) := by decide +kernel
theorem d_qm_begin_110 : decode qm_begin_c 110 = .ok (.goto (-67), 3) := by decide +kernel
theorem d_qm_begin_113 : decode qm_begin_c 113 = .ok (.return_, 1) := by decide +kernel
theorem d_qm_lost_0 : decode qm_lost_c 0 = .ok (.ldc2_w 78, 3) := by decide +kernel
theorem d_qm_lost_3 : decode qm_lost_c 3 = .ok (.lreturn, 1) := by decide +kernel
theorem d_qm_kindOf_0 : decode qm_kindOf_c 0 = .ok (.lload_n 0, 1) := by decide +kernel
theorem d_qm_kindOf_1 : decode qm_kindOf_c 1 = .ok (.ldc2_w 82, 3) := by decide +kernel
theorem d_qm_kindOf_4 : decode qm_kindOf_c 4 = .ok (.land, 1) := by decide +kernel
theorem d_qm_kindOf_5 : decode qm_kindOf_c 5 = .ok (.l2i, 1) := by decide +kernel
theorem d_qm_kindOf_6 : decode qm_kindOf_c 6 = .ok (.ireturn, 1) := by decide +kernel
theorem d_qm_whatOf_0 : decode qm_whatOf_c 0 = .ok (.lload_n 0, 1) := by decide +kernel
theorem d_qm_whatOf_1 : decode qm_whatOf_c 1 = .ok (.iconst 4, 1) := by decide +kernel
theorem d_qm_whatOf_2 : decode qm_whatOf_c 2 = .ok (.lshr, 1) := by decide +kernel
theorem d_qm_whatOf_3 : decode qm_whatOf_c 3 = .ok (.lreturn, 1) := by decide +kernel
theorem d_qm_truth_0 : decode qm_truth_c 0 = .ok (.iconst 1, 1) := by decide +kernel
theorem d_qm_truth_1 : decode qm_truth_c 1 = .ok (.iload_n 0, 1) := by decide +kernel
theorem d_qm_truth_2 : decode qm_truth_c 2 = .ok (.ifCond .eq 7, 3) := by decide +kernel
theorem d_qm_truth_5 : decode qm_truth_c 5 = .ok (.lconst 1, 1) := by decide +kernel
theorem d_qm_truth_6 : decode qm_truth_c 6 = .ok (.goto 4, 3) := by decide +kernel
theorem d_qm_truth_9 : decode qm_truth_c 9 = .ok (.lconst 0, 1) := by decide +kernel
theorem d_qm_truth_10 : decode qm_truth_c 10 = .ok (.invokestatic 84, 3) := by decide +kernel
theorem d_qm_truth_13 : decode qm_truth_c 13 = .ok (.lreturn, 1) := by decide +kernel
theorem d_qm_indexOf_0 : decode qm_indexOf_c 0 = .ok (.lload_n 1, 1) := by decide +kernel
theorem d_qm_indexOf_1 : decode qm_indexOf_c 1 = .ok (.invokestatic 120, 3) := by decide +kernel
theorem d_qm_indexOf_4 : decode qm_indexOf_c 4 = .ok (.l2i, 1) := by decide +kernel
theorem d_qm_indexOf_5 : decode qm_indexOf_c 5 = .ok (.ireturn, 1) := by decide +kernel
theorem d_qm_carOf_0 : decode qm_carOf_c 0 = .ok (.aload_n 0, 1) := by decide +kernel
theorem d_qm_carOf_1 : decode qm_carOf_c 1 = .ok (.getfield 7, 3) := by decide +kernel
theorem d_qm_carOf_4 : decode qm_carOf_c 4 = .ok (.aload_n 0, 1) := by decide +kernel
theorem d_qm_carOf_5 : decode qm_carOf_c 5 = .ok (.lload_n 1, 1) := by decide +kernel
theorem d_qm_carOf_6 : decode qm_carOf_c 6 = .ok (.invokevirtual 124, 3) := by decide +kernel
theorem d_qm_carOf_9 : decode qm_carOf_c 9 = .ok (.laload, 1) := by decide +kernel
theorem d_qm_carOf_10 : decode qm_carOf_c 10 = .ok (.lreturn, 1) := by decide +kernel
theorem d_qm_cdrOf_0 : decode qm_cdrOf_c 0 = .ok (.aload_n 0, 1) := by decide +kernel
theorem d_qm_cdrOf_1 : decode qm_cdrOf_c 1 = .ok (.getfield 13, 3) := by decide +kernel
theorem d_qm_cdrOf_4 : decode qm_cdrOf_c 4 = .ok (.aload_n 0, 1) := by decide +kernel
theorem d_qm_cdrOf_5 : decode qm_cdrOf_c 5 = .ok (.lload_n 1, 1) := by decide +kernel
theorem d_qm_cdrOf_6 : decode qm_cdrOf_c 6 = .ok (.invokevirtual 124, 3) := by decide +kernel
theorem d_qm_cdrOf_9 : decode qm_cdrOf_c 9 = .ok (.laload, 1) := by decide +kernel
theorem d_qm_cdrOf_10 : decode qm_cdrOf_c 10 = .ok (.lreturn, 1) := by decide +kernel
theorem d_qm_underOf_0 : decode qm_underOf_c 0 = .ok (.lload_n 1, 1) := by decide +kernel
theorem d_qm_underOf_1 : decode qm_underOf_c 1 = .ok (.invokestatic 120, 3) := by decide +kernel
theorem d_qm_underOf_4 : decode qm_underOf_c 4 = .ok (.lconst 0, 1) := by decide +kernel
theorem d_qm_underOf_5 : decode qm_underOf_c 5 = .ok (.lcmp, 1) := by decide +kernel
theorem d_qm_underOf_6 : decode qm_underOf_c 6 = .ok (.ifCond .ge 14, 3) := by decide +kernel
theorem d_qm_underOf_9 : decode qm_underOf_c 9 = .ok (.iconst 5, 1) := by decide +kernel
theorem d_qm_underOf_10 : decode qm_underOf_c 10 = .ok (.lload_n 1, 1) := by decide +kernel
theorem d_qm_underOf_11 : decode qm_underOf_c 11 = .ok (.invokestatic 120, 3) := by decide +kernel
theorem d_qm_underOf_14 : decode qm_underOf_c 14 = .ok (.invokestatic 84, 3) := by decide +kernel
theorem d_qm_underOf_17 : decode qm_underOf_c 17 = .ok (.goto 13, 3) := by decide +kernel
theorem d_qm_underOf_20 : decode qm_underOf_c 20 = .ok (.aload_n 0, 1) := by decide +kernel
theorem d_qm_underOf_21 : decode qm_underOf_c 21 = .ok (.getfield 7, 3) := by decide +kernel
theorem d_qm_underOf_24 : decode qm_underOf_c 24 = .ok (.aload_n 0, 1) := by decide +kernel
theorem d_qm_underOf_25 : decode qm_underOf_c 25 = .ok (.lload_n 1, 1) := by decide +kernel
theorem d_qm_underOf_26 : decode qm_underOf_c 26 = .ok (.invokevirtual 124, 3) := by decide +kernel
theorem d_qm_underOf_29 : decode qm_underOf_c 29 = .ok (.laload, 1) := by decide +kernel
theorem d_qm_underOf_30 : decode qm_underOf_c 30 = .ok (.lreturn, 1) := by decide +kernel
theorem d_qm_parentOf_0 : decode qm_parentOf_c 0 = .ok (.lload_n 1, 1) := by decide +kernel
theorem d_qm_parentOf_1 : decode qm_parentOf_c 1 = .ok (.ldc2_w 128, 3) := by decide +kernel
theorem d_qm_parentOf_4 : decode qm_parentOf_c 4 = .ok (.lcmp, 1) := by decide +kernel
theorem d_qm_parentOf_5 : decode qm_parentOf_c 5 = .ok (.ifCond .ne 9, 3) := by decide +kernel
theorem d_qm_parentOf_8 : decode qm_parentOf_c 8 = .ok (.ldc2_w 118, 3) := by decide +kernel
theorem d_qm_parentOf_11 : decode qm_parentOf_c 11 = .ok (.goto 27, 3) := by decide +kernel
theorem d_qm_parentOf_14 : decode qm_parentOf_c 14 = .ok (.lload_n 1, 1) := by decide +kernel
theorem d_qm_parentOf_15 : decode qm_parentOf_c 15 = .ok (.ldc2_w 98, 3) := by decide +kernel
theorem d_qm_parentOf_18 : decode qm_parentOf_c 18 = .ok (.lcmp, 1) := by decide +kernel
theorem d_qm_parentOf_19 : decode qm_parentOf_c 19 = .ok (.ifCond .ne 9, 3) := by decide +kernel
theorem d_qm_parentOf_22 : decode qm_parentOf_c 22 = .ok (.ldc2_w 128, 3) := by decide +kernel
theorem d_qm_parentOf_25 : decode qm_parentOf_c 25 = .ok (.goto 13, 3) := by decide +kernel
theorem d_qm_parentOf_28 : decode qm_parentOf_c 28 = .ok (.aload_n 0, 1) := by decide +kernel
theorem d_qm_parentOf_29 : decode qm_parentOf_c 29 = .ok (.getfield 7, 3) := by decide +kernel
theorem d_qm_parentOf_32 : decode qm_parentOf_c 32 = .ok (.aload_n 0, 1) := by decide +kernel
theorem d_qm_parentOf_33 : decode qm_parentOf_c 33 = .ok (.lload_n 1, 1) := by decide +kernel
theorem d_qm_parentOf_34 : decode qm_parentOf_c 34 = .ok (.invokevirtual 124, 3) := by decide +kernel
theorem d_qm_parentOf_37 : decode qm_parentOf_c 37 = .ok (.laload, 1) := by decide +kernel
theorem d_qm_parentOf_38 : decode qm_parentOf_c 38 = .ok (.lreturn, 1) := by decide +kernel
theorem d_qm_adds_0 : decode qm_adds_c 0 = .ok (.aload_n 0, 1) := by decide +kernel
theorem d_qm_adds_1 : decode qm_adds_c 1 = .ok (.getfield 7, 3) := by decide +kernel
theorem d_qm_adds_4 : decode qm_adds_c 4 = .ok (.aload_n 0, 1) := by decide +kernel
theorem d_qm_adds_5 : decode qm_adds_c 5 = .ok (.getfield 88, 3) := by decide +kernel
theorem d_qm_adds_8 : decode qm_adds_c 8 = .ok (.lload_n 2, 1) := by decide +kernel
theorem d_qm_adds_9 : decode qm_adds_c 9 = .ok (.lastore, 1) := by decide +kernel
theorem d_qm_adds_10 : decode qm_adds_c 10 = .ok (.aload_n 0, 1) := by decide +kernel
theorem d_qm_adds_11 : decode qm_adds_c 11 = .ok (.getfield 13, 3) := by decide +kernel
theorem d_qm_adds_14 : decode qm_adds_c 14 = .ok (.aload_n 0, 1) := by decide +kernel
theorem d_qm_adds_15 : decode qm_adds_c 15 = .ok (.getfield 88, 3) := by decide +kernel
theorem d_qm_adds_18 : decode qm_adds_c 18 = .ok (.lload 4, 2) := by decide +kernel
theorem d_qm_adds_20 : decode qm_adds_c 20 = .ok (.lastore, 1) := by decide +kernel
theorem d_qm_adds_21 : decode qm_adds_c 21 = .ok (.aload_n 0, 1) := by decide +kernel
theorem d_qm_adds_22 : decode qm_adds_c 22 = .ok (.dup, 1) := by decide +kernel
theorem d_qm_adds_23 : decode qm_adds_c 23 = .ok (.getfield 88, 3) := by decide +kernel
theorem d_qm_adds_26 : decode qm_adds_c 26 = .ok (.iconst 1, 1) := by decide +kernel
theorem d_qm_adds_27 : decode qm_adds_c 27 = .ok (.iadd, 1) := by decide +kernel
theorem d_qm_adds_28 : decode qm_adds_c 28 = .ok (.putfield 88, 3) := by decide +kernel
theorem d_qm_adds_31 : decode qm_adds_c 31 = .ok (.iload_n 1, 1) := by decide +kernel
theorem d_qm_adds_32 : decode qm_adds_c 32 = .ok (.aload_n 0, 1) := by decide +kernel
theorem d_qm_adds_33 : decode qm_adds_c 33 = .ok (.getfield 88, 3) := by decide +kernel
theorem d_qm_adds_36 : decode qm_adds_c 36 = .ok (.iconst 1, 1) := by decide +kernel
theorem d_qm_adds_37 : decode qm_adds_c 37 = .ok (.isub, 1) := by decide +kernel
theorem d_qm_adds_38 : decode qm_adds_c 38 = .ok (.i2l, 1) := by decide +kernel
theorem d_qm_adds_39 : decode qm_adds_c 39 = .ok (.invokestatic 84, 3) := by decide +kernel
theorem d_qm_adds_42 : decode qm_adds_c 42 = .ok (.lreturn, 1) := by decide +kernel
theorem d_qm_addsEnvironment_0 : decode qm_addsEnvironment_c 0 = .ok (.aload_n 0, 1) := by decide +kernel
theorem d_qm_addsEnvironment_1 : decode qm_addsEnvironment_c 1 = .ok (.getfield 29, 3) := by decide +kernel
theorem d_qm_addsEnvironment_4 : decode qm_addsEnvironment_c 4 = .ok (.aload_n 0, 1) := by decide +kernel
theorem d_qm_addsEnvironment_5 : decode qm_addsEnvironment_c 5 = .ok (.getfield 88, 3) := by decide +kernel
theorem d_qm_addsEnvironment_8 : decode qm_addsEnvironment_c 8 = .ok (.iconst 2, 1) := by decide +kernel
theorem d_qm_addsEnvironment_9 : decode qm_addsEnvironment_c 9 = .ok (.iadd, 1) := by decide +kernel
theorem d_qm_addsEnvironment_10 : decode qm_addsEnvironment_c 10 = .ok (.iconst (-1), 1) := by decide +kernel
theorem d_qm_addsEnvironment_11 : decode qm_addsEnvironment_c 11 = .ok (.iastore, 1) := by decide +kernel
theorem d_qm_addsEnvironment_12 : decode qm_addsEnvironment_c 12 = .ok (.aload_n 0, 1) := by decide +kernel
theorem d_qm_addsEnvironment_13 : decode qm_addsEnvironment_c 13 = .ok (.bipush 7, 2) := by decide +kernel
theorem d_qm_addsEnvironment_15 : decode qm_addsEnvironment_c 15 = .ok (.lload_n 1, 1) := by decide +kernel
theorem d_qm_addsEnvironment_16 : decode qm_addsEnvironment_c 16 = .ok (.lconst 0, 1) := by decide +kernel
theorem d_qm_addsEnvironment_17 : decode qm_addsEnvironment_c 17 = .ok (.invokevirtual 130, 3) := by decide +kernel
theorem d_qm_addsEnvironment_20 : decode qm_addsEnvironment_c 20 = .ok (.lreturn, 1) := by decide +kernel
theorem d_qm_isFull_0 : decode qm_isFull_c 0 = .ok (.aload_n 0, 1) := by decide +kernel
theorem d_qm_isFull_1 : decode qm_isFull_c 1 = .ok (.getfield 88, 3) := by decide +kernel
theorem d_qm_isFull_4 : decode qm_isFull_c 4 = .ok (.sipush 4000, 3) := by decide +kernel
theorem d_qm_isFull_7 : decode qm_isFull_c 7 = .ok (.if_icmp .ne 7, 3) := by decide +kernel
theorem d_qm_isFull_10 : decode qm_isFull_c 10 = .ok (.iconst 1, 1) := by decide +kernel
theorem d_qm_isFull_11 : decode qm_isFull_c 11 = .ok (.goto 4, 3) := by decide +kernel
theorem d_qm_isFull_14 : decode qm_isFull_c 14 = .ok (.iconst 0, 1) := by decide +kernel
theorem d_qm_isFull_15 : decode qm_isFull_c 15 = .ok (.ireturn, 1) := by decide +kernel
theorem d_qm_findsOwn_0 : decode qm_findsOwn_c 0 = .ok (.lload_n 1, 1) := by decide +kernel
theorem d_qm_findsOwn_1 : decode qm_findsOwn_c 1 = .ok (.ldc2_w 128, 3) := by decide +kernel
theorem d_qm_findsOwn_4 : decode qm_findsOwn_c 4 = .ok (.lcmp, 1) := by decide +kernel
theorem d_qm_findsOwn_5 : decode qm_findsOwn_c 5 = .ok (.ifCond .ne 20, 3) := by decide +kernel
theorem d_qm_findsOwn_8 : decode qm_findsOwn_c 8 = .ok (.aload_n 0, 1) := by decide +kernel
theorem d_qm_findsOwn_9 : decode qm_findsOwn_c 9 = .ok (.aload_n 0, 1) := by decide +kernel
theorem d_qm_findsOwn_10 : decode qm_findsOwn_c 10 = .ok (.getfield 36, 3) := by decide +kernel
theorem d_qm_findsOwn_13 : decode qm_findsOwn_c 13 = .ok (.iload_n 3, 1) := by decide +kernel
theorem d_qm_findsOwn_14 : decode qm_findsOwn_c 14 = .ok (.laload, 1) := by decide +kernel
theorem d_qm_findsOwn_15 : decode qm_findsOwn_c 15 = .ok (.putfield 134, 3) := by decide +kernel
theorem d_qm_findsOwn_18 : decode qm_findsOwn_c 18 = .ok (.aload_n 0, 1) := by decide +kernel
theorem d_qm_findsOwn_19 : decode qm_findsOwn_c 19 = .ok (.getfield 32, 3) := by decide +kernel
theorem d_qm_findsOwn_22 : decode qm_findsOwn_c 22 = .ok (.iload_n 3, 1) := by decide +kernel
theorem d_qm_findsOwn_23 : decode qm_findsOwn_c 23 = .ok (.baload, 1) := by decide +kernel
theorem d_qm_findsOwn_24 : decode qm_findsOwn_c 24 = .ok (.ireturn, 1) := by decide +kernel
theorem d_qm_findsOwn_25 : decode qm_findsOwn_c 25 = .ok (.aload_n 0, 1) := by decide +kernel
theorem d_qm_findsOwn_26 : decode qm_findsOwn_c 26 = .ok (.aload_n 0, 1) := by decide +kernel
theorem d_qm_findsOwn_27 : decode qm_findsOwn_c 27 = .ok (.getfield 29, 3) := by decide +kernel
theorem d_qm_findsOwn_30 : decode qm_findsOwn_c 30 = .ok (.aload_n 0, 1) := by decide +kernel
theorem d_qm_findsOwn_31 : decode qm_findsOwn_c 31 = .ok (.lload_n 1, 1) := by decide +kernel
theorem d_qm_findsOwn_32 : decode qm_findsOwn_c 32 = .ok (.invokevirtual 124, 3) := by decide +kernel
theorem d_qm_findsOwn_35 : decode qm_findsOwn_c 35 = .ok (.iconst 2, 1) := by decide +kernel
theorem d_qm_findsOwn_36 : decode qm_findsOwn_c 36 = .ok (.iadd, 1) := by decide +kernel
theorem d_qm_findsOwn_37 : decode qm_findsOwn_c 37 = .ok (.iaload, 1) := by decide +kernel
theorem d_qm_findsOwn_38 : decode qm_findsOwn_c 38 = .ok (.putfield 137, 3) := by decide +kernel
theorem d_qm_findsOwn_41 : decode qm_findsOwn_c 41 = .ok (.aload_n 0, 1) := by decide +kernel
theorem d_qm_findsOwn_42 : decode qm_findsOwn_c 42 = .ok (.getfield 137, 3) := by decide +kernel
theorem d_qm_findsOwn_45 : decode qm_findsOwn_c 45 = .ok (.ifCond .lt 32, 3) := by decide +kernel
theorem d_qm_findsOwn_48 : decode qm_findsOwn_c 48 = .ok (.aload_n 0, 1) := by decide +kernel
theorem d_qm_findsOwn_49 : decode qm_findsOwn_c 49 = .ok (.getfield 22, 3) := by decide +kernel
theorem d_qm_findsOwn_52 : decode qm_findsOwn_c 52 = .ok (.aload_n 0, 1) := by decide +kernel
theorem d_qm_findsOwn_53 : decode qm_findsOwn_c 53 = .ok (.getfield 137, 3) := by decide +kernel
theorem d_qm_findsOwn_56 : decode qm_findsOwn_c 56 = .ok (.iaload, 1) := by decide +kernel
theorem d_qm_findsOwn_57 : decode qm_findsOwn_c 57 = .ok (.iload_n 3, 1) := by decide +kernel
theorem d_qm_findsOwn_58 : decode qm_findsOwn_c 58 = .ok (.if_icmp .eq 19, 3) := by decide +kernel
theorem d_qm_findsOwn_61 : decode qm_findsOwn_c 61 = .ok (.aload_n 0, 1) := by decide +kernel
theorem d_qm_findsOwn_62 : decode qm_findsOwn_c 62 = .ok (.aload_n 0, 1) := by decide +kernel
theorem d_qm_findsOwn_63 : decode qm_findsOwn_c 63 = .ok (.getfield 26, 3) := by decide +kernel
theorem d_qm_findsOwn_66 : decode qm_findsOwn_c 66 = .ok (.aload_n 0, 1) := by decide +kernel
theorem d_qm_findsOwn_67 : decode qm_findsOwn_c 67 = .ok (.getfield 137, 3) := by decide +kernel
theorem d_qm_findsOwn_70 : decode qm_findsOwn_c 70 = .ok (.iaload, 1) := by decide +kernel
theorem d_qm_findsOwn_71 : decode qm_findsOwn_c 71 = .ok (.putfield 137, 3) := by decide +kernel
theorem d_qm_findsOwn_74 : decode qm_findsOwn_c 74 = .ok (.goto (-33), 3) := by decide +kernel
theorem d_qm_findsOwn_77 : decode qm_findsOwn_c 77 = .ok (.aload_n 0, 1) := by decide +kernel
theorem d_qm_findsOwn_78 : decode qm_findsOwn_c 78 = .ok (.aload_n 0, 1) := by decide +kernel
theorem d_qm_findsOwn_79 : decode qm_findsOwn_c 79 = .ok (.getfield 137, 3) := by decide +kernel
theorem d_qm_findsOwn_82 : decode qm_findsOwn_c 82 = .ok (.ifCond .lt 15, 3) := by decide +kernel
theorem d_qm_findsOwn_85 : decode qm_findsOwn_c 85 = .ok (.aload_n 0, 1) := by decide +kernel
theorem d_qm_findsOwn_86 : decode qm_findsOwn_c 86 = .ok (.getfield 7, 3) := by decide +kernel
theorem d_qm_findsOwn_89 : decode qm_findsOwn_c 89 = .ok (.aload_n 0, 1) := by decide +kernel
theorem d_qm_findsOwn_90 : decode qm_findsOwn_c 90 = .ok (.getfield 137, 3) := by decide +kernel
theorem d_qm_findsOwn_93 : decode qm_findsOwn_c 93 = .ok (.laload, 1) := by decide +kernel
theorem d_qm_findsOwn_94 : decode qm_findsOwn_c 94 = .ok (.goto 4, 3) := by decide +kernel
theorem d_qm_findsOwn_97 : decode qm_findsOwn_c 97 = .ok (.lconst 0, 1) := by decide +kernel
theorem d_qm_findsOwn_98 : decode qm_findsOwn_c 98 = .ok (.putfield 134, 3) := by decide +kernel
theorem d_qm_findsOwn_101 : decode qm_findsOwn_c 101 = .ok (.aload_n 0, 1) := by decide +kernel
theorem d_qm_findsOwn_102 : decode qm_findsOwn_c 102 = .ok (.getfield 137, 3) := by decide +kernel
theorem d_qm_findsOwn_105 : decode qm_findsOwn_c 105 = .ok (.ifCond .lt 7, 3) := by decide +kernel
theorem d_qm_findsOwn_108 : decode qm_findsOwn_c 108 = .ok (.iconst 1, 1) := by decide +kernel
theorem d_qm_findsOwn_109 : decode qm_findsOwn_c 109 = .ok (.goto 4, 3) := by decide +kernel
theorem d_qm_findsOwn_112 : decode qm_findsOwn_c 112 = .ok (.iconst 0, 1) := by decide +kernel
theorem d_qm_findsOwn_113 : decode qm_findsOwn_c 113 = .ok (.ireturn, 1) := by decide +kernel
theorem d_qm_finds_0 : decode qm_finds_c 0 = .ok (.lload_n 1, 1) := by decide +kernel
theorem d_qm_finds_1 : decode qm_finds_c 1 = .ok (.lstore 4, 2) := by decide +kernel
theorem d_qm_finds_3 : decode qm_finds_c 3 = .ok (.lload 4, 2) := by decide +kernel
theorem d_qm_finds_5 : decode qm_finds_c 5 = .ok (.ldc2_w 118, 3) := by decide +kernel
theorem d_qm_finds_8 : decode qm_finds_c 8 = .ok (.lcmp, 1) := by decide +kernel
theorem d_qm_finds_9 : decode qm_finds_c 9 = .ok (.ifCond .eq 26, 3) := by decide +kernel
theorem d_qm_finds_12 : decode qm_finds_c 12 = .ok (.aload_n 0, 1) := by decide +kernel
theorem d_qm_finds_13 : decode qm_finds_c 13 = .ok (.lload 4, 2) := by decide +kernel
theorem d_qm_finds_15 : decode qm_finds_c 15 = .ok (.iload_n 3, 1) := by decide +kernel
theorem d_qm_finds_16 : decode qm_finds_c 16 = .ok (.invokevirtual 140, 3) := by decide +kernel
theorem d_qm_finds_19 : decode qm_finds_c 19 = .ok (.ifCond .eq 5, 3) := by decide +kernel
theorem d_qm_finds_22 : decode qm_finds_c 22 = .ok (.iconst 1, 1) := by decide +kernel
theorem d_qm_finds_23 : decode qm_finds_c 23 = .ok (.ireturn, 1) := by decide +kernel
theorem d_qm_finds_24 : decode qm_finds_c 24 = .ok (.aload_n 0, 1) := by decide +kernel
theorem d_qm_finds_25 : decode qm_finds_c 25 = .ok (.lload 4, 2) := by decide +kernel
theorem d_qm_finds_27 : decode qm_finds_c 27 = .ok (.invokevirtual 144, 3) := by decide +kernel
theorem d_qm_finds_30 : decode qm_finds_c 30 = .ok (.lstore 4, 2) := by decide +kernel
theorem d_qm_finds_32 : decode qm_finds_c 32 = .ok (.goto (-29), 3) := by decide +kernel
theorem d_qm_finds_35 : decode qm_finds_c 35 = .ok (.iconst 0, 1) := by decide +kernel
theorem d_qm_finds_36 : decode qm_finds_c 36 = .ok (.ireturn, 1) := by decide +kernel
theorem d_qm_binds_0 : decode qm_binds_c 0 = .ok (.aload_n 0, 1) := by decide +kernel
theorem d_qm_binds_1 : decode qm_binds_c 1 = .ok (.lload_n 1, 1) := by decide +kernel
theorem d_qm_binds_2 : decode qm_binds_c 2 = .ok (.iload_n 3, 1) := by decide +kernel
theorem d_qm_binds_3 : decode qm_binds_c 3 = .ok (.invokevirtual 140, 3) := by decide +kernel
theorem d_qm_binds_6 : decode qm_binds_c 6 = .ok (.istore 6, 2) := by decide +kernel
theorem d_qm_binds_8 : decode qm_binds_c 8 = .ok (.iload 6, 2) := by decide +kernel
theorem d_qm_binds_10 : decode qm_binds_c 10 = .ok (.ifCond .ne 12, 3) := by decide +kernel
theorem d_qm_binds_13 : decode qm_binds_c 13 = .ok (.aload_n 0, 1) := by decide +kernel
theorem d_qm_binds_14 : decode qm_binds_c 14 = .ok (.invokevirtual 147, 3) := by decide +kernel
theorem d_qm_binds_17 : decode qm_binds_c 17 = .ok (.ifCond .eq 5, 3) := by decide +kernel
theorem d_qm_binds_20 : decode qm_binds_c 20 = .ok (.iconst 0, 1) := by decide +kernel
theorem d_qm_binds_21 : decode qm_binds_c 21 = .ok (.ireturn, 1) := by decide +kernel
theorem d_qm_binds_22 : decode qm_binds_c 22 = .ok (.lload_n 1, 1) := by decide +kernel
theorem d_qm_binds_23 : decode qm_binds_c 23 = .ok (.ldc2_w 128, 3) := by decide +kernel
theorem d_qm_binds_26 : decode qm_binds_c 26 = .ok (.lcmp, 1) := by decide +kernel
theorem d_qm_binds_27 : decode qm_binds_c 27 = .ok (.ifCond .ne 40, 3) := by decide +kernel
theorem d_qm_binds_30 : decode qm_binds_c 30 = .ok (.aload_n 0, 1) := by decide +kernel
theorem d_qm_binds_31 : decode qm_binds_c 31 = .ok (.getfield 32, 3) := by decide +kernel
theorem d_qm_binds_34 : decode qm_binds_c 34 = .ok (.iload_n 3, 1) := by decide +kernel
theorem d_qm_binds_35 : decode qm_binds_c 35 = .ok (.iconst 1, 1) := by decide +kernel
theorem d_qm_binds_36 : decode qm_binds_c 36 = .ok (.bastore, 1) := by decide +kernel
theorem d_qm_binds_37 : decode qm_binds_c 37 = .ok (.aload_n 0, 1) := by decide +kernel
theorem d_qm_binds_38 : decode qm_binds_c 38 = .ok (.getfield 36, 3) := by decide +kernel
theorem d_qm_binds_41 : decode qm_binds_c 41 = .ok (.iload_n 3, 1) := by decide +kernel
theorem d_qm_binds_42 : decode qm_binds_c 42 = .ok (.lload 4, 2) := by decide +kernel
theorem d_qm_binds_44 : decode qm_binds_c 44 = .ok (.lastore, 1) := by decide +kernel
theorem d_qm_binds_45 : decode qm_binds_c 45 = .ok (.aload_n 0, 1) := by decide +kernel
theorem d_qm_binds_46 : decode qm_binds_c 46 = .ok (.dup, 1) := by decide +kernel
theorem d_qm_binds_47 : decode qm_binds_c 47 = .ok (.getfield 88, 3) := by decide +kernel
theorem d_qm_binds_50 : decode qm_binds_c 50 = .ok (.iload 6, 2) := by decide +kernel
theorem d_qm_binds_52 : decode qm_binds_c 52 = .ok (.ifCond .eq 7, 3) := by decide +kernel
theorem d_qm_binds_55 : decode qm_binds_c 55 = .ok (.iconst 0, 1) := by decide +kernel
theorem d_qm_binds_56 : decode qm_binds_c 56 = .ok (.goto 4, 3) := by decide +kernel
theorem d_qm_binds_59 : decode qm_binds_c 59 = .ok (.iconst 1, 1) := by decide +kernel
theorem d_qm_binds_60 : decode qm_binds_c 60 = .ok (.iadd, 1) := by decide +kernel
theorem d_qm_binds_61 : decode qm_binds_c 61 = .ok (.putfield 88, 3) := by decide +kernel
theorem d_qm_binds_64 : decode qm_binds_c 64 = .ok (.goto 89, 3) := by decide +kernel
theorem d_qm_binds_67 : decode qm_binds_c 67 = .ok (.iload 6, 2) := by decide +kernel
theorem d_qm_binds_69 : decode qm_binds_c 69 = .ok (.ifCond .eq 17, 3) := by decide +kernel
theorem d_qm_binds_72 : decode qm_binds_c 72 = .ok (.aload_n 0, 1) := by decide +kernel
theorem d_qm_binds_73 : decode qm_binds_c 73 = .ok (.getfield 7, 3) := by decide +kernel
theorem d_qm_binds_76 : decode qm_binds_c 76 = .ok (.aload_n 0, 1) := by decide +kernel
theorem d_qm_binds_77 : decode qm_binds_c 77 = .ok (.getfield 137, 3) := by decide +kernel
theorem d_qm_binds_80 : decode qm_binds_c 80 = .ok (.lload 4, 2) := by decide +kernel
theorem d_qm_binds_82 : decode qm_binds_c 82 = .ok (.lastore, 1) := by decide +kernel
theorem d_qm_binds_83 : decode qm_binds_c 83 = .ok (.goto 70, 3) := by decide +kernel
theorem d_qm_binds_86 : decode qm_binds_c 86 = .ok (.aload_n 0, 1) := by decide +kernel
theorem d_qm_binds_87 : decode qm_binds_c 87 = .ok (.lload_n 1, 1) := by decide +kernel
theorem d_qm_binds_88 : decode qm_binds_c 88 = .ok (.invokevirtual 124, 3) := by decide +kernel
theorem d_qm_binds_91 : decode qm_binds_c 91 = .ok (.iconst 2, 1) := by decide +kernel
theorem d_qm_binds_92 : decode qm_binds_c 92 = .ok (.iadd, 1) := by decide +kernel
theorem d_qm_binds_93 : decode qm_binds_c 93 = .ok (.istore 7, 2) := by decide +kernel
theorem d_qm_binds_95 : decode qm_binds_c 95 = .ok (.aload_n 0, 1) := by decide +kernel
theorem d_qm_binds_96 : decode qm_binds_c 96 = .ok (.getfield 22, 3) := by decide +kernel
theorem d_qm_binds_99 : decode qm_binds_c 99 = .ok (.aload_n 0, 1) := by decide +kernel
theorem d_qm_binds_100 : decode qm_binds_c 100 = .ok (.getfield 88, 3) := by decide +kernel
theorem d_qm_binds_103 : decode qm_binds_c 103 = .ok (.iload_n 3, 1) := by decide +kernel
theorem d_qm_binds_104 : decode qm_binds_c 104 = .ok (.iastore, 1) := by decide +kernel
theorem d_qm_binds_105 : decode qm_binds_c 105 = .ok (.aload_n 0, 1) := by decide +kernel
theorem d_qm_binds_106 : decode qm_binds_c 106 = .ok (.getfield 26, 3) := by decide +kernel
theorem d_qm_binds_109 : decode qm_binds_c 109 = .ok (.aload_n 0, 1) := by decide +kernel
theorem d_qm_binds_110 : decode qm_binds_c 110 = .ok (.getfield 88, 3) := by decide +kernel
theorem d_qm_binds_113 : decode qm_binds_c 113 = .ok (.aload_n 0, 1) := by decide +kernel
theorem d_qm_binds_114 : decode qm_binds_c 114 = .ok (.getfield 29, 3) := by decide +kernel
theorem d_qm_binds_117 : decode qm_binds_c 117 = .ok (.iload 7, 2) := by decide +kernel
theorem d_qm_binds_119 : decode qm_binds_c 119 = .ok (.iaload, 1) := by decide +kernel
theorem d_qm_binds_120 : decode qm_binds_c 120 = .ok (.iastore, 1) := by decide +kernel
theorem d_qm_binds_121 : decode qm_binds_c 121 = .ok (.aload_n 0, 1) := by decide +kernel
theorem d_qm_binds_122 : decode qm_binds_c 122 = .ok (.getfield 29, 3) := by decide +kernel
theorem d_qm_binds_125 : decode qm_binds_c 125 = .ok (.iload 7, 2) := by decide +kernel
theorem d_qm_binds_127 : decode qm_binds_c 127 = .ok (.aload_n 0, 1) := by decide +kernel
theorem d_qm_binds_128 : decode qm_binds_c 128 = .ok (.getfield 88, 3) := by decide +kernel
theorem d_qm_binds_131 : decode qm_binds_c 131 = .ok (.iastore, 1) := by decide +kernel
theorem d_qm_binds_132 : decode qm_binds_c 132 = .ok (.aload_n 0, 1) := by decide +kernel
theorem d_qm_binds_133 : decode qm_binds_c 133 = .ok (.getfield 7, 3) := by decide +kernel
theorem d_qm_binds_136 : decode qm_binds_c 136 = .ok (.aload_n 0, 1) := by decide +kernel
theorem d_qm_binds_137 : decode qm_binds_c 137 = .ok (.getfield 88, 3) := by decide +kernel
theorem d_qm_binds_140 : decode qm_binds_c 140 = .ok (.lload 4, 2) := by decide +kernel
theorem d_qm_binds_142 : decode qm_binds_c 142 = .ok (.lastore, 1) := by decide +kernel
theorem d_qm_binds_143 : decode qm_binds_c 143 = .ok (.aload_n 0, 1) := by decide +kernel
theorem d_qm_binds_144 : decode qm_binds_c 144 = .ok (.dup, 1) := by decide +kernel
theorem d_qm_binds_145 : decode qm_binds_c 145 = .ok (.getfield 88, 3) := by decide +kernel
theorem d_qm_binds_148 : decode qm_binds_c 148 = .ok (.iconst 1, 1) := by decide +kernel
theorem d_qm_binds_149 : decode qm_binds_c 149 = .ok (.iadd, 1) := by decide +kernel
theorem d_qm_binds_150 : decode qm_binds_c 150 = .ok (.putfield 88, 3) := by decide +kernel
theorem d_qm_binds_153 : decode qm_binds_c 153 = .ok (.iconst 1, 1) := by decide +kernel
theorem d_qm_binds_154 : decode qm_binds_c 154 = .ok (.ireturn, 1) := by decide +kernel
theorem d_qm_longOf_0 : decode qm_longOf_c 0 = .ok (.iconst 0, 1) := by decide +kernel
theorem d_qm_longOf_1 : decode qm_longOf_c 1 = .ok (.istore_n 3, 1) := by decide +kernel
theorem d_qm_longOf_2 : decode qm_longOf_c 2 = .ok (.lload_n 1, 1) := by decide +kernel
theorem d_qm_longOf_3 : decode qm_longOf_c 3 = .ok (.lstore 4, 2) := by decide +kernel
theorem d_qm_longOf_5 : decode qm_longOf_c 5 = .ok (.lload 4, 2) := by decide +kernel
theorem d_qm_longOf_7 : decode qm_longOf_c 7 = .ok (.invokestatic 151, 3) := by decide +kernel
theorem d_qm_longOf_10 : decode qm_longOf_c 10 = .ok (.iconst 4, 1) := by decide +kernel
theorem d_qm_longOf_11 : decode qm_longOf_c 11 = .ok (.if_icmp .ne 17, 3) := by decide +kernel
theorem d_qm_longOf_14 : decode qm_longOf_c 14 = .ok (.aload_n 0, 1) := by decide +kernel
theorem d_qm_longOf_15 : decode qm_longOf_c 15 = .ok (.lload 4, 2) := by decide +kernel
theorem d_qm_longOf_17 : decode qm_longOf_c 17 = .ok (.invokevirtual 154, 3) := by decide +kernel
theorem d_qm_longOf_20 : decode qm_longOf_c 20 = .ok (.lstore 4, 2) := by decide +kernel
theorem d_qm_longOf_22 : decode qm_longOf_c 22 = .ok (.iinc 3 1, 3) := by decide +kernel
theorem d_qm_longOf_25 : decode qm_longOf_c 25 = .ok (.goto (-20), 3) := by decide +kernel
theorem d_qm_longOf_28 : decode qm_longOf_c 28 = .ok (.lload 4, 2) := by decide +kernel
theorem d_qm_longOf_30 : decode qm_longOf_c 30 = .ok (.invokestatic 151, 3) := by decide +kernel
theorem d_qm_longOf_33 : decode qm_longOf_c 33 = .ok (.iconst 3, 1) := by decide +kernel
theorem d_qm_longOf_34 : decode qm_longOf_c 34 = .ok (.if_icmp .ne 7, 3) := by decide +kernel
theorem d_qm_longOf_37 : decode qm_longOf_c 37 = .ok (.iload_n 3, 1) := by decide +kernel
theorem d_qm_longOf_38 : decode qm_longOf_c 38 = .ok (.goto 4, 3) := by decide +kernel
theorem d_qm_longOf_41 : decode qm_longOf_c 41 = .ok (.iconst (-1), 1) := by decide +kernel
theorem d_qm_longOf_42 : decode qm_longOf_c 42 = .ok (.ireturn, 1) := by decide +kernel
theorem d_qm_elementOf_0 : decode qm_elementOf_c 0 = .ok (.lload_n 1, 1) := by decide +kernel
theorem d_qm_elementOf_1 : decode qm_elementOf_c 1 = .ok (.lstore 4, 2) := by decide +kernel
theorem d_qm_elementOf_3 : decode qm_elementOf_c 3 = .ok (.iconst 0, 1) := by decide +kernel
theorem d_qm_elementOf_4 : decode qm_elementOf_c 4 = .ok (.istore 6, 2) := by decide +kernel
theorem d_qm_elementOf_6 : decode qm_elementOf_c 6 = .ok (.iload 6, 2) := by decide +kernel
theorem d_qm_elementOf_8 : decode qm_elementOf_c 8 = .ok (.iload_n 3, 1) := by decide +kernel
theorem d_qm_elementOf_9 : decode qm_elementOf_c 9 = .ok (.if_icmp .ge 17, 3) := by decide +kernel
theorem d_qm_elementOf_12 : decode qm_elementOf_c 12 = .ok (.aload_n 0, 1) := by decide +kernel
theorem d_qm_elementOf_13 : decode qm_elementOf_c 13 = .ok (.lload 4, 2) := by decide +kernel
theorem d_qm_elementOf_15 : decode qm_elementOf_c 15 = .ok (.invokevirtual 154, 3) := by decide +kernel
theorem d_qm_elementOf_18 : decode qm_elementOf_c 18 = .ok (.lstore 4, 2) := by decide +kernel
theorem d_qm_elementOf_20 : decode qm_elementOf_c 20 = .ok (.iinc 6 1, 3) := by decide +kernel
theorem d_qm_elementOf_23 : decode qm_elementOf_c 23 = .ok (.goto (-17), 3) := by decide +kernel
theorem d_qm_elementOf_26 : decode qm_elementOf_c 26 = .ok (.aload_n 0, 1) := by decide +kernel
theorem d_qm_elementOf_27 : decode qm_elementOf_c 27 = .ok (.lload 4, 2) := by decide +kernel
theorem d_qm_elementOf_29 : decode qm_elementOf_c 29 = .ok (.invokevirtual 157, 3) := by decide +kernel
theorem d_qm_elementOf_32 : decode qm_elementOf_c 32 = .ok (.lreturn, 1) := by decide +kernel
theorem d_qm_pushes_0 : decode qm_pushes_c 0 = .ok (.aload_n 0, 1) := by decide +kernel
theorem d_qm_pushes_1 : decode qm_pushes_c 1 = .ok (.getfield 92, 3) := by decide +kernel
theorem d_qm_pushes_4 : decode qm_pushes_c 4 = .ok (.bipush 40, 2) := by decide +kernel
theorem d_qm_pushes_6 : decode qm_pushes_c 6 = .ok (.if_icmp .ne 6, 3) := by decide +kernel
theorem d_qm_pushes_9 : decode qm_pushes_c 9 = .ok (.bipush (-3), 2) := by decide +kernel
theorem d_qm_pushes_11 : decode qm_pushes_c 11 = .ok (.ireturn, 1) := by decide +kernel
theorem d_qm_pushes_12 : decode qm_pushes_c 12 = .ok (.aload_n 0, 1) := by decide +kernel
theorem d_qm_pushes_13 : decode qm_pushes_c 13 = .ok (.getfield 39, 3) := by decide +kernel
theorem d_qm_pushes_16 : decode qm_pushes_c 16 = .ok (.aload_n 0, 1) := by decide +kernel
theorem d_qm_pushes_17 : decode qm_pushes_c 17 = .ok (.getfield 92, 3) := by decide +kernel
theorem d_qm_pushes_20 : decode qm_pushes_c 20 = .ok (.lload_n 1, 1) := by decide +kernel
theorem d_qm_pushes_21 : decode qm_pushes_c 21 = .ok (.lastore, 1) := by decide +kernel
theorem d_qm_pushes_22 : decode qm_pushes_c 22 = .ok (.aload_n 0, 1) := by decide +kernel
theorem d_qm_pushes_23 : decode qm_pushes_c 23 = .ok (.dup, 1) := by decide +kernel
theorem d_qm_pushes_24 : decode qm_pushes_c 24 = .ok (.getfield 92, 3) := by decide +kernel
theorem d_qm_pushes_27 : decode qm_pushes_c 27 = .ok (.iconst 1, 1) := by decide +kernel
theorem d_qm_pushes_28 : decode qm_pushes_c 28 = .ok (.iadd, 1) := by decide +kernel
theorem d_qm_pushes_29 : decode qm_pushes_c 29 = .ok (.putfield 92, 3) := by decide +kernel
theorem d_qm_pushes_32 : decode qm_pushes_c 32 = .ok (.aload_n 0, 1) := by decide +kernel
theorem d_qm_pushes_33 : decode qm_pushes_c 33 = .ok (.getfield 92, 3) := by decide +kernel
theorem d_qm_pushes_36 : decode qm_pushes_c 36 = .ok (.ireturn, 1) := by decide +kernel
theorem d_qm_depthBarred_0 : decode qm_depthBarred_c 0 = .ok (.iload_n 1, 1) := by decide +kernel
theorem d_qm_depthBarred_1 : decode qm_depthBarred_c 1 = .ok (.ifCond .ge 7, 3) := by decide +kernel
theorem d_qm_depthBarred_4 : decode qm_depthBarred_c 4 = .ok (.iconst (-1), 1) := by decide +kernel
theorem d_qm_depthBarred_5 : decode qm_depthBarred_c 5 = .ok (.goto 17, 3) := by decide +kernel
theorem d_qm_depthBarred_8 : decode qm_depthBarred_c 8 = .ok (.iload_n 1, 1) := by decide +kernel
theorem d_qm_depthBarred_9 : decode qm_depthBarred_c 9 = .ok (.aload_n 0, 1) := by decide +kernel
theorem d_qm_depthBarred_10 : decode qm_depthBarred_c 10 = .ok (.getfield 92, 3) := by decide +kernel
theorem d_qm_depthBarred_13 : decode qm_depthBarred_c 13 = .ok (.if_icmp .lt 8, 3) := by decide +kernel
theorem d_qm_depthBarred_16 : decode qm_depthBarred_c 16 = .ok (.bipush (-2), 2) := by decide +kernel
theorem d_qm_depthBarred_18 : decode qm_depthBarred_c 18 = .ok (.goto 4, 3) := by decide +kernel
theorem d_qm_depthBarred_21 : decode qm_depthBarred_c 21 = .ok (.iconst 0, 1) := by decide +kernel
theorem d_qm_depthBarred_22 : decode qm_depthBarred_c 22 = .ok (.ireturn, 1) := by decide +kernel
theorem d_qm_at_0 : decode qm_at_c 0 = .ok (.aload_n 0, 1) := by decide +kernel
theorem d_qm_at_1 : decode qm_at_c 1 = .ok (.getfield 39, 3) := by decide +kernel
theorem d_qm_at_4 : decode qm_at_c 4 = .ok (.aload_n 0, 1) := by decide +kernel
theorem d_qm_at_5 : decode qm_at_c 5 = .ok (.getfield 92, 3) := by decide +kernel
theorem d_qm_at_8 : decode qm_at_c 8 = .ok (.iconst 1, 1) := by decide +kernel
theorem d_qm_at_9 : decode qm_at_c 9 = .ok (.isub, 1) := by decide +kernel
theorem d_qm_at_10 : decode qm_at_c 10 = .ok (.iload_n 1, 1) := by decide +kernel
theorem d_qm_at_11 : decode qm_at_c 11 = .ok (.isub, 1) := by decide +kernel
theorem d_qm_at_12 : decode qm_at_c 12 = .ok (.laload, 1) := by decide +kernel
theorem d_qm_at_13 : decode qm_at_c 13 = .ok (.lreturn, 1) := by decide +kernel
theorem d_qm_pushInteger_0 : decode qm_pushInteger_c 0 = .ok (.lload_n 1, 1) := by decide +kernel
theorem d_qm_pushInteger_1 : decode qm_pushInteger_c 1 = .ok (.ldc2_w 160, 3) := by decide +kernel
theorem d_qm_pushInteger_4 : decode qm_pushInteger_c 4 = .ok (.ldc2_w 162, 3) := by decide +kernel
theorem d_qm_pushInteger_7 : decode qm_pushInteger_c 7 = .ok (.invokestatic 114, 3) := by decide +kernel
theorem d_qm_pushInteger_10 : decode qm_pushInteger_c 10 = .ok (.ifCond .eq 15, 3) := by decide +kernel
theorem d_qm_pushInteger_13 : decode qm_pushInteger_c 13 = .ok (.aload_n 0, 1) := by decide +kernel
theorem d_qm_pushInteger_14 : decode qm_pushInteger_c 14 = .ok (.iconst 0, 1) := by decide +kernel
theorem d_qm_pushInteger_15 : decode qm_pushInteger_c 15 = .ok (.lload_n 1, 1) := by decide +kernel
theorem d_qm_pushInteger_16 : decode qm_pushInteger_c 16 = .ok (.invokestatic 84, 3) := by decide +kernel
theorem d_qm_pushInteger_19 : decode qm_pushInteger_c 19 = .ok (.invokevirtual 164, 3) := by decide +kernel
theorem d_qm_pushInteger_22 : decode qm_pushInteger_c 22 = .ok (.goto 4, 3) := by decide +kernel
theorem d_qm_pushInteger_25 : decode qm_pushInteger_c 25 = .ok (.iconst (-1), 1) := by decide +kernel
theorem d_qm_pushInteger_26 : decode qm_pushInteger_c 26 = .ok (.ireturn, 1) := by decide +kernel
theorem d_qm_pushBoolean_0 : decode qm_pushBoolean_c 0 = .ok (.aload_n 0, 1) := by decide +kernel
theorem d_qm_pushBoolean_1 : decode qm_pushBoolean_c 1 = .ok (.iload_n 1, 1) := by decide +kernel
theorem d_qm_pushBoolean_2 : decode qm_pushBoolean_c 2 = .ok (.invokestatic 167, 3) := by decide +kernel
theorem d_qm_pushBoolean_5 : decode qm_pushBoolean_c 5 = .ok (.invokevirtual 164, 3) := by decide +kernel
theorem d_qm_pushBoolean_8 : decode qm_pushBoolean_c 8 = .ok (.ireturn, 1) := by decide +kernel
theorem d_qm_pushSymbol_0 : decode qm_pushSymbol_c 0 = .ok (.iload_n 1, 1) := by decide +kernel
theorem d_qm_pushSymbol_1 : decode qm_pushSymbol_c 1 = .ok (.i2l, 1) := by decide +kernel
theorem d_qm_pushSymbol_2 : decode qm_pushSymbol_c 2 = .ok (.lconst 0, 1) := by decide +kernel
theorem d_qm_pushSymbol_3 : decode qm_pushSymbol_c 3 = .ok (.ldc2_w 171, 3) := by decide +kernel
theorem d_qm_pushSymbol_6 : decode qm_pushSymbol_c 6 = .ok (.invokestatic 114, 3) := by decide +kernel
theorem d_qm_pushSymbol_9 : decode qm_pushSymbol_c 9 = .ok (.ifCond .eq 16, 3) := by decide +kernel
theorem d_qm_pushSymbol_12 : decode qm_pushSymbol_c 12 = .ok (.aload_n 0, 1) := by decide +kernel
theorem d_qm_pushSymbol_13 : decode qm_pushSymbol_c 13 = .ok (.iconst 2, 1) := by decide +kernel
theorem d_qm_pushSymbol_14 : decode qm_pushSymbol_c 14 = .ok (.iload_n 1, 1) := by decide +kernel
theorem d_qm_pushSymbol_15 : decode qm_pushSymbol_c 15 = .ok (.i2l, 1) := by decide +kernel
theorem d_qm_pushSymbol_16 : decode qm_pushSymbol_c 16 = .ok (.invokestatic 84, 3) := by decide +kernel
theorem d_qm_pushSymbol_19 : decode qm_pushSymbol_c 19 = .ok (.invokevirtual 164, 3) := by decide +kernel
theorem d_qm_pushSymbol_22 : decode qm_pushSymbol_c 22 = .ok (.goto 4, 3) := by decide +kernel
theorem d_qm_pushSymbol_25 : decode qm_pushSymbol_c 25 = .ok (.iconst (-1), 1) := by decide +kernel
theorem d_qm_pushSymbol_26 : decode qm_pushSymbol_c 26 = .ok (.ireturn, 1) := by decide +kernel
theorem d_qm_pushEmpty_0 : decode qm_pushEmpty_c 0 = .ok (.aload_n 0, 1) := by decide +kernel
theorem d_qm_pushEmpty_1 : decode qm_pushEmpty_c 1 = .ok (.iload_n 1, 1) := by decide +kernel
theorem d_qm_pushEmpty_2 : decode qm_pushEmpty_c 2 = .ok (.ifCond .eq 9, 3) := by decide +kernel
theorem d_qm_pushEmpty_5 : decode qm_pushEmpty_c 5 = .ok (.ldc2_w 173, 3) := by decide +kernel
theorem d_qm_pushEmpty_8 : decode qm_pushEmpty_c 8 = .ok (.goto 6, 3) := by decide +kernel
theorem d_qm_pushEmpty_11 : decode qm_pushEmpty_c 11 = .ok (.ldc2_w 175, 3) := by decide +kernel
theorem d_qm_pushEmpty_14 : decode qm_pushEmpty_c 14 = .ok (.invokevirtual 164, 3) := by decide +kernel
theorem d_qm_pushEmpty_17 : decode qm_pushEmpty_c 17 = .ok (.ireturn, 1) := by decide +kernel
theorem d_qm_pushEnvironment_0 : decode qm_pushEnvironment_c 0 = .ok (.aload_n 0, 1) := by decide +kernel
theorem d_qm_pushEnvironment_1 : decode qm_pushEnvironment_c 1 = .ok (.aload_n 0, 1) := by decide +kernel
theorem d_qm_pushEnvironment_2 : decode qm_pushEnvironment_c 2 = .ok (.getfield 100, 3) := by decide +kernel
theorem d_qm_pushEnvironment_5 : decode qm_pushEnvironment_c 5 = .ok (.invokevirtual 164, 3) := by decide +kernel
theorem d_qm_pushEnvironment_8 : decode qm_pushEnvironment_c 8 = .ok (.ireturn, 1) := by decide +kernel
theorem d_qm_pushCopy_0 : decode qm_pushCopy_c 0 = .ok (.aload_n 0, 1) := by decide +kernel
theorem d_qm_pushCopy_1 : decode qm_pushCopy_c 1 = .ok (.iload_n 1, 1) := by decide +kernel
theorem d_qm_pushCopy_2 : decode qm_pushCopy_c 2 = .ok (.invokevirtual 177, 3) := by decide +kernel
theorem d_qm_pushCopy_5 : decode qm_pushCopy_c 5 = .ok (.istore_n 2, 1) := by decide +kernel
theorem d_qm_pushCopy_6 : decode qm_pushCopy_c 6 = .ok (.iload_n 2, 1) := by decide +kernel
theorem d_qm_pushCopy_7 : decode qm_pushCopy_c 7 = .ok (.ifCond .ge 7, 3) := by decide +kernel
theorem d_qm_pushCopy_10 : decode qm_pushCopy_c 10 = .ok (.iload_n 2, 1) := by decide +kernel
theorem d_qm_pushCopy_11 : decode qm_pushCopy_c 11 = .ok (.goto 12, 3) := by decide +kernel
theorem d_qm_pushCopy_14 : decode qm_pushCopy_c 14 = .ok (.aload_n 0, 1) := by decide +kernel
theorem d_qm_pushCopy_15 : decode qm_pushCopy_c 15 = .ok (.aload_n 0, 1) := by decide +kernel
theorem d_qm_pushCopy_16 : decode qm_pushCopy_c 16 = .ok (.iload_n 1, 1) := by decide +kernel
theorem d_qm_pushCopy_17 : decode qm_pushCopy_c 17 = .ok (.invokevirtual 181, 3) := by decide +kernel
theorem d_qm_pushCopy_20 : decode qm_pushCopy_c 20 = .ok (.invokevirtual 164, 3) := by decide +kernel
theorem d_qm_pushCopy_23 : decode qm_pushCopy_c 23 = .ok (.ireturn, 1) := by decide +kernel
theorem d_qm_pushPart_0 : decode qm_pushPart_c 0 = .ok (.iload_n 1, 1) := by decide +kernel
theorem d_qm_pushPart_1 : decode qm_pushPart_c 1 = .ok (.ifCond .lt 13, 3) := by decide +kernel
theorem d_qm_pushPart_4 : decode qm_pushPart_c 4 = .ok (.iload_n 2, 1) := by decide +kernel
theorem d_qm_pushPart_5 : decode qm_pushPart_c 5 = .ok (.i2l, 1) := by decide +kernel
theorem d_qm_pushPart_6 : decode qm_pushPart_c 6 = .ok (.lconst 0, 1) := by decide +kernel
theorem d_qm_pushPart_7 : decode qm_pushPart_c 7 = .ok (.lconst 1, 1) := by decide +kernel
theorem d_qm_pushPart_8 : decode qm_pushPart_c 8 = .ok (.invokestatic 114, 3) := by decide +kernel
theorem d_qm_pushPart_11 : decode qm_pushPart_c 11 = .ok (.ifCond .ne 5, 3) := by decide +kernel
theorem d_qm_pushPart_14 : decode qm_pushPart_c 14 = .ok (.iconst (-1), 1) := by decide +kernel
theorem d_qm_pushPart_15 : decode qm_pushPart_c 15 = .ok (.ireturn, 1) := by decide +kernel
theorem d_qm_pushPart_16 : decode qm_pushPart_c 16 = .ok (.iload_n 1, 1) := by decide +kernel
theorem d_qm_pushPart_17 : decode qm_pushPart_c 17 = .ok (.aload_n 0, 1) := by decide +kernel
theorem d_qm_pushPart_18 : decode qm_pushPart_c 18 = .ok (.getfield 92, 3) := by decide +kernel
theorem d_qm_pushPart_21 : decode qm_pushPart_c 21 = .ok (.if_icmp .lt 6, 3) := by decide +kernel
theorem d_qm_pushPart_24 : decode qm_pushPart_c 24 = .ok (.bipush (-2), 2) := by decide +kernel
theorem d_qm_pushPart_26 : decode qm_pushPart_c 26 = .ok (.ireturn, 1) := by decide +kernel
theorem d_qm_pushPart_27 : decode qm_pushPart_c 27 = .ok (.aload_n 0, 1) := by decide +kernel
theorem d_qm_pushPart_28 : decode qm_pushPart_c 28 = .ok (.iload_n 1, 1) := by decide +kernel
theorem d_qm_pushPart_29 : decode qm_pushPart_c 29 = .ok (.invokevirtual 181, 3) := by decide +kernel
theorem d_qm_pushPart_32 : decode qm_pushPart_c 32 = .ok (.lstore_n 3, 1) := by decide +kernel
theorem d_qm_pushPart_33 : decode qm_pushPart_c 33 = .ok (.lload_n 3, 1) := by decide +kernel
theorem d_qm_pushPart_34 : decode qm_pushPart_c 34 = .ok (.invokestatic 151, 3) := by decide +kernel
theorem d_qm_pushPart_37 : decode qm_pushPart_c 37 = .ok (.istore 5, 2) := by decide +kernel
theorem d_qm_pushPart_39 : decode qm_pushPart_c 39 = .ok (.iload 5, 2) := by decide +kernel
theorem d_qm_pushPart_41 : decode qm_pushPart_c 41 = .ok (.iconst 4, 1) := by decide +kernel
theorem d_qm_pushPart_42 : decode qm_pushPart_c 42 = .ok (.if_icmp .ne 25, 3) := by decide +kernel
theorem d_qm_pushPart_45 : decode qm_pushPart_c 45 = .ok (.aload_n 0, 1) := by decide +kernel
theorem d_qm_pushPart_46 : decode qm_pushPart_c 46 = .ok (.iload_n 2, 1) := by decide +kernel
theorem d_qm_pushPart_47 : decode qm_pushPart_c 47 = .ok (.ifCond .ne 11, 3) := by decide +kernel
theorem d_qm_pushPart_50 : decode qm_pushPart_c 50 = .ok (.aload_n 0, 1) := by decide +kernel
theorem d_qm_pushPart_51 : decode qm_pushPart_c 51 = .ok (.lload_n 3, 1) := by decide +kernel
theorem d_qm_pushPart_52 : decode qm_pushPart_c 52 = .ok (.invokevirtual 157, 3) := by decide +kernel
theorem d_qm_pushPart_55 : decode qm_pushPart_c 55 = .ok (.goto 8, 3) := by decide +kernel
theorem d_qm_pushPart_58 : decode qm_pushPart_c 58 = .ok (.aload_n 0, 1) := by decide +kernel
theorem d_qm_pushPart_59 : decode qm_pushPart_c 59 = .ok (.lload_n 3, 1) := by decide +kernel
theorem d_qm_pushPart_60 : decode qm_pushPart_c 60 = .ok (.invokevirtual 154, 3) := by decide +kernel
theorem d_qm_pushPart_63 : decode qm_pushPart_c 63 = .ok (.invokevirtual 164, 3) := by decide +kernel
theorem d_qm_pushPart_66 : decode qm_pushPart_c 66 = .ok (.ireturn, 1) := by decide +kernel
theorem d_qm_pushPart_67 : decode qm_pushPart_c 67 = .ok (.iload_n 2, 1) := by decide +kernel
theorem d_qm_pushPart_68 : decode qm_pushPart_c 68 = .ok (.iconst 1, 1) := by decide +kernel
theorem d_qm_pushPart_69 : decode qm_pushPart_c 69 = .ok (.if_icmp .eq 17, 3) := by decide +kernel
theorem d_qm_pushPart_72 : decode qm_pushPart_c 72 = .ok (.iload 5, 2) := by decide +kernel
theorem d_qm_pushPart_74 : decode qm_pushPart_c 74 = .ok (.bipush 6, 2) := by decide +kernel
theorem d_qm_pushPart_76 : decode qm_pushPart_c 76 = .ok (.if_icmp .eq 13, 3) := by decide +kernel
theorem d_qm_pushPart_79 : decode qm_pushPart_c 79 = .ok (.iload 5, 2) := by decide +kernel
theorem d_qm_pushPart_81 : decode qm_pushPart_c 81 = .ok (.bipush 7, 2) := by decide +kernel
theorem d_qm_pushPart_83 : decode qm_pushPart_c 83 = .ok (.if_icmp .eq 6, 3) := by decide +kernel
theorem d_qm_pushPart_86 : decode qm_pushPart_c 86 = .ok (.bipush (-4), 2) := by decide +kernel
theorem d_qm_pushPart_88 : decode qm_pushPart_c 88 = .ok (.ireturn, 1) := by decide +kernel
theorem d_qm_pushPart_89 : decode qm_pushPart_c 89 = .ok (.aload_n 0, 1) := by decide +kernel
theorem d_qm_pushPart_90 : decode qm_pushPart_c 90 = .ok (.getfield 92, 3) := by decide +kernel
theorem d_qm_pushPart_93 : decode qm_pushPart_c 93 = .ok (.bipush 40, 2) := by decide +kernel
theorem d_qm_pushPart_95 : decode qm_pushPart_c 95 = .ok (.if_icmp .ne 6, 3) := by decide +kernel
theorem d_qm_pushPart_98 : decode qm_pushPart_c 98 = .ok (.bipush (-3), 2) := by decide +kernel
theorem d_qm_pushPart_100 : decode qm_pushPart_c 100 = .ok (.ireturn, 1) := by decide +kernel
theorem d_qm_pushPart_101 : decode qm_pushPart_c 101 = .ok (.iload 5, 2) := by decide +kernel
theorem d_qm_pushPart_103 : decode qm_pushPart_c 103 = .ok (.bipush 6, 2) := by decide +kernel
theorem d_qm_pushPart_105 : decode qm_pushPart_c 105 = .ok (.if_icmp .ne 11, 3) := by decide +kernel
theorem d_qm_pushPart_108 : decode qm_pushPart_c 108 = .ok (.aload_n 0, 1) := by decide +kernel
theorem d_qm_pushPart_109 : decode qm_pushPart_c 109 = .ok (.lload_n 3, 1) := by decide +kernel
theorem d_qm_pushPart_110 : decode qm_pushPart_c 110 = .ok (.invokevirtual 185, 3) := by decide +kernel
theorem d_qm_pushPart_113 : decode qm_pushPart_c 113 = .ok (.goto 8, 3) := by decide +kernel
theorem d_qm_pushPart_116 : decode qm_pushPart_c 116 = .ok (.aload_n 0, 1) := by decide +kernel
theorem d_qm_pushPart_117 : decode qm_pushPart_c 117 = .ok (.lload_n 3, 1) := by decide +kernel
theorem d_qm_pushPart_118 : decode qm_pushPart_c 118 = .ok (.invokevirtual 144, 3) := by decide +kernel
theorem d_qm_pushPart_121 : decode qm_pushPart_c 121 = .ok (.lstore 6, 2) := by decide +kernel
theorem d_qm_pushPart_123 : decode qm_pushPart_c 123 = .ok (.lload 6, 2) := by decide +kernel
theorem d_qm_pushPart_125 : decode qm_pushPart_c 125 = .ok (.ldc2_w 118, 3) := by decide +kernel
theorem d_qm_pushPart_128 : decode qm_pushPart_c 128 = .ok (.lcmp, 1) := by decide +kernel
theorem d_qm_pushPart_129 : decode qm_pushPart_c 129 = .ok (.ifCond .ne 8, 3) := by decide +kernel
theorem d_qm_pushPart_132 : decode qm_pushPart_c 132 = .ok (.bipush (-12), 2) := by decide +kernel
theorem d_qm_pushPart_134 : decode qm_pushPart_c 134 = .ok (.goto 9, 3) := by decide +kernel
theorem d_qm_pushPart_137 : decode qm_pushPart_c 137 = .ok (.aload_n 0, 1) := by decide +kernel
theorem d_qm_pushPart_138 : decode qm_pushPart_c 138 = .ok (.lload 6, 2) := by decide +kernel
theorem d_qm_pushPart_140 : decode qm_pushPart_c 140 = .ok (.invokevirtual 164, 3) := by decide +kernel
theorem d_qm_pushPart_143 : decode qm_pushPart_c 143 = .ok (.ireturn, 1) := by decide +kernel
theorem d_qm_pushBinding_0 : decode qm_pushBinding_c 0 = .ok (.iload_n 1, 1) := by decide +kernel
theorem d_qm_pushBinding_1 : decode qm_pushBinding_c 1 = .ok (.ifCond .lt 15, 3) := by decide +kernel
theorem d_qm_pushBinding_4 : decode qm_pushBinding_c 4 = .ok (.iload_n 2, 1) := by decide +kernel
theorem d_qm_pushBinding_5 : decode qm_pushBinding_c 5 = .ok (.i2l, 1) := by decide +kernel
theorem d_qm_pushBinding_6 : decode qm_pushBinding_c 6 = .ok (.lconst 0, 1) := by decide +kernel
theorem d_qm_pushBinding_7 : decode qm_pushBinding_c 7 = .ok (.ldc2_w 171, 3) := by decide +kernel
theorem d_qm_pushBinding_10 : decode qm_pushBinding_c 10 = .ok (.invokestatic 114, 3) := by decide +kernel
theorem d_qm_pushBinding_13 : decode qm_pushBinding_c 13 = .ok (.ifCond .ne 5, 3) := by decide +kernel
theorem d_qm_pushBinding_16 : decode qm_pushBinding_c 16 = .ok (.iconst (-1), 1) := by decide +kernel
theorem d_qm_pushBinding_17 : decode qm_pushBinding_c 17 = .ok (.ireturn, 1) := by decide +kernel
theorem d_qm_pushBinding_18 : decode qm_pushBinding_c 18 = .ok (.iload_n 1, 1) := by decide +kernel
theorem d_qm_pushBinding_19 : decode qm_pushBinding_c 19 = .ok (.aload_n 0, 1) := by decide +kernel
theorem d_qm_pushBinding_20 : decode qm_pushBinding_c 20 = .ok (.getfield 92, 3) := by decide +kernel
theorem d_qm_pushBinding_23 : decode qm_pushBinding_c 23 = .ok (.if_icmp .lt 6, 3) := by decide +kernel
theorem d_qm_pushBinding_26 : decode qm_pushBinding_c 26 = .ok (.bipush (-2), 2) := by decide +kernel
theorem d_qm_pushBinding_28 : decode qm_pushBinding_c 28 = .ok (.ireturn, 1) := by decide +kernel
theorem d_qm_pushBinding_29 : decode qm_pushBinding_c 29 = .ok (.aload_n 0, 1) := by decide +kernel
theorem d_qm_pushBinding_30 : decode qm_pushBinding_c 30 = .ok (.iload_n 1, 1) := by decide +kernel
theorem d_qm_pushBinding_31 : decode qm_pushBinding_c 31 = .ok (.invokevirtual 181, 3) := by decide +kernel
theorem d_qm_pushBinding_34 : decode qm_pushBinding_c 34 = .ok (.invokestatic 151, 3) := by decide +kernel
theorem d_qm_pushBinding_37 : decode qm_pushBinding_c 37 = .ok (.bipush 7, 2) := by decide +kernel
theorem d_qm_pushBinding_39 : decode qm_pushBinding_c 39 = .ok (.if_icmp .eq 6, 3) := by decide +kernel
theorem d_qm_pushBinding_42 : decode qm_pushBinding_c 42 = .ok (.bipush (-4), 2) := by decide +kernel
theorem d_qm_pushBinding_44 : decode qm_pushBinding_c 44 = .ok (.ireturn, 1) := by decide +kernel
theorem d_qm_pushBinding_45 : decode qm_pushBinding_c 45 = .ok (.aload_n 0, 1) := by decide +kernel
theorem d_qm_pushBinding_46 : decode qm_pushBinding_c 46 = .ok (.aload_n 0, 1) := by decide +kernel
theorem d_qm_pushBinding_47 : decode qm_pushBinding_c 47 = .ok (.iload_n 1, 1) := by decide +kernel
theorem d_qm_pushBinding_48 : decode qm_pushBinding_c 48 = .ok (.invokevirtual 181, 3) := by decide +kernel
theorem d_qm_pushBinding_51 : decode qm_pushBinding_c 51 = .ok (.iload_n 2, 1) := by decide +kernel
theorem d_qm_pushBinding_52 : decode qm_pushBinding_c 52 = .ok (.invokevirtual 188, 3) := by decide +kernel
theorem d_qm_pushBinding_55 : decode qm_pushBinding_c 55 = .ok (.ifCond .eq 14, 3) := by decide +kernel
theorem d_qm_pushBinding_58 : decode qm_pushBinding_c 58 = .ok (.aload_n 0, 1) := by decide +kernel
theorem d_qm_pushBinding_59 : decode qm_pushBinding_c 59 = .ok (.aload_n 0, 1) := by decide +kernel
theorem d_qm_pushBinding_60 : decode qm_pushBinding_c 60 = .ok (.getfield 134, 3) := by decide +kernel
theorem d_qm_pushBinding_63 : decode qm_pushBinding_c 63 = .ok (.invokevirtual 164, 3) := by decide +kernel
theorem d_qm_pushBinding_66 : decode qm_pushBinding_c 66 = .ok (.goto 5, 3) := by decide +kernel
theorem d_qm_pushBinding_69 : decode qm_pushBinding_c 69 = .ok (.bipush (-6), 2) := by decide +kernel
theorem d_qm_pushBinding_71 : decode qm_pushBinding_c 71 = .ok (.ireturn, 1) := by decide +kernel
theorem d_qm_makePair_0 : decode qm_makePair_c 0 = .ok (.aload_n 0, 1) := by decide +kernel
theorem d_qm_makePair_1 : decode qm_makePair_c 1 = .ok (.getfield 92, 3) := by decide +kernel
theorem d_qm_makePair_4 : decode qm_makePair_c 4 = .ok (.iconst 2, 1) := by decide +kernel
theorem d_qm_makePair_5 : decode qm_makePair_c 5 = .ok (.if_icmp .ge 6, 3) := by decide +kernel
theorem d_qm_makePair_8 : decode qm_makePair_c 8 = .ok (.bipush (-2), 2) := by decide +kernel
theorem d_qm_makePair_10 : decode qm_makePair_c 10 = .ok (.ireturn, 1) := by decide +kernel
theorem d_qm_makePair_11 : decode qm_makePair_c 11 = .ok (.aload_n 0, 1) := by decide +kernel
theorem d_qm_makePair_12 : decode qm_makePair_c 12 = .ok (.invokevirtual 147, 3) := by decide +kernel
theorem d_qm_makePair_15 : decode qm_makePair_c 15 = .ok (.ifCond .eq 6, 3) := by decide +kernel
theorem d_qm_makePair_18 : decode qm_makePair_c 18 = .ok (.bipush (-5), 2) := by decide +kernel
theorem d_qm_makePair_20 : decode qm_makePair_c 20 = .ok (.ireturn, 1) := by decide +kernel
theorem d_qm_makePair_21 : decode qm_makePair_c 21 = .ok (.aload_n 0, 1) := by decide +kernel
theorem d_qm_makePair_22 : decode qm_makePair_c 22 = .ok (.iconst 4, 1) := by decide +kernel
theorem d_qm_makePair_23 : decode qm_makePair_c 23 = .ok (.aload_n 0, 1) := by decide +kernel
theorem d_qm_makePair_24 : decode qm_makePair_c 24 = .ok (.iconst 1, 1) := by decide +kernel
theorem d_qm_makePair_25 : decode qm_makePair_c 25 = .ok (.invokevirtual 181, 3) := by decide +kernel
theorem d_qm_makePair_28 : decode qm_makePair_c 28 = .ok (.aload_n 0, 1) := by decide +kernel
theorem d_qm_makePair_29 : decode qm_makePair_c 29 = .ok (.iconst 0, 1) := by decide +kernel
theorem d_qm_makePair_30 : decode qm_makePair_c 30 = .ok (.invokevirtual 181, 3) := by decide +kernel
theorem d_qm_makePair_33 : decode qm_makePair_c 33 = .ok (.invokevirtual 130, 3) := by decide +kernel
theorem d_qm_makePair_36 : decode qm_makePair_c 36 = .ok (.lstore_n 1, 1) := by decide +kernel
theorem d_qm_makePair_37 : decode qm_makePair_c 37 = .ok (.aload_n 0, 1) := by decide +kernel
theorem d_qm_makePair_38 : decode qm_makePair_c 38 = .ok (.dup, 1) := by decide +kernel
theorem d_qm_makePair_39 : decode qm_makePair_c 39 = .ok (.getfield 92, 3) := by decide +kernel
theorem d_qm_makePair_42 : decode qm_makePair_c 42 = .ok (.iconst 2, 1) := by decide +kernel
theorem d_qm_makePair_43 : decode qm_makePair_c 43 = .ok (.isub, 1) := by decide +kernel
theorem d_qm_makePair_44 : decode qm_makePair_c 44 = .ok (.putfield 92, 3) := by decide +kernel
theorem d_qm_makePair_47 : decode qm_makePair_c 47 = .ok (.aload_n 0, 1) := by decide +kernel
theorem d_qm_makePair_48 : decode qm_makePair_c 48 = .ok (.lload_n 1, 1) := by decide +kernel
theorem d_qm_makePair_49 : decode qm_makePair_c 49 = .ok (.invokevirtual 164, 3) := by decide +kernel
theorem d_qm_makePair_52 : decode qm_makePair_c 52 = .ok (.ireturn, 1) := by decide +kernel
theorem d_qm_makeList_0 : decode qm_makeList_c 0 = .ok (.iload_n 1, 1) := by decide +kernel
theorem d_qm_makeList_1 : decode qm_makeList_c 1 = .ok (.i2l, 1) := by decide +kernel
theorem d_qm_makeList_2 : decode qm_makeList_c 2 = .ok (.lconst 0, 1) := by decide +kernel
theorem d_qm_makeList_3 : decode qm_makeList_c 3 = .ok (.ldc2_w 191, 3) := by decide +kernel
theorem d_qm_makeList_6 : decode qm_makeList_c 6 = .ok (.invokestatic 114, 3) := by decide +kernel
theorem d_qm_makeList_9 : decode qm_makeList_c 9 = .ok (.ifCond .ne 5, 3) := by decide +kernel
theorem d_qm_makeList_12 : decode qm_makeList_c 12 = .ok (.iconst (-1), 1) := by decide +kernel
theorem d_qm_makeList_13 : decode qm_makeList_c 13 = .ok (.ireturn, 1) := by decide +kernel
theorem d_qm_makeList_14 : decode qm_makeList_c 14 = .ok (.iload_n 1, 1) := by decide +kernel
theorem d_qm_makeList_15 : decode qm_makeList_c 15 = .ok (.aload_n 0, 1) := by decide +kernel
theorem d_qm_makeList_16 : decode qm_makeList_c 16 = .ok (.getfield 92, 3) := by decide +kernel
theorem d_qm_makeList_19 : decode qm_makeList_c 19 = .ok (.if_icmp .le 6, 3) := by decide +kernel
theorem d_qm_makeList_22 : decode qm_makeList_c 22 = .ok (.bipush (-2), 2) := by decide +kernel
theorem d_qm_makeList_24 : decode qm_makeList_c 24 = .ok (.ireturn, 1) := by decide +kernel
theorem d_qm_makeList_25 : decode qm_makeList_c 25 = .ok (.aload_n 0, 1) := by decide +kernel
theorem d_qm_makeList_26 : decode qm_makeList_c 26 = .ok (.getfield 88, 3) := by decide +kernel
theorem d_qm_makeList_29 : decode qm_makeList_c 29 = .ok (.iload_n 1, 1) := by decide +kernel
theorem d_qm_makeList_30 : decode qm_makeList_c 30 = .ok (.iadd, 1) := by decide +kernel
theorem d_qm_makeList_31 : decode qm_makeList_c 31 = .ok (.sipush 4000, 3) := by decide +kernel
theorem d_qm_makeList_34 : decode qm_makeList_c 34 = .ok (.if_icmp .le 6, 3) := by decide +kernel
theorem d_qm_makeList_37 : decode qm_makeList_c 37 = .ok (.bipush (-5), 2) := by decide +kernel
theorem d_qm_makeList_39 : decode qm_makeList_c 39 = .ok (.ireturn, 1) := by decide +kernel
theorem d_qm_makeList_40 : decode qm_makeList_c 40 = .ok (.ldc2_w 175, 3) := by decide +kernel
theorem d_qm_makeList_43 : decode qm_makeList_c 43 = .ok (.lstore_n 2, 1) := by decide +kernel
theorem d_qm_makeList_44 : decode qm_makeList_c 44 = .ok (.iload_n 1, 1) := by decide +kernel
theorem d_qm_makeList_45 : decode qm_makeList_c 45 = .ok (.ifCond .ne 9, 3) := by decide +kernel
theorem d_qm_makeList_48 : decode qm_makeList_c 48 = .ok (.aload_n 0, 1) := by decide +kernel
theorem d_qm_makeList_49 : decode qm_makeList_c 49 = .ok (.lload_n 2, 1) := by decide +kernel
theorem d_qm_makeList_50 : decode qm_makeList_c 50 = .ok (.invokevirtual 164, 3) := by decide +kernel
theorem d_qm_makeList_53 : decode qm_makeList_c 53 = .ok (.ireturn, 1) := by decide +kernel
theorem d_qm_makeList_54 : decode qm_makeList_c 54 = .ok (.iconst 0, 1) := by decide +kernel
theorem d_qm_makeList_55 : decode qm_makeList_c 55 = .ok (.istore 4, 2) := by decide +kernel
theorem d_qm_makeList_57 : decode qm_makeList_c 57 = .ok (.iload 4, 2) := by decide +kernel
theorem d_qm_makeList_59 : decode qm_makeList_c 59 = .ok (.iload_n 1, 1) := by decide +kernel
theorem d_qm_makeList_60 : decode qm_makeList_c 60 = .ok (.if_icmp .ge 22, 3) := by decide +kernel
theorem d_qm_makeList_63 : decode qm_makeList_c 63 = .ok (.aload_n 0, 1) := by decide +kernel
theorem d_qm_makeList_64 : decode qm_makeList_c 64 = .ok (.iconst 4, 1) := by decide +kernel
theorem d_qm_makeList_65 : decode qm_makeList_c 65 = .ok (.aload_n 0, 1) := by decide +kernel
theorem d_qm_makeList_66 : decode qm_makeList_c 66 = .ok (.iload 4, 2) := by decide +kernel
theorem d_qm_makeList_68 : decode qm_makeList_c 68 = .ok (.invokevirtual 181, 3) := by decide +kernel
theorem d_qm_makeList_71 : decode qm_makeList_c 71 = .ok (.lload_n 2, 1) := by decide +kernel
theorem d_qm_makeList_72 : decode qm_makeList_c 72 = .ok (.invokevirtual 130, 3) := by decide +kernel
theorem d_qm_makeList_75 : decode qm_makeList_c 75 = .ok (.lstore_n 2, 1) := by decide +kernel
theorem d_qm_makeList_76 : decode qm_makeList_c 76 = .ok (.iinc 4 1, 3) := by decide +kernel
theorem d_qm_makeList_79 : decode qm_makeList_c 79 = .ok (.goto (-22), 3) := by decide +kernel
theorem d_qm_makeList_82 : decode qm_makeList_c 82 = .ok (.aload_n 0, 1) := by decide +kernel
theorem d_qm_makeList_83 : decode qm_makeList_c 83 = .ok (.dup, 1) := by decide +kernel
theorem d_qm_makeList_84 : decode qm_makeList_c 84 = .ok (.getfield 92, 3) := by decide +kernel
theorem d_qm_makeList_87 : decode qm_makeList_c 87 = .ok (.iload_n 1, 1) := by decide +kernel
theorem d_qm_makeList_88 : decode qm_makeList_c 88 = .ok (.isub, 1) := by decide +kernel
theorem d_qm_makeList_89 : decode qm_makeList_c 89 = .ok (.putfield 92, 3) := by decide +kernel
theorem d_qm_makeList_92 : decode qm_makeList_c 92 = .ok (.aload_n 0, 1) := by decide +kernel
theorem d_qm_makeList_93 : decode qm_makeList_c 93 = .ok (.lload_n 2, 1) := by decide +kernel
theorem d_qm_makeList_94 : decode qm_makeList_c 94 = .ok (.invokevirtual 164, 3) := by decide +kernel
theorem d_qm_makeList_97 : decode qm_makeList_c 97 = .ok (.ireturn, 1) := by decide +kernel
theorem d_qm_drop_0 : decode qm_drop_c 0 = .ok (.iload_n 1, 1) := by decide +kernel
theorem d_qm_drop_1 : decode qm_drop_c 1 = .ok (.i2l, 1) := by decide +kernel
theorem d_qm_drop_2 : decode qm_drop_c 2 = .ok (.lconst 0, 1) := by decide +kernel
theorem d_qm_drop_3 : decode qm_drop_c 3 = .ok (.ldc2_w 191, 3) := by decide +kernel
theorem d_qm_drop_6 : decode qm_drop_c 6 = .ok (.invokestatic 114, 3) := by decide +kernel
theorem d_qm_drop_9 : decode qm_drop_c 9 = .ok (.ifCond .ne 5, 3) := by decide +kernel
theorem d_qm_drop_12 : decode qm_drop_c 12 = .ok (.iconst (-1), 1) := by decide +kernel
theorem d_qm_drop_13 : decode qm_drop_c 13 = .ok (.ireturn, 1) := by decide +kernel
theorem d_qm_drop_14 : decode qm_drop_c 14 = .ok (.iload_n 1, 1) := by decide +kernel
theorem d_qm_drop_15 : decode qm_drop_c 15 = .ok (.aload_n 0, 1) := by decide +kernel
theorem d_qm_drop_16 : decode qm_drop_c 16 = .ok (.getfield 92, 3) := by decide +kernel
theorem d_qm_drop_19 : decode qm_drop_c 19 = .ok (.if_icmp .le 6, 3) := by decide +kernel
theorem d_qm_drop_22 : decode qm_drop_c 22 = .ok (.bipush (-2), 2) := by decide +kernel
theorem d_qm_drop_24 : decode qm_drop_c 24 = .ok (.ireturn, 1) := by decide +kernel
theorem d_qm_drop_25 : decode qm_drop_c 25 = .ok (.aload_n 0, 1) := by decide +kernel
theorem d_qm_drop_26 : decode qm_drop_c 26 = .ok (.dup, 1) := by decide +kernel
theorem d_qm_drop_27 : decode qm_drop_c 27 = .ok (.getfield 92, 3) := by decide +kernel
theorem d_qm_drop_30 : decode qm_drop_c 30 = .ok (.iload_n 1, 1) := by decide +kernel
theorem d_qm_drop_31 : decode qm_drop_c 31 = .ok (.isub, 1) := by decide +kernel
theorem d_qm_drop_32 : decode qm_drop_c 32 = .ok (.putfield 92, 3) := by decide +kernel
theorem d_qm_drop_35 : decode qm_drop_c 35 = .ok (.aload_n 0, 1) := by decide +kernel
theorem d_qm_drop_36 : decode qm_drop_c 36 = .ok (.getfield 92, 3) := by decide +kernel
theorem d_qm_drop_39 : decode qm_drop_c 39 = .ok (.ireturn, 1) := by decide +kernel
theorem d_qm_reset_0 : decode qm_reset_c 0 = .ok (.aload_n 0, 1) := by decide +kernel
theorem d_qm_reset_1 : decode qm_reset_c 1 = .ok (.getfield 88, 3) := by decide +kernel
theorem d_qm_reset_4 : decode qm_reset_c 4 = .ok (.istore_n 1, 1) := by decide +kernel
theorem d_qm_reset_5 : decode qm_reset_c 5 = .ok (.aload_n 0, 1) := by decide +kernel
theorem d_qm_reset_6 : decode qm_reset_c 6 = .ok (.invokevirtual 75, 3) := by decide +kernel
theorem d_qm_reset_9 : decode qm_reset_c 9 = .ok (.iload_n 1, 1) := by decide +kernel
theorem d_qm_reset_10 : decode qm_reset_c 10 = .ok (.ireturn, 1) := by decide +kernel
theorem d_qm_size_0 : decode qm_size_c 0 = .ok (.aload_n 0, 1) := by decide +kernel
theorem d_qm_size_1 : decode qm_size_c 1 = .ok (.getfield 92, 3) := by decide +kernel
theorem d_qm_size_4 : decode qm_size_c 4 = .ok (.ireturn, 1) := by decide +kernel
theorem d_qm_kind_0 : decode qm_kind_c 0 = .ok (.aload_n 0, 1) := by decide +kernel
theorem d_qm_kind_1 : decode qm_kind_c 1 = .ok (.iload_n 1, 1) := by decide +kernel
theorem d_qm_kind_2 : decode qm_kind_c 2 = .ok (.invokevirtual 177, 3) := by decide +kernel
theorem d_qm_kind_5 : decode qm_kind_c 5 = .ok (.istore_n 2, 1) := by decide +kernel
theorem d_qm_kind_6 : decode qm_kind_c 6 = .ok (.iload_n 2, 1) := by decide +kernel
theorem d_qm_kind_7 : decode qm_kind_c 7 = .ok (.ifCond .ge 7, 3) := by decide +kernel
theorem d_qm_kind_10 : decode qm_kind_c 10 = .ok (.iload_n 2, 1) := by decide +kernel
theorem d_qm_kind_11 : decode qm_kind_c 11 = .ok (.goto 11, 3) := by decide +kernel
theorem d_qm_kind_14 : decode qm_kind_c 14 = .ok (.aload_n 0, 1) := by decide +kernel
theorem d_qm_kind_15 : decode qm_kind_c 15 = .ok (.iload_n 1, 1) := by decide +kernel
theorem d_qm_kind_16 : decode qm_kind_c 16 = .ok (.invokevirtual 181, 3) := by decide +kernel
theorem d_qm_kind_19 : decode qm_kind_c 19 = .ok (.invokestatic 151, 3) := by decide +kernel
theorem d_qm_kind_22 : decode qm_kind_c 22 = .ok (.ireturn, 1) := by decide +kernel
theorem d_qm_value_0 : decode qm_value_c 0 = .ok (.aload_n 0, 1) := by decide +kernel
theorem d_qm_value_1 : decode qm_value_c 1 = .ok (.iload_n 1, 1) := by decide +kernel
theorem d_qm_value_2 : decode qm_value_c 2 = .ok (.invokevirtual 177, 3) := by decide +kernel
theorem d_qm_value_5 : decode qm_value_c 5 = .ok (.ifCond .lt 15, 3) := by decide +kernel
theorem d_qm_value_8 : decode qm_value_c 8 = .ok (.aload_n 0, 1) := by decide +kernel
theorem d_qm_value_9 : decode qm_value_c 9 = .ok (.iload_n 1, 1) := by decide +kernel
theorem d_qm_value_10 : decode qm_value_c 10 = .ok (.invokevirtual 181, 3) := by decide +kernel
theorem d_qm_value_13 : decode qm_value_c 13 = .ok (.invokestatic 151, 3) := by decide +kernel
theorem d_qm_value_16 : decode qm_value_c 16 = .ok (.iconst 2, 1) := by decide +kernel
theorem d_qm_value_17 : decode qm_value_c 17 = .ok (.if_icmp .le 7, 3) := by decide +kernel
theorem d_qm_value_20 : decode qm_value_c 20 = .ok (.invokestatic 193, 3) := by decide +kernel
theorem d_qm_value_23 : decode qm_value_c 23 = .ok (.lreturn, 1) := by decide +kernel
theorem d_qm_value_24 : decode qm_value_c 24 = .ok (.aload_n 0, 1) := by decide +kernel
theorem d_qm_value_25 : decode qm_value_c 25 = .ok (.iload_n 1, 1) := by decide +kernel
theorem d_qm_value_26 : decode qm_value_c 26 = .ok (.invokevirtual 181, 3) := by decide +kernel
theorem d_qm_value_29 : decode qm_value_c 29 = .ok (.invokestatic 120, 3) := by decide +kernel
theorem d_qm_value_32 : decode qm_value_c 32 = .ok (.lreturn, 1) := by decide +kernel
theorem d_qm_areSame_0 : decode qm_areSame_c 0 = .ok (.iload_n 1, 1) := by decide +kernel
theorem d_qm_areSame_1 : decode qm_areSame_c 1 = .ok (.ifCond .lt 7, 3) := by decide +kernel
theorem d_qm_areSame_4 : decode qm_areSame_c 4 = .ok (.iload_n 2, 1) := by decide +kernel
theorem d_qm_areSame_5 : decode qm_areSame_c 5 = .ok (.ifCond .ge 5, 3) := by decide +kernel
theorem d_qm_areSame_8 : decode qm_areSame_c 8 = .ok (.iconst (-1), 1) := by decide +kernel
theorem d_qm_areSame_9 : decode qm_areSame_c 9 = .ok (.ireturn, 1) := by decide +kernel
theorem d_qm_areSame_10 : decode qm_areSame_c 10 = .ok (.iload_n 1, 1) := by decide +kernel
theorem d_qm_areSame_11 : decode qm_areSame_c 11 = .ok (.aload_n 0, 1) := by decide +kernel
theorem d_qm_areSame_12 : decode qm_areSame_c 12 = .ok (.getfield 92, 3) := by decide +kernel
theorem d_qm_areSame_15 : decode qm_areSame_c 15 = .ok (.if_icmp .ge 11, 3) := by decide +kernel
theorem d_qm_areSame_18 : decode qm_areSame_c 18 = .ok (.iload_n 2, 1) := by decide +kernel
theorem d_qm_areSame_19 : decode qm_areSame_c 19 = .ok (.aload_n 0, 1) := by decide +kernel
theorem d_qm_areSame_20 : decode qm_areSame_c 20 = .ok (.getfield 92, 3) := by decide +kernel
theorem d_qm_areSame_23 : decode qm_areSame_c 23 = .ok (.if_icmp .lt 6, 3) := by decide +kernel
theorem d_qm_areSame_26 : decode qm_areSame_c 26 = .ok (.bipush (-2), 2) := by decide +kernel
theorem d_qm_areSame_28 : decode qm_areSame_c 28 = .ok (.ireturn, 1) := by decide +kernel
theorem d_qm_areSame_29 : decode qm_areSame_c 29 = .ok (.aload_n 0, 1) := by decide +kernel
theorem d_qm_areSame_30 : decode qm_areSame_c 30 = .ok (.iload_n 1, 1) := by decide +kernel
theorem d_qm_areSame_31 : decode qm_areSame_c 31 = .ok (.invokevirtual 181, 3) := by decide +kernel
theorem d_qm_areSame_34 : decode qm_areSame_c 34 = .ok (.aload_n 0, 1) := by decide +kernel
theorem d_qm_areSame_35 : decode qm_areSame_c 35 = .ok (.iload_n 2, 1) := by decide +kernel
theorem d_qm_areSame_36 : decode qm_areSame_c 36 = .ok (.invokevirtual 181, 3) := by decide +kernel
theorem d_qm_areSame_39 : decode qm_areSame_c 39 = .ok (.lcmp, 1) := by decide +kernel
theorem d_qm_areSame_40 : decode qm_areSame_c 40 = .ok (.ifCond .ne 7, 3) := by decide +kernel
theorem d_qm_areSame_43 : decode qm_areSame_c 43 = .ok (.iconst 1, 1) := by decide +kernel
theorem d_qm_areSame_44 : decode qm_areSame_c 44 = .ok (.goto 4, 3) := by decide +kernel
theorem d_qm_areSame_47 : decode qm_areSame_c 47 = .ok (.iconst 0, 1) := by decide +kernel
theorem d_qm_areSame_48 : decode qm_areSame_c 48 = .ok (.ireturn, 1) := by decide +kernel
theorem d_qm_length_0 : decode qm_length_c 0 = .ok (.aload_n 0, 1) := by decide +kernel
theorem d_qm_length_1 : decode qm_length_c 1 = .ok (.iload_n 1, 1) := by decide +kernel
theorem d_qm_length_2 : decode qm_length_c 2 = .ok (.invokevirtual 177, 3) := by decide +kernel
theorem d_qm_length_5 : decode qm_length_c 5 = .ok (.istore_n 2, 1) := by decide +kernel
theorem d_qm_length_6 : decode qm_length_c 6 = .ok (.iload_n 2, 1) := by decide +kernel
theorem d_qm_length_7 : decode qm_length_c 7 = .ok (.ifCond .ge 5, 3) := by decide +kernel
theorem d_qm_length_10 : decode qm_length_c 10 = .ok (.iload_n 2, 1) := by decide +kernel
theorem d_qm_length_11 : decode qm_length_c 11 = .ok (.ireturn, 1) := by decide +kernel
theorem d_qm_length_12 : decode qm_length_c 12 = .ok (.aload_n 0, 1) := by decide +kernel
theorem d_qm_length_13 : decode qm_length_c 13 = .ok (.aload_n 0, 1) := by decide +kernel
theorem d_qm_length_14 : decode qm_length_c 14 = .ok (.iload_n 1, 1) := by decide +kernel
theorem d_qm_length_15 : decode qm_length_c 15 = .ok (.invokevirtual 181, 3) := by decide +kernel
theorem d_qm_length_18 : decode qm_length_c 18 = .ok (.invokevirtual 197, 3) := by decide +kernel
theorem d_qm_length_21 : decode qm_length_c 21 = .ok (.istore_n 3, 1) := by decide +kernel
theorem d_qm_length_22 : decode qm_length_c 22 = .ok (.iload_n 3, 1) := by decide +kernel
theorem d_qm_length_23 : decode qm_length_c 23 = .ok (.ifCond .ge 8, 3) := by decide +kernel
theorem d_qm_length_26 : decode qm_length_c 26 = .ok (.bipush (-4), 2) := by decide +kernel
theorem d_qm_length_28 : decode qm_length_c 28 = .ok (.goto 4, 3) := by decide +kernel
theorem d_qm_length_31 : decode qm_length_c 31 = .ok (.iload_n 3, 1) := by decide +kernel
theorem d_qm_length_32 : decode qm_length_c 32 = .ok (.ireturn, 1) := by decide +kernel
theorem d_qm_bindingCount_0 : decode qm_bindingCount_c 0 = .ok (.aload_n 0, 1) := by decide +kernel
theorem d_qm_bindingCount_1 : decode qm_bindingCount_c 1 = .ok (.iload_n 1, 1) := by decide +kernel
theorem d_qm_bindingCount_2 : decode qm_bindingCount_c 2 = .ok (.invokevirtual 177, 3) := by decide +kernel
theorem d_qm_bindingCount_5 : decode qm_bindingCount_c 5 = .ok (.istore_n 2, 1) := by decide +kernel
theorem d_qm_bindingCount_6 : decode qm_bindingCount_c 6 = .ok (.iload_n 2, 1) := by decide +kernel
theorem d_qm_bindingCount_7 : decode qm_bindingCount_c 7 = .ok (.ifCond .ge 5, 3) := by decide +kernel
theorem d_qm_bindingCount_10 : decode qm_bindingCount_c 10 = .ok (.iload_n 2, 1) := by decide +kernel
theorem d_qm_bindingCount_11 : decode qm_bindingCount_c 11 = .ok (.ireturn, 1) := by decide +kernel
theorem d_qm_bindingCount_12 : decode qm_bindingCount_c 12 = .ok (.aload_n 0, 1) := by decide +kernel
theorem d_qm_bindingCount_13 : decode qm_bindingCount_c 13 = .ok (.iload_n 1, 1) := by decide +kernel
theorem d_qm_bindingCount_14 : decode qm_bindingCount_c 14 = .ok (.invokevirtual 181, 3) := by decide +kernel
theorem d_qm_bindingCount_17 : decode qm_bindingCount_c 17 = .ok (.lstore_n 3, 1) := by decide +kernel
theorem d_qm_bindingCount_18 : decode qm_bindingCount_c 18 = .ok (.lload_n 3, 1) := by decide +kernel
theorem d_qm_bindingCount_19 : decode qm_bindingCount_c 19 = .ok (.invokestatic 151, 3) := by decide +kernel
theorem d_qm_bindingCount_22 : decode qm_bindingCount_c 22 = .ok (.bipush 7, 2) := by decide +kernel
theorem d_qm_bindingCount_24 : decode qm_bindingCount_c 24 = .ok (.if_icmp .eq 6, 3) := by decide +kernel
theorem d_qm_bindingCount_27 : decode qm_bindingCount_c 27 = .ok (.bipush (-4), 2) := by decide +kernel
theorem d_qm_bindingCount_29 : decode qm_bindingCount_c 29 = .ok (.ireturn, 1) := by decide +kernel
theorem d_qm_bindingCount_30 : decode qm_bindingCount_c 30 = .ok (.iconst 0, 1) := by decide +kernel
theorem d_qm_bindingCount_31 : decode qm_bindingCount_c 31 = .ok (.istore 5, 2) := by decide +kernel
theorem d_qm_bindingCount_33 : decode qm_bindingCount_c 33 = .ok (.iconst 0, 1) := by decide +kernel
theorem d_qm_bindingCount_34 : decode qm_bindingCount_c 34 = .ok (.istore 6, 2) := by decide +kernel
theorem d_qm_bindingCount_36 : decode qm_bindingCount_c 36 = .ok (.iload 6, 2) := by decide +kernel
theorem d_qm_bindingCount_38 : decode qm_bindingCount_c 38 = .ok (.bipush 100, 2) := by decide +kernel
theorem d_qm_bindingCount_40 : decode qm_bindingCount_c 40 = .ok (.if_icmp .ge 29, 3) := by decide +kernel
theorem d_qm_bindingCount_43 : decode qm_bindingCount_c 43 = .ok (.iload 5, 2) := by decide +kernel
theorem d_qm_bindingCount_45 : decode qm_bindingCount_c 45 = .ok (.aload_n 0, 1) := by decide +kernel
theorem d_qm_bindingCount_46 : decode qm_bindingCount_c 46 = .ok (.lload_n 3, 1) := by decide +kernel
theorem d_qm_bindingCount_47 : decode qm_bindingCount_c 47 = .ok (.iload 6, 2) := by decide +kernel
theorem d_qm_bindingCount_49 : decode qm_bindingCount_c 49 = .ok (.invokevirtual 140, 3) := by decide +kernel
theorem d_qm_bindingCount_52 : decode qm_bindingCount_c 52 = .ok (.ifCond .eq 7, 3) := by decide +kernel
theorem d_qm_bindingCount_55 : decode qm_bindingCount_c 55 = .ok (.iconst 1, 1) := by decide +kernel
theorem d_qm_bindingCount_56 : decode qm_bindingCount_c 56 = .ok (.goto 4, 3) := by decide +kernel
theorem d_qm_bindingCount_59 : decode qm_bindingCount_c 59 = .ok (.iconst 0, 1) := by decide +kernel
theorem d_qm_bindingCount_60 : decode qm_bindingCount_c 60 = .ok (.iadd, 1) := by decide +kernel
theorem d_qm_bindingCount_61 : decode qm_bindingCount_c 61 = .ok (.istore 5, 2) := by decide +kernel
theorem d_qm_bindingCount_63 : decode qm_bindingCount_c 63 = .ok (.iinc 6 1, 3) := by decide +kernel
theorem d_qm_bindingCount_66 : decode qm_bindingCount_c 66 = .ok (.goto (-30), 3) := by decide +kernel
theorem d_qm_bindingCount_69 : decode qm_bindingCount_c 69 = .ok (.iload 5, 2) := by decide +kernel
theorem d_qm_bindingCount_71 : decode qm_bindingCount_c 71 = .ok (.ireturn, 1) := by decide +kernel
theorem d_qm_goesTo_0 : decode qm_goesTo_c 0 = .ok (.aload_n 0, 1) := by decide +kernel
theorem d_qm_goesTo_1 : decode qm_goesTo_c 1 = .ok (.iconst 0, 1) := by decide +kernel
theorem d_qm_goesTo_2 : decode qm_goesTo_c 2 = .ok (.putfield 200, 3) := by decide +kernel
theorem d_qm_goesTo_5 : decode qm_goesTo_c 5 = .ok (.aload_n 0, 1) := by decide +kernel
theorem d_qm_goesTo_6 : decode qm_goesTo_c 6 = .ok (.lload_n 1, 1) := by decide +kernel
theorem d_qm_goesTo_7 : decode qm_goesTo_c 7 = .ok (.putfield 203, 3) := by decide +kernel
theorem d_qm_goesTo_10 : decode qm_goesTo_c 10 = .ok (.aload_n 0, 1) := by decide +kernel
theorem d_qm_goesTo_11 : decode qm_goesTo_c 11 = .ok (.lload_n 3, 1) := by decide +kernel
theorem d_qm_goesTo_12 : decode qm_goesTo_c 12 = .ok (.putfield 206, 3) := by decide +kernel
theorem d_qm_goesTo_15 : decode qm_goesTo_c 15 = .ok (.iconst 0, 1) := by decide +kernel
theorem d_qm_goesTo_16 : decode qm_goesTo_c 16 = .ok (.ireturn, 1) := by decide +kernel
theorem d_qm_gives_0 : decode qm_gives_c 0 = .ok (.aload_n 0, 1) := by decide +kernel
theorem d_qm_gives_1 : decode qm_gives_c 1 = .ok (.iconst 2, 1) := by decide +kernel
theorem d_qm_gives_2 : decode qm_gives_c 2 = .ok (.putfield 200, 3) := by decide +kernel
theorem d_qm_gives_5 : decode qm_gives_c 5 = .ok (.aload_n 0, 1) := by decide +kernel
theorem d_qm_gives_6 : decode qm_gives_c 6 = .ok (.lload_n 1, 1) := by decide +kernel
theorem d_qm_gives_7 : decode qm_gives_c 7 = .ok (.putfield 203, 3) := by decide +kernel
theorem d_qm_gives_10 : decode qm_gives_c 10 = .ok (.iconst 0, 1) := by decide +kernel
theorem d_qm_gives_11 : decode qm_gives_c 11 = .ok (.ireturn, 1) := by decide +kernel
theorem d_qm_goesWith_0 : decode qm_goesWith_c 0 = .ok (.aload_n 0, 1) := by decide +kernel
theorem d_qm_goesWith_1 : decode qm_goesWith_c 1 = .ok (.getfield 209, 3) := by decide +kernel
theorem d_qm_goesWith_4 : decode qm_goesWith_c 4 = .ok (.sipush 300, 3) := by decide +kernel
theorem d_qm_goesWith_7 : decode qm_goesWith_c 7 = .ok (.if_icmp .ne 6, 3) := by decide +kernel
theorem d_qm_goesWith_10 : decode qm_goesWith_c 10 = .ok (.bipush (-11), 2) := by decide +kernel
theorem d_qm_goesWith_12 : decode qm_goesWith_c 12 = .ok (.ireturn, 1) := by decide +kernel
theorem d_qm_goesWith_13 : decode qm_goesWith_c 13 = .ok (.aload_n 0, 1) := by decide +kernel
theorem d_qm_goesWith_14 : decode qm_goesWith_c 14 = .ok (.getfield 42, 3) := by decide +kernel
theorem d_qm_goesWith_17 : decode qm_goesWith_c 17 = .ok (.aload_n 0, 1) := by decide +kernel
theorem d_qm_goesWith_18 : decode qm_goesWith_c 18 = .ok (.getfield 209, 3) := by decide +kernel
theorem d_qm_goesWith_21 : decode qm_goesWith_c 21 = .ok (.iload_n 1, 1) := by decide +kernel
theorem d_qm_goesWith_22 : decode qm_goesWith_c 22 = .ok (.iastore, 1) := by decide +kernel
theorem d_qm_goesWith_23 : decode qm_goesWith_c 23 = .ok (.aload_n 0, 1) := by decide +kernel
theorem d_qm_goesWith_24 : decode qm_goesWith_c 24 = .ok (.getfield 45, 3) := by decide +kernel
theorem d_qm_goesWith_27 : decode qm_goesWith_c 27 = .ok (.aload_n 0, 1) := by decide +kernel
theorem d_qm_goesWith_28 : decode qm_goesWith_c 28 = .ok (.getfield 209, 3) := by decide +kernel
theorem d_qm_goesWith_31 : decode qm_goesWith_c 31 = .ok (.lload_n 2, 1) := by decide +kernel
theorem d_qm_goesWith_32 : decode qm_goesWith_c 32 = .ok (.lastore, 1) := by decide +kernel
theorem d_qm_goesWith_33 : decode qm_goesWith_c 33 = .ok (.aload_n 0, 1) := by decide +kernel
theorem d_qm_goesWith_34 : decode qm_goesWith_c 34 = .ok (.getfield 48, 3) := by decide +kernel
theorem d_qm_goesWith_37 : decode qm_goesWith_c 37 = .ok (.aload_n 0, 1) := by decide +kernel
theorem d_qm_goesWith_38 : decode qm_goesWith_c 38 = .ok (.getfield 209, 3) := by decide +kernel
theorem d_qm_goesWith_41 : decode qm_goesWith_c 41 = .ok (.lload 4, 2) := by decide +kernel
theorem d_qm_goesWith_43 : decode qm_goesWith_c 43 = .ok (.lastore, 1) := by decide +kernel
theorem d_qm_goesWith_44 : decode qm_goesWith_c 44 = .ok (.aload_n 0, 1) := by decide +kernel
theorem d_qm_goesWith_45 : decode qm_goesWith_c 45 = .ok (.getfield 51, 3) := by decide +kernel
theorem d_qm_goesWith_48 : decode qm_goesWith_c 48 = .ok (.aload_n 0, 1) := by decide +kernel
theorem d_qm_goesWith_49 : decode qm_goesWith_c 49 = .ok (.getfield 209, 3) := by decide +kernel
theorem d_qm_goesWith_52 : decode qm_goesWith_c 52 = .ok (.lload 9, 2) := by decide +kernel
theorem d_qm_goesWith_54 : decode qm_goesWith_c 54 = .ok (.lastore, 1) := by decide +kernel
theorem d_qm_goesWith_55 : decode qm_goesWith_c 55 = .ok (.aload_n 0, 1) := by decide +kernel
theorem d_qm_goesWith_56 : decode qm_goesWith_c 56 = .ok (.getfield 54, 3) := by decide +kernel
theorem d_qm_goesWith_59 : decode qm_goesWith_c 59 = .ok (.aload_n 0, 1) := by decide +kernel
theorem d_qm_goesWith_60 : decode qm_goesWith_c 60 = .ok (.getfield 209, 3) := by decide +kernel
theorem d_qm_goesWith_63 : decode qm_goesWith_c 63 = .ok (.iload 6, 2) := by decide +kernel
theorem d_qm_goesWith_65 : decode qm_goesWith_c 65 = .ok (.iastore, 1) := by decide +kernel
theorem d_qm_goesWith_66 : decode qm_goesWith_c 66 = .ok (.aload_n 0, 1) := by decide +kernel
theorem d_qm_goesWith_67 : decode qm_goesWith_c 67 = .ok (.dup, 1) := by decide +kernel
theorem d_qm_goesWith_68 : decode qm_goesWith_c 68 = .ok (.getfield 209, 3) := by decide +kernel
theorem d_qm_goesWith_71 : decode qm_goesWith_c 71 = .ok (.iconst 1, 1) := by decide +kernel
theorem d_qm_goesWith_72 : decode qm_goesWith_c 72 = .ok (.iadd, 1) := by decide +kernel
theorem d_qm_goesWith_73 : decode qm_goesWith_c 73 = .ok (.putfield 209, 3) := by decide +kernel
theorem d_qm_goesWith_76 : decode qm_goesWith_c 76 = .ok (.aload_n 0, 1) := by decide +kernel
theorem d_qm_goesWith_77 : decode qm_goesWith_c 77 = .ok (.aload_n 0, 1) := by decide +kernel
theorem d_qm_goesWith_78 : decode qm_goesWith_c 78 = .ok (.getfield 209, 3) := by decide +kernel
theorem d_qm_goesWith_81 : decode qm_goesWith_c 81 = .ok (.aload_n 0, 1) := by decide +kernel
theorem d_qm_goesWith_82 : decode qm_goesWith_c 82 = .ok (.getfield 107, 3) := by decide +kernel
theorem d_qm_goesWith_85 : decode qm_goesWith_c 85 = .ok (.if_icmp .le 10, 3) := by decide +kernel
theorem d_qm_goesWith_88 : decode qm_goesWith_c 88 = .ok (.aload_n 0, 1) := by decide +kernel
theorem d_qm_goesWith_89 : decode qm_goesWith_c 89 = .ok (.getfield 209, 3) := by decide +kernel
theorem d_qm_goesWith_92 : decode qm_goesWith_c 92 = .ok (.goto 7, 3) := by decide +kernel
theorem d_qm_goesWith_95 : decode qm_goesWith_c 95 = .ok (.aload_n 0, 1) := by decide +kernel
theorem d_qm_goesWith_96 : decode qm_goesWith_c 96 = .ok (.getfield 107, 3) := by decide +kernel
theorem d_qm_goesWith_99 : decode qm_goesWith_c 99 = .ok (.putfield 107, 3) := by decide +kernel
theorem d_qm_goesWith_102 : decode qm_goesWith_c 102 = .ok (.aload_n 0, 1) := by decide +kernel
theorem d_qm_goesWith_103 : decode qm_goesWith_c 103 = .ok (.lload 7, 2) := by decide +kernel
theorem d_qm_goesWith_105 : decode qm_goesWith_c 105 = .ok (.lload 9, 2) := by decide +kernel
theorem d_qm_goesWith_107 : decode qm_goesWith_c 107 = .ok (.invokevirtual 212, 3) := by decide +kernel
theorem d_qm_goesWith_110 : decode qm_goesWith_c 110 = .ok (.ireturn, 1) := by decide +kernel
theorem d_qm_evaluatesOne_0 : decode qm_evaluatesOne_c 0 = .ok (.aload_n 0, 1) := by decide +kernel
theorem d_qm_evaluatesOne_1 : decode qm_evaluatesOne_c 1 = .ok (.getfield 104, 3) := by decide +kernel
theorem d_qm_evaluatesOne_4 : decode qm_evaluatesOne_c 4 = .ok (.aload_n 0, 1) := by decide +kernel
theorem d_qm_evaluatesOne_5 : decode qm_evaluatesOne_c 5 = .ok (.getfield 95, 3) := by decide +kernel
theorem d_qm_evaluatesOne_8 : decode qm_evaluatesOne_c 8 = .ok (.if_icmp .ne 6, 3) := by decide +kernel
theorem d_qm_evaluatesOne_11 : decode qm_evaluatesOne_c 11 = .ok (.bipush (-10), 2) := by decide +kernel
theorem d_qm_evaluatesOne_13 : decode qm_evaluatesOne_c 13 = .ok (.ireturn, 1) := by decide +kernel
theorem d_qm_evaluatesOne_14 : decode qm_evaluatesOne_c 14 = .ok (.aload_n 0, 1) := by decide +kernel
theorem d_qm_evaluatesOne_15 : decode qm_evaluatesOne_c 15 = .ok (.dup, 1) := by decide +kernel
theorem d_qm_evaluatesOne_16 : decode qm_evaluatesOne_c 16 = .ok (.getfield 104, 3) := by decide +kernel
theorem d_qm_evaluatesOne_19 : decode qm_evaluatesOne_c 19 = .ok (.iconst 1, 1) := by decide +kernel
theorem d_qm_evaluatesOne_20 : decode qm_evaluatesOne_c 20 = .ok (.iadd, 1) := by decide +kernel
theorem d_qm_evaluatesOne_21 : decode qm_evaluatesOne_c 21 = .ok (.putfield 104, 3) := by decide +kernel
theorem d_qm_evaluatesOne_24 : decode qm_evaluatesOne_c 24 = .ok (.aload_n 0, 1) := by decide +kernel
theorem d_qm_evaluatesOne_25 : decode qm_evaluatesOne_c 25 = .ok (.getfield 203, 3) := by decide +kernel
theorem d_qm_evaluatesOne_28 : decode qm_evaluatesOne_c 28 = .ok (.invokestatic 151, 3) := by decide +kernel
theorem d_qm_evaluatesOne_31 : decode qm_evaluatesOne_c 31 = .ok (.istore_n 1, 1) := by decide +kernel
theorem d_qm_evaluatesOne_32 : decode qm_evaluatesOne_c 32 = .ok (.iload_n 1, 1) := by decide +kernel
theorem d_qm_evaluatesOne_33 : decode qm_evaluatesOne_c 33 = .ok (.iconst 4, 1) := by decide +kernel
theorem d_qm_evaluatesOne_34 : decode qm_evaluatesOne_c 34 = .ok (.if_icmp .ne 31, 3) := by decide +kernel
theorem d_qm_evaluatesOne_37 : decode qm_evaluatesOne_c 37 = .ok (.aload_n 0, 1) := by decide +kernel
theorem d_qm_evaluatesOne_38 : decode qm_evaluatesOne_c 38 = .ok (.iconst 0, 1) := by decide +kernel
theorem d_qm_evaluatesOne_39 : decode qm_evaluatesOne_c 39 = .ok (.aload_n 0, 1) := by decide +kernel
theorem d_qm_evaluatesOne_40 : decode qm_evaluatesOne_c 40 = .ok (.aload_n 0, 1) := by decide +kernel
theorem d_qm_evaluatesOne_41 : decode qm_evaluatesOne_c 41 = .ok (.getfield 203, 3) := by decide +kernel
theorem d_qm_evaluatesOne_44 : decode qm_evaluatesOne_c 44 = .ok (.invokevirtual 154, 3) := by decide +kernel
theorem d_qm_evaluatesOne_47 : decode qm_evaluatesOne_c 47 = .ok (.lconst 0, 1) := by decide +kernel
theorem d_qm_evaluatesOne_48 : decode qm_evaluatesOne_c 48 = .ok (.iconst 0, 1) := by decide +kernel
theorem d_qm_evaluatesOne_49 : decode qm_evaluatesOne_c 49 = .ok (.aload_n 0, 1) := by decide +kernel
theorem d_qm_evaluatesOne_50 : decode qm_evaluatesOne_c 50 = .ok (.aload_n 0, 1) := by decide +kernel
theorem d_qm_evaluatesOne_51 : decode qm_evaluatesOne_c 51 = .ok (.getfield 203, 3) := by decide +kernel
theorem d_qm_evaluatesOne_54 : decode qm_evaluatesOne_c 54 = .ok (.invokevirtual 157, 3) := by decide +kernel
theorem d_qm_evaluatesOne_57 : decode qm_evaluatesOne_c 57 = .ok (.aload_n 0, 1) := by decide +kernel
theorem d_qm_evaluatesOne_58 : decode qm_evaluatesOne_c 58 = .ok (.getfield 206, 3) := by decide +kernel
theorem d_qm_evaluatesOne_61 : decode qm_evaluatesOne_c 61 = .ok (.invokevirtual 216, 3) := by decide +kernel
theorem d_qm_evaluatesOne_64 : decode qm_evaluatesOne_c 64 = .ok (.ireturn, 1) := by decide +kernel
theorem d_qm_evaluatesOne_65 : decode qm_evaluatesOne_c 65 = .ok (.iload_n 1, 1) := by decide +kernel
theorem d_qm_evaluatesOne_66 : decode qm_evaluatesOne_c 66 = .ok (.iconst 2, 1) := by decide +kernel
theorem d_qm_evaluatesOne_67 : decode qm_evaluatesOne_c 67 = .ok (.if_icmp .ne 36, 3) := by decide +kernel
theorem d_qm_evaluatesOne_70 : decode qm_evaluatesOne_c 70 = .ok (.aload_n 0, 1) := by decide +kernel
theorem d_qm_evaluatesOne_71 : decode qm_evaluatesOne_c 71 = .ok (.aload_n 0, 1) := by decide +kernel
theorem d_qm_evaluatesOne_72 : decode qm_evaluatesOne_c 72 = .ok (.getfield 206, 3) := by decide +kernel
theorem d_qm_evaluatesOne_75 : decode qm_evaluatesOne_c 75 = .ok (.aload_n 0, 1) := by decide +kernel
theorem d_qm_evaluatesOne_76 : decode qm_evaluatesOne_c 76 = .ok (.aload_n 0, 1) := by decide +kernel
theorem d_qm_evaluatesOne_77 : decode qm_evaluatesOne_c 77 = .ok (.getfield 203, 3) := by decide +kernel
theorem d_qm_evaluatesOne_80 : decode qm_evaluatesOne_c 80 = .ok (.invokevirtual 124, 3) := by decide +kernel
theorem d_qm_evaluatesOne_83 : decode qm_evaluatesOne_c 83 = .ok (.invokevirtual 188, 3) := by decide +kernel
theorem d_qm_evaluatesOne_86 : decode qm_evaluatesOne_c 86 = .ok (.ifCond .eq 14, 3) := by decide +kernel
theorem d_qm_evaluatesOne_89 : decode qm_evaluatesOne_c 89 = .ok (.aload_n 0, 1) := by decide +kernel
theorem d_qm_evaluatesOne_90 : decode qm_evaluatesOne_c 90 = .ok (.aload_n 0, 1) := by decide +kernel
theorem d_qm_evaluatesOne_91 : decode qm_evaluatesOne_c 91 = .ok (.getfield 134, 3) := by decide +kernel
theorem d_qm_evaluatesOne_94 : decode qm_evaluatesOne_c 94 = .ok (.invokevirtual 220, 3) := by decide +kernel
theorem d_qm_evaluatesOne_97 : decode qm_evaluatesOne_c 97 = .ok (.goto 5, 3) := by decide +kernel
theorem d_qm_evaluatesOne_100 : decode qm_evaluatesOne_c 100 = .ok (.bipush (-6), 2) := by decide +kernel
theorem d_qm_evaluatesOne_102 : decode qm_evaluatesOne_c 102 = .ok (.ireturn, 1) := by decide +kernel
theorem d_qm_evaluatesOne_103 : decode qm_evaluatesOne_c 103 = .ok (.aload_n 0, 1) := by decide +kernel
theorem d_qm_evaluatesOne_104 : decode qm_evaluatesOne_c 104 = .ok (.aload_n 0, 1) := by decide +kernel
theorem d_qm_evaluatesOne_105 : decode qm_evaluatesOne_c 105 = .ok (.getfield 203, 3) := by decide +kernel
theorem d_qm_evaluatesOne_108 : decode qm_evaluatesOne_c 108 = .ok (.invokevirtual 220, 3) := by decide +kernel
theorem d_qm_evaluatesOne_111 : decode qm_evaluatesOne_c 111 = .ok (.ireturn, 1) := by decide +kernel
theorem d_qm_combines_0 : decode qm_combines_c 0 = .ok (.aload_n 0, 1) := by decide +kernel
theorem d_qm_combines_1 : decode qm_combines_c 1 = .ok (.iconst 1, 1) := by decide +kernel
theorem d_qm_combines_2 : decode qm_combines_c 2 = .ok (.putfield 200, 3) := by decide +kernel
theorem d_qm_combines_5 : decode qm_combines_c 5 = .ok (.aload_n 0, 1) := by decide +kernel
theorem d_qm_combines_6 : decode qm_combines_c 6 = .ok (.lload_n 1, 1) := by decide +kernel
theorem d_qm_combines_7 : decode qm_combines_c 7 = .ok (.putfield 203, 3) := by decide +kernel
theorem d_qm_combines_10 : decode qm_combines_c 10 = .ok (.aload_n 0, 1) := by decide +kernel
theorem d_qm_combines_11 : decode qm_combines_c 11 = .ok (.lload_n 3, 1) := by decide +kernel
theorem d_qm_combines_12 : decode qm_combines_c 12 = .ok (.putfield 223, 3) := by decide +kernel
theorem d_qm_combines_15 : decode qm_combines_c 15 = .ok (.aload_n 0, 1) := by decide +kernel
theorem d_qm_combines_16 : decode qm_combines_c 16 = .ok (.lload 5, 2) := by decide +kernel
theorem d_qm_combines_18 : decode qm_combines_c 18 = .ok (.putfield 206, 3) := by decide +kernel
theorem d_qm_combines_21 : decode qm_combines_c 21 = .ok (.iconst 0, 1) := by decide +kernel
theorem d_qm_combines_22 : decode qm_combines_c 22 = .ok (.ireturn, 1) := by decide +kernel
theorem d_qm_goesOn_0 : decode qm_goesOn_c 0 = .ok (.lload_n 3, 1) := by decide +kernel
theorem d_qm_goesOn_1 : decode qm_goesOn_c 1 = .ok (.invokestatic 151, 3) := by decide +kernel
theorem d_qm_goesOn_4 : decode qm_goesOn_c 4 = .ok (.iconst 4, 1) := by decide +kernel
theorem d_qm_goesOn_5 : decode qm_goesOn_c 5 = .ok (.if_icmp .ne 24, 3) := by decide +kernel
theorem d_qm_goesOn_8 : decode qm_goesOn_c 8 = .ok (.aload_n 0, 1) := by decide +kernel
theorem d_qm_goesOn_9 : decode qm_goesOn_c 9 = .ok (.iconst 1, 1) := by decide +kernel
theorem d_qm_goesOn_10 : decode qm_goesOn_c 10 = .ok (.lload_n 1, 1) := by decide +kernel
theorem d_qm_goesOn_11 : decode qm_goesOn_c 11 = .ok (.aload_n 0, 1) := by decide +kernel
theorem d_qm_goesOn_12 : decode qm_goesOn_c 12 = .ok (.lload_n 3, 1) := by decide +kernel
theorem d_qm_goesOn_13 : decode qm_goesOn_c 13 = .ok (.invokevirtual 154, 3) := by decide +kernel
theorem d_qm_goesOn_16 : decode qm_goesOn_c 16 = .ok (.iload 7, 2) := by decide +kernel
theorem d_qm_goesOn_18 : decode qm_goesOn_c 18 = .ok (.aload_n 0, 1) := by decide +kernel
theorem d_qm_goesOn_19 : decode qm_goesOn_c 19 = .ok (.lload_n 3, 1) := by decide +kernel
theorem d_qm_goesOn_20 : decode qm_goesOn_c 20 = .ok (.invokevirtual 157, 3) := by decide +kernel
theorem d_qm_goesOn_23 : decode qm_goesOn_c 23 = .ok (.lload 5, 2) := by decide +kernel
theorem d_qm_goesOn_25 : decode qm_goesOn_c 25 = .ok (.invokevirtual 216, 3) := by decide +kernel
theorem d_qm_goesOn_28 : decode qm_goesOn_c 28 = .ok (.ireturn, 1) := by decide +kernel
theorem d_qm_goesOn_29 : decode qm_goesOn_c 29 = .ok (.ldc2_w 175, 3) := by decide +kernel
theorem d_qm_goesOn_32 : decode qm_goesOn_c 32 = .ok (.lstore 8, 2) := by decide +kernel
theorem d_qm_goesOn_34 : decode qm_goesOn_c 34 = .ok (.aload_n 0, 1) := by decide +kernel
theorem d_qm_goesOn_35 : decode qm_goesOn_c 35 = .ok (.getfield 226, 3) := by decide +kernel
theorem d_qm_goesOn_38 : decode qm_goesOn_c 38 = .ok (.iconst 1, 1) := by decide +kernel
theorem d_qm_goesOn_39 : decode qm_goesOn_c 39 = .ok (.isub, 1) := by decide +kernel
theorem d_qm_goesOn_40 : decode qm_goesOn_c 40 = .ok (.istore 10, 2) := by decide +kernel
theorem d_qm_goesOn_42 : decode qm_goesOn_c 42 = .ok (.iload 10, 2) := by decide +kernel
theorem d_qm_goesOn_44 : decode qm_goesOn_c 44 = .ok (.iload 7, 2) := by decide +kernel
theorem d_qm_goesOn_46 : decode qm_goesOn_c 46 = .ok (.if_icmp .lt 35, 3) := by decide +kernel
theorem d_qm_goesOn_49 : decode qm_goesOn_c 49 = .ok (.aload_n 0, 1) := by decide +kernel
theorem d_qm_goesOn_50 : decode qm_goesOn_c 50 = .ok (.invokevirtual 147, 3) := by decide +kernel
theorem d_qm_goesOn_53 : decode qm_goesOn_c 53 = .ok (.ifCond .eq 6, 3) := by decide +kernel
theorem d_qm_goesOn_56 : decode qm_goesOn_c 56 = .ok (.bipush (-5), 2) := by decide +kernel
theorem d_qm_goesOn_58 : decode qm_goesOn_c 58 = .ok (.ireturn, 1) := by decide +kernel
theorem d_qm_goesOn_59 : decode qm_goesOn_c 59 = .ok (.aload_n 0, 1) := by decide +kernel
theorem d_qm_goesOn_60 : decode qm_goesOn_c 60 = .ok (.iconst 4, 1) := by decide +kernel
theorem d_qm_goesOn_61 : decode qm_goesOn_c 61 = .ok (.aload_n 0, 1) := by decide +kernel
theorem d_qm_goesOn_62 : decode qm_goesOn_c 62 = .ok (.getfield 57, 3) := by decide +kernel
theorem d_qm_goesOn_65 : decode qm_goesOn_c 65 = .ok (.iload 10, 2) := by decide +kernel
theorem d_qm_goesOn_67 : decode qm_goesOn_c 67 = .ok (.laload, 1) := by decide +kernel
theorem d_qm_goesOn_68 : decode qm_goesOn_c 68 = .ok (.lload 8, 2) := by decide +kernel
theorem d_qm_goesOn_70 : decode qm_goesOn_c 70 = .ok (.invokevirtual 130, 3) := by decide +kernel
theorem d_qm_goesOn_73 : decode qm_goesOn_c 73 = .ok (.lstore 8, 2) := by decide +kernel
theorem d_qm_goesOn_75 : decode qm_goesOn_c 75 = .ok (.iinc 10 (-1), 3) := by decide +kernel
theorem d_qm_goesOn_78 : decode qm_goesOn_c 78 = .ok (.goto (-36), 3) := by decide +kernel
theorem d_qm_goesOn_81 : decode qm_goesOn_c 81 = .ok (.aload_n 0, 1) := by decide +kernel
theorem d_qm_goesOn_82 : decode qm_goesOn_c 82 = .ok (.iload 7, 2) := by decide +kernel
theorem d_qm_goesOn_84 : decode qm_goesOn_c 84 = .ok (.putfield 226, 3) := by decide +kernel
theorem d_qm_goesOn_87 : decode qm_goesOn_c 87 = .ok (.aload_n 0, 1) := by decide +kernel
theorem d_qm_goesOn_88 : decode qm_goesOn_c 88 = .ok (.aload_n 0, 1) := by decide +kernel
theorem d_qm_goesOn_89 : decode qm_goesOn_c 89 = .ok (.lload_n 1, 1) := by decide +kernel
theorem d_qm_goesOn_90 : decode qm_goesOn_c 90 = .ok (.invokevirtual 185, 3) := by decide +kernel
theorem d_qm_goesOn_93 : decode qm_goesOn_c 93 = .ok (.lload 8, 2) := by decide +kernel
theorem d_qm_goesOn_95 : decode qm_goesOn_c 95 = .ok (.lload 5, 2) := by decide +kernel
theorem d_qm_goesOn_97 : decode qm_goesOn_c 97 = .ok (.invokevirtual 229, 3) := by decide +kernel
theorem d_qm_goesOn_100 : decode qm_goesOn_c 100 = .ok (.ireturn, 1) := by decide +kernel
theorem d_qm_beginsWith_0 : decode qm_beginsWith_c 0 = .ok (.lload_n 1, 1) := by decide +kernel
theorem d_qm_beginsWith_1 : decode qm_beginsWith_c 1 = .ok (.invokestatic 151, 3) := by decide +kernel
theorem d_qm_beginsWith_4 : decode qm_beginsWith_c 4 = .ok (.iconst 3, 1) := by decide +kernel
theorem d_qm_beginsWith_5 : decode qm_beginsWith_c 5 = .ok (.if_icmp .ne 11, 3) := by decide +kernel
theorem d_qm_beginsWith_8 : decode qm_beginsWith_c 8 = .ok (.aload_n 0, 1) := by decide +kernel
theorem d_qm_beginsWith_9 : decode qm_beginsWith_c 9 = .ok (.ldc2_w 173, 3) := by decide +kernel
theorem d_qm_beginsWith_12 : decode qm_beginsWith_c 12 = .ok (.invokevirtual 220, 3) := by decide +kernel
theorem d_qm_beginsWith_15 : decode qm_beginsWith_c 15 = .ok (.ireturn, 1) := by decide +kernel
theorem d_qm_beginsWith_16 : decode qm_beginsWith_c 16 = .ok (.aload_n 0, 1) := by decide +kernel
theorem d_qm_beginsWith_17 : decode qm_beginsWith_c 17 = .ok (.lload_n 1, 1) := by decide +kernel
theorem d_qm_beginsWith_18 : decode qm_beginsWith_c 18 = .ok (.invokevirtual 154, 3) := by decide +kernel
theorem d_qm_beginsWith_21 : decode qm_beginsWith_c 21 = .ok (.invokestatic 151, 3) := by decide +kernel
theorem d_qm_beginsWith_24 : decode qm_beginsWith_c 24 = .ok (.iconst 3, 1) := by decide +kernel
theorem d_qm_beginsWith_25 : decode qm_beginsWith_c 25 = .ok (.if_icmp .ne 14, 3) := by decide +kernel
theorem d_qm_beginsWith_28 : decode qm_beginsWith_c 28 = .ok (.aload_n 0, 1) := by decide +kernel
theorem d_qm_beginsWith_29 : decode qm_beginsWith_c 29 = .ok (.aload_n 0, 1) := by decide +kernel
theorem d_qm_beginsWith_30 : decode qm_beginsWith_c 30 = .ok (.lload_n 1, 1) := by decide +kernel
theorem d_qm_beginsWith_31 : decode qm_beginsWith_c 31 = .ok (.invokevirtual 157, 3) := by decide +kernel
theorem d_qm_beginsWith_34 : decode qm_beginsWith_c 34 = .ok (.lload_n 3, 1) := by decide +kernel
theorem d_qm_beginsWith_35 : decode qm_beginsWith_c 35 = .ok (.invokevirtual 212, 3) := by decide +kernel
theorem d_qm_beginsWith_38 : decode qm_beginsWith_c 38 = .ok (.ireturn, 1) := by decide +kernel
theorem d_qm_beginsWith_39 : decode qm_beginsWith_c 39 = .ok (.aload_n 0, 1) := by decide +kernel
theorem d_qm_beginsWith_40 : decode qm_beginsWith_c 40 = .ok (.bipush 6, 2) := by decide +kernel
theorem d_qm_beginsWith_42 : decode qm_beginsWith_c 42 = .ok (.aload_n 0, 1) := by decide +kernel
theorem d_qm_beginsWith_43 : decode qm_beginsWith_c 43 = .ok (.lload_n 1, 1) := by decide +kernel
theorem d_qm_beginsWith_44 : decode qm_beginsWith_c 44 = .ok (.invokevirtual 154, 3) := by decide +kernel
theorem d_qm_beginsWith_47 : decode qm_beginsWith_c 47 = .ok (.lconst 0, 1) := by decide +kernel
theorem d_qm_beginsWith_48 : decode qm_beginsWith_c 48 = .ok (.iconst 0, 1) := by decide +kernel
theorem d_qm_beginsWith_49 : decode qm_beginsWith_c 49 = .ok (.aload_n 0, 1) := by decide +kernel
theorem d_qm_beginsWith_50 : decode qm_beginsWith_c 50 = .ok (.lload_n 1, 1) := by decide +kernel
theorem d_qm_beginsWith_51 : decode qm_beginsWith_c 51 = .ok (.invokevirtual 157, 3) := by decide +kernel
theorem d_qm_beginsWith_54 : decode qm_beginsWith_c 54 = .ok (.lload_n 3, 1) := by decide +kernel
theorem d_qm_beginsWith_55 : decode qm_beginsWith_c 55 = .ok (.invokevirtual 216, 3) := by decide +kernel
theorem d_qm_beginsWith_58 : decode qm_beginsWith_c 58 = .ok (.ireturn, 1) := by decide +kernel
theorem d_qm_givesBound_0 : decode qm_givesBound_c 0 = .ok (.aload_n 0, 1) := by decide +kernel
theorem d_qm_givesBound_1 : decode qm_givesBound_c 1 = .ok (.lload_n 1, 1) := by decide +kernel
theorem d_qm_givesBound_2 : decode qm_givesBound_c 2 = .ok (.iload_n 3, 1) := by decide +kernel
theorem d_qm_givesBound_3 : decode qm_givesBound_c 3 = .ok (.lload 4, 2) := by decide +kernel
theorem d_qm_givesBound_5 : decode qm_givesBound_c 5 = .ok (.invokevirtual 233, 3) := by decide +kernel
theorem d_qm_givesBound_8 : decode qm_givesBound_c 8 = .ok (.ifCond .eq 13, 3) := by decide +kernel
theorem d_qm_givesBound_11 : decode qm_givesBound_c 11 = .ok (.aload_n 0, 1) := by decide +kernel
theorem d_qm_givesBound_12 : decode qm_givesBound_c 12 = .ok (.ldc2_w 173, 3) := by decide +kernel
theorem d_qm_givesBound_15 : decode qm_givesBound_c 15 = .ok (.invokevirtual 220, 3) := by decide +kernel
theorem d_qm_givesBound_18 : decode qm_givesBound_c 18 = .ok (.goto 5, 3) := by decide +kernel
theorem d_qm_givesBound_21 : decode qm_givesBound_c 21 = .ok (.bipush (-5), 2) := by decide +kernel
theorem d_qm_givesBound_23 : decode qm_givesBound_c 23 = .ok (.ireturn, 1) := by decide +kernel
theorem d_qm_takesResult_0 : decode qm_takesResult_c 0 = .ok (.aload_n 0, 1) := by decide +kernel
theorem d_qm_takesResult_1 : decode qm_takesResult_c 1 = .ok (.dup, 1) := by decide +kernel
theorem d_qm_takesResult_2 : decode qm_takesResult_c 2 = .ok (.getfield 209, 3) := by decide +kernel
theorem d_qm_takesResult_5 : decode qm_takesResult_c 5 = .ok (.iconst 1, 1) := by decide +kernel
theorem d_qm_takesResult_6 : decode qm_takesResult_c 6 = .ok (.isub, 1) := by decide +kernel
theorem d_qm_takesResult_7 : decode qm_takesResult_c 7 = .ok (.putfield 209, 3) := by decide +kernel
theorem d_qm_takesResult_10 : decode qm_takesResult_c 10 = .ok (.aload_n 0, 1) := by decide +kernel
theorem d_qm_takesResult_11 : decode qm_takesResult_c 11 = .ok (.getfield 45, 3) := by decide +kernel
theorem d_qm_takesResult_14 : decode qm_takesResult_c 14 = .ok (.aload_n 0, 1) := by decide +kernel
theorem d_qm_takesResult_15 : decode qm_takesResult_c 15 = .ok (.getfield 209, 3) := by decide +kernel
theorem d_qm_takesResult_18 : decode qm_takesResult_c 18 = .ok (.laload, 1) := by decide +kernel
theorem d_qm_takesResult_19 : decode qm_takesResult_c 19 = .ok (.lstore_n 1, 1) := by decide +kernel
theorem d_qm_takesResult_20 : decode qm_takesResult_c 20 = .ok (.aload_n 0, 1) := by decide +kernel
theorem d_qm_takesResult_21 : decode qm_takesResult_c 21 = .ok (.getfield 48, 3) := by decide +kernel
theorem d_qm_takesResult_24 : decode qm_takesResult_c 24 = .ok (.aload_n 0, 1) := by decide +kernel
theorem d_qm_takesResult_25 : decode qm_takesResult_c 25 = .ok (.getfield 209, 3) := by decide +kernel
theorem d_qm_takesResult_28 : decode qm_takesResult_c 28 = .ok (.laload, 1) := by decide +kernel
theorem d_qm_takesResult_29 : decode qm_takesResult_c 29 = .ok (.lstore_n 3, 1) := by decide +kernel
theorem d_qm_takesResult_30 : decode qm_takesResult_c 30 = .ok (.aload_n 0, 1) := by decide +kernel
theorem d_qm_takesResult_31 : decode qm_takesResult_c 31 = .ok (.getfield 51, 3) := by decide +kernel
theorem d_qm_takesResult_34 : decode qm_takesResult_c 34 = .ok (.aload_n 0, 1) := by decide +kernel
theorem d_qm_takesResult_35 : decode qm_takesResult_c 35 = .ok (.getfield 209, 3) := by decide +kernel
theorem d_qm_takesResult_38 : decode qm_takesResult_c 38 = .ok (.laload, 1) := by decide +kernel
theorem d_qm_takesResult_39 : decode qm_takesResult_c 39 = .ok (.lstore 5, 2) := by decide +kernel
theorem d_qm_takesResult_41 : decode qm_takesResult_c 41 = .ok (.aload_n 0, 1) := by decide +kernel
theorem d_qm_takesResult_42 : decode qm_takesResult_c 42 = .ok (.getfield 54, 3) := by decide +kernel
theorem d_qm_takesResult_45 : decode qm_takesResult_c 45 = .ok (.aload_n 0, 1) := by decide +kernel
theorem d_qm_takesResult_46 : decode qm_takesResult_c 46 = .ok (.getfield 209, 3) := by decide +kernel
theorem d_qm_takesResult_49 : decode qm_takesResult_c 49 = .ok (.iaload, 1) := by decide +kernel
theorem d_qm_takesResult_50 : decode qm_takesResult_c 50 = .ok (.istore 7, 2) := by decide +kernel
theorem d_qm_takesResult_52 : decode qm_takesResult_c 52 = .ok (.aload_n 0, 1) := by decide +kernel
theorem d_qm_takesResult_53 : decode qm_takesResult_c 53 = .ok (.getfield 203, 3) := by decide +kernel
theorem d_qm_takesResult_56 : decode qm_takesResult_c 56 = .ok (.lstore 8, 2) := by decide +kernel
theorem d_qm_takesResult_58 : decode qm_takesResult_c 58 = .ok (.aload_n 0, 1) := by decide +kernel
theorem d_qm_takesResult_59 : decode qm_takesResult_c 59 = .ok (.getfield 42, 3) := by decide +kernel
theorem d_qm_takesResult_62 : decode qm_takesResult_c 62 = .ok (.aload_n 0, 1) := by decide +kernel
theorem d_qm_takesResult_63 : decode qm_takesResult_c 63 = .ok (.getfield 209, 3) := by decide +kernel
theorem d_qm_takesResult_66 : decode qm_takesResult_c 66 = .ok (.iaload, 1) := by decide +kernel
theorem d_qm_takesResult_67 : decode qm_takesResult_c 67 = .ok (.tableswitch 165 0 5 #[37, 47, 79, 115, 126, 155], 37) := by decide +kernel
theorem d_qm_takesResult_104 : decode qm_takesResult_c 104 = .ok (.aload_n 0, 1) := by decide +kernel
theorem d_qm_takesResult_105 : decode qm_takesResult_c 105 = .ok (.lload 8, 2) := by decide +kernel
theorem d_qm_takesResult_107 : decode qm_takesResult_c 107 = .ok (.lload_n 1, 1) := by decide +kernel
theorem d_qm_takesResult_108 : decode qm_takesResult_c 108 = .ok (.lload 5, 2) := by decide +kernel
theorem d_qm_takesResult_110 : decode qm_takesResult_c 110 = .ok (.invokevirtual 229, 3) := by decide +kernel
theorem d_qm_takesResult_113 : decode qm_takesResult_c 113 = .ok (.ireturn, 1) := by decide +kernel
theorem d_qm_takesResult_114 : decode qm_takesResult_c 114 = .ok (.aload_n 0, 1) := by decide +kernel
theorem d_qm_takesResult_115 : decode qm_takesResult_c 115 = .ok (.getfield 57, 3) := by decide +kernel
theorem d_qm_takesResult_118 : decode qm_takesResult_c 118 = .ok (.aload_n 0, 1) := by decide +kernel
theorem d_qm_takesResult_119 : decode qm_takesResult_c 119 = .ok (.getfield 226, 3) := by decide +kernel
theorem d_qm_takesResult_122 : decode qm_takesResult_c 122 = .ok (.lload 8, 2) := by decide +kernel
theorem d_qm_takesResult_124 : decode qm_takesResult_c 124 = .ok (.lastore, 1) := by decide +kernel
theorem d_qm_takesResult_125 : decode qm_takesResult_c 125 = .ok (.aload_n 0, 1) := by decide +kernel
theorem d_qm_takesResult_126 : decode qm_takesResult_c 126 = .ok (.dup, 1) := by decide +kernel
theorem d_qm_takesResult_127 : decode qm_takesResult_c 127 = .ok (.getfield 226, 3) := by decide +kernel
theorem d_qm_takesResult_130 : decode qm_takesResult_c 130 = .ok (.iconst 1, 1) := by decide +kernel
theorem d_qm_takesResult_131 : decode qm_takesResult_c 131 = .ok (.iadd, 1) := by decide +kernel
theorem d_qm_takesResult_132 : decode qm_takesResult_c 132 = .ok (.putfield 226, 3) := by decide +kernel
theorem d_qm_takesResult_135 : decode qm_takesResult_c 135 = .ok (.aload_n 0, 1) := by decide +kernel
theorem d_qm_takesResult_136 : decode qm_takesResult_c 136 = .ok (.lload_n 1, 1) := by decide +kernel
theorem d_qm_takesResult_137 : decode qm_takesResult_c 137 = .ok (.lload_n 3, 1) := by decide +kernel
theorem d_qm_takesResult_138 : decode qm_takesResult_c 138 = .ok (.lload 5, 2) := by decide +kernel
theorem d_qm_takesResult_140 : decode qm_takesResult_c 140 = .ok (.iload 7, 2) := by decide +kernel
theorem d_qm_takesResult_142 : decode qm_takesResult_c 142 = .ok (.invokevirtual 237, 3) := by decide +kernel
theorem d_qm_takesResult_145 : decode qm_takesResult_c 145 = .ok (.ireturn, 1) := by decide +kernel
theorem d_qm_takesResult_146 : decode qm_takesResult_c 146 = .ok (.lload 8, 2) := by decide +kernel
theorem d_qm_takesResult_148 : decode qm_takesResult_c 148 = .ok (.invokestatic 151, 3) := by decide +kernel
theorem d_qm_takesResult_151 : decode qm_takesResult_c 151 = .ok (.iconst 1, 1) := by decide +kernel
theorem d_qm_takesResult_152 : decode qm_takesResult_c 152 = .ok (.if_icmp .eq 8, 3) := by decide +kernel
theorem d_qm_takesResult_155 : decode qm_takesResult_c 155 = .ok (.bipush (-8), 2) := by decide +kernel
theorem d_qm_takesResult_157 : decode qm_takesResult_c 157 = .ok (.goto 24, 3) := by decide +kernel
theorem d_qm_takesResult_160 : decode qm_takesResult_c 160 = .ok (.aload_n 0, 1) := by decide +kernel
theorem d_qm_takesResult_161 : decode qm_takesResult_c 161 = .ok (.lload 8, 2) := by decide +kernel
theorem d_qm_takesResult_163 : decode qm_takesResult_c 163 = .ok (.invokestatic 120, 3) := by decide +kernel
theorem d_qm_takesResult_166 : decode qm_takesResult_c 166 = .ok (.lconst 1, 1) := by decide +kernel
theorem d_qm_takesResult_167 : decode qm_takesResult_c 167 = .ok (.lcmp, 1) := by decide +kernel
theorem d_qm_takesResult_168 : decode qm_takesResult_c 168 = .ok (.ifCond .ne 7, 3) := by decide +kernel
theorem d_qm_takesResult_171 : decode qm_takesResult_c 171 = .ok (.lload_n 1, 1) := by decide +kernel
theorem d_qm_takesResult_172 : decode qm_takesResult_c 172 = .ok (.goto 4, 3) := by decide +kernel
theorem d_qm_takesResult_175 : decode qm_takesResult_c 175 = .ok (.lload_n 3, 1) := by decide +kernel
theorem d_qm_takesResult_176 : decode qm_takesResult_c 176 = .ok (.lload 5, 2) := by decide +kernel
theorem d_qm_takesResult_178 : decode qm_takesResult_c 178 = .ok (.invokevirtual 212, 3) := by decide +kernel
theorem d_qm_takesResult_181 : decode qm_takesResult_c 181 = .ok (.ireturn, 1) := by decide +kernel
theorem d_qm_takesResult_182 : decode qm_takesResult_c 182 = .ok (.aload_n 0, 1) := by decide +kernel
theorem d_qm_takesResult_183 : decode qm_takesResult_c 183 = .ok (.lload 5, 2) := by decide +kernel
theorem d_qm_takesResult_185 : decode qm_takesResult_c 185 = .ok (.iload 7, 2) := by decide +kernel
theorem d_qm_takesResult_187 : decode qm_takesResult_c 187 = .ok (.lload 8, 2) := by decide +kernel
theorem d_qm_takesResult_189 : decode qm_takesResult_c 189 = .ok (.invokevirtual 241, 3) := by decide +kernel
theorem d_qm_takesResult_192 : decode qm_takesResult_c 192 = .ok (.ireturn, 1) := by decide +kernel
theorem d_qm_takesResult_193 : decode qm_takesResult_c 193 = .ok (.lload 8, 2) := by decide +kernel
theorem d_qm_takesResult_195 : decode qm_takesResult_c 195 = .ok (.invokestatic 151, 3) := by decide +kernel
theorem d_qm_takesResult_198 : decode qm_takesResult_c 198 = .ok (.bipush 7, 2) := by decide +kernel
theorem d_qm_takesResult_200 : decode qm_takesResult_c 200 = .ok (.if_icmp .eq 8, 3) := by decide +kernel
theorem d_qm_takesResult_203 : decode qm_takesResult_c 203 = .ok (.bipush (-8), 2) := by decide +kernel
theorem d_qm_takesResult_205 : decode qm_takesResult_c 205 = .ok (.goto 16, 3) := by decide +kernel
theorem d_qm_takesResult_208 : decode qm_takesResult_c 208 = .ok (.aload_n 0, 1) := by decide +kernel
theorem d_qm_takesResult_209 : decode qm_takesResult_c 209 = .ok (.iconst 5, 1) := by decide +kernel
theorem d_qm_takesResult_210 : decode qm_takesResult_c 210 = .ok (.lload 8, 2) := by decide +kernel
theorem d_qm_takesResult_212 : decode qm_takesResult_c 212 = .ok (.lconst 0, 1) := by decide +kernel
theorem d_qm_takesResult_213 : decode qm_takesResult_c 213 = .ok (.iload 7, 2) := by decide +kernel
theorem d_qm_takesResult_215 : decode qm_takesResult_c 215 = .ok (.lload_n 1, 1) := by decide +kernel
theorem d_qm_takesResult_216 : decode qm_takesResult_c 216 = .ok (.lload 5, 2) := by decide +kernel
theorem d_qm_takesResult_218 : decode qm_takesResult_c 218 = .ok (.invokevirtual 216, 3) := by decide +kernel
theorem d_qm_takesResult_221 : decode qm_takesResult_c 221 = .ok (.ireturn, 1) := by decide +kernel
theorem d_qm_takesResult_222 : decode qm_takesResult_c 222 = .ok (.aload_n 0, 1) := by decide +kernel
theorem d_qm_takesResult_223 : decode qm_takesResult_c 223 = .ok (.lload_n 1, 1) := by decide +kernel
theorem d_qm_takesResult_224 : decode qm_takesResult_c 224 = .ok (.iload 7, 2) := by decide +kernel
theorem d_qm_takesResult_226 : decode qm_takesResult_c 226 = .ok (.lload 8, 2) := by decide +kernel
theorem d_qm_takesResult_228 : decode qm_takesResult_c 228 = .ok (.invokevirtual 241, 3) := by decide +kernel
theorem d_qm_takesResult_231 : decode qm_takesResult_c 231 = .ok (.ireturn, 1) := by decide +kernel
theorem d_qm_takesResult_232 : decode qm_takesResult_c 232 = .ok (.aload_n 0, 1) := by decide +kernel
theorem d_qm_takesResult_233 : decode qm_takesResult_c 233 = .ok (.lload_n 1, 1) := by decide +kernel
theorem d_qm_takesResult_234 : decode qm_takesResult_c 234 = .ok (.lload 5, 2) := by decide +kernel
theorem d_qm_takesResult_236 : decode qm_takesResult_c 236 = .ok (.invokevirtual 245, 3) := by decide +kernel
theorem d_qm_takesResult_239 : decode qm_takesResult_c 239 = .ok (.ireturn, 1) := by decide +kernel
theorem d_qm_isTree_0 : decode qm_isTree_c 0 = .ok (.iconst 0, 1) := by decide +kernel
theorem d_qm_isTree_1 : decode qm_isTree_c 1 = .ok (.istore_n 3, 1) := by decide +kernel
theorem d_qm_isTree_2 : decode qm_isTree_c 2 = .ok (.iload_n 3, 1) := by decide +kernel
theorem d_qm_isTree_3 : decode qm_isTree_c 3 = .ok (.bipush 100, 2) := by decide +kernel
theorem d_qm_isTree_5 : decode qm_isTree_c 5 = .ok (.if_icmp .ge 16, 3) := by decide +kernel
theorem d_qm_isTree_8 : decode qm_isTree_c 8 = .ok (.aload_n 0, 1) := by decide +kernel
theorem d_qm_isTree_9 : decode qm_isTree_c 9 = .ok (.getfield 66, 3) := by decide +kernel
theorem d_qm_isTree_12 : decode qm_isTree_c 12 = .ok (.iload_n 3, 1) := by decide +kernel
theorem d_qm_isTree_13 : decode qm_isTree_c 13 = .ok (.iconst 0, 1) := by decide +kernel
theorem d_qm_isTree_14 : decode qm_isTree_c 14 = .ok (.bastore, 1) := by decide +kernel
theorem d_qm_isTree_15 : decode qm_isTree_c 15 = .ok (.iinc 3 1, 3) := by decide +kernel
theorem d_qm_isTree_18 : decode qm_isTree_c 18 = .ok (.goto (-16), 3) := by decide +kernel
theorem d_qm_isTree_21 : decode qm_isTree_c 21 = .ok (.iconst 1, 1) := by decide +kernel
theorem d_qm_isTree_22 : decode qm_isTree_c 22 = .ok (.istore_n 3, 1) := by decide +kernel
theorem d_qm_isTree_23 : decode qm_isTree_c 23 = .ok (.iconst 0, 1) := by decide +kernel
theorem d_qm_isTree_24 : decode qm_isTree_c 24 = .ok (.istore 4, 2) := by decide +kernel
theorem d_qm_isTree_26 : decode qm_isTree_c 26 = .ok (.aload_n 0, 1) := by decide +kernel
theorem d_qm_isTree_27 : decode qm_isTree_c 27 = .ok (.getfield 60, 3) := by decide +kernel
theorem d_qm_isTree_30 : decode qm_isTree_c 30 = .ok (.iconst 0, 1) := by decide +kernel
theorem d_qm_isTree_31 : decode qm_isTree_c 31 = .ok (.lload_n 1, 1) := by decide +kernel
theorem d_qm_isTree_32 : decode qm_isTree_c 32 = .ok (.lastore, 1) := by decide +kernel
theorem d_qm_isTree_33 : decode qm_isTree_c 33 = .ok (.iload_n 3, 1) := by decide +kernel
theorem d_qm_isTree_34 : decode qm_isTree_c 34 = .ok (.ifCond .le 126, 3) := by decide +kernel
theorem d_qm_isTree_37 : decode qm_isTree_c 37 = .ok (.iinc 3 (-1), 3) := by decide +kernel
theorem d_qm_isTree_40 : decode qm_isTree_c 40 = .ok (.aload_n 0, 1) := by decide +kernel
theorem d_qm_isTree_41 : decode qm_isTree_c 41 = .ok (.getfield 60, 3) := by decide +kernel
theorem d_qm_isTree_44 : decode qm_isTree_c 44 = .ok (.iload_n 3, 1) := by decide +kernel
theorem d_qm_isTree_45 : decode qm_isTree_c 45 = .ok (.laload, 1) := by decide +kernel
theorem d_qm_isTree_46 : decode qm_isTree_c 46 = .ok (.lstore 5, 2) := by decide +kernel
theorem d_qm_isTree_48 : decode qm_isTree_c 48 = .ok (.lload 5, 2) := by decide +kernel
theorem d_qm_isTree_50 : decode qm_isTree_c 50 = .ok (.invokestatic 151, 3) := by decide +kernel
theorem d_qm_isTree_53 : decode qm_isTree_c 53 = .ok (.istore 7, 2) := by decide +kernel
theorem d_qm_isTree_55 : decode qm_isTree_c 55 = .ok (.iload 7, 2) := by decide +kernel
theorem d_qm_isTree_57 : decode qm_isTree_c 57 = .ok (.iconst 4, 1) := by decide +kernel
theorem d_qm_isTree_58 : decode qm_isTree_c 58 = .ok (.if_icmp .ne 47, 3) := by decide +kernel
theorem d_qm_isTree_61 : decode qm_isTree_c 61 = .ok (.iinc 4 1, 3) := by decide +kernel
theorem d_qm_isTree_64 : decode qm_isTree_c 64 = .ok (.iload 4, 2) := by decide +kernel
theorem d_qm_isTree_66 : decode qm_isTree_c 66 = .ok (.bipush 100, 2) := by decide +kernel
theorem d_qm_isTree_68 : decode qm_isTree_c 68 = .ok (.if_icmp .le 5, 3) := by decide +kernel
theorem d_qm_isTree_71 : decode qm_isTree_c 71 = .ok (.iconst 0, 1) := by decide +kernel
theorem d_qm_isTree_72 : decode qm_isTree_c 72 = .ok (.ireturn, 1) := by decide +kernel
theorem d_qm_isTree_73 : decode qm_isTree_c 73 = .ok (.aload_n 0, 1) := by decide +kernel
theorem d_qm_isTree_74 : decode qm_isTree_c 74 = .ok (.getfield 60, 3) := by decide +kernel
theorem d_qm_isTree_77 : decode qm_isTree_c 77 = .ok (.iload_n 3, 1) := by decide +kernel
theorem d_qm_isTree_78 : decode qm_isTree_c 78 = .ok (.aload_n 0, 1) := by decide +kernel
theorem d_qm_isTree_79 : decode qm_isTree_c 79 = .ok (.lload 5, 2) := by decide +kernel
theorem d_qm_isTree_81 : decode qm_isTree_c 81 = .ok (.invokevirtual 154, 3) := by decide +kernel
theorem d_qm_isTree_84 : decode qm_isTree_c 84 = .ok (.lastore, 1) := by decide +kernel
theorem d_qm_isTree_85 : decode qm_isTree_c 85 = .ok (.aload_n 0, 1) := by decide +kernel
theorem d_qm_isTree_86 : decode qm_isTree_c 86 = .ok (.getfield 60, 3) := by decide +kernel
theorem d_qm_isTree_89 : decode qm_isTree_c 89 = .ok (.iload_n 3, 1) := by decide +kernel
theorem d_qm_isTree_90 : decode qm_isTree_c 90 = .ok (.iconst 1, 1) := by decide +kernel
theorem d_qm_isTree_91 : decode qm_isTree_c 91 = .ok (.iadd, 1) := by decide +kernel
theorem d_qm_isTree_92 : decode qm_isTree_c 92 = .ok (.aload_n 0, 1) := by decide +kernel
theorem d_qm_isTree_93 : decode qm_isTree_c 93 = .ok (.lload 5, 2) := by decide +kernel
theorem d_qm_isTree_95 : decode qm_isTree_c 95 = .ok (.invokevirtual 157, 3) := by decide +kernel
theorem d_qm_isTree_98 : decode qm_isTree_c 98 = .ok (.lastore, 1) := by decide +kernel
theorem d_qm_isTree_99 : decode qm_isTree_c 99 = .ok (.iinc 3 2, 3) := by decide +kernel
theorem d_qm_isTree_102 : decode qm_isTree_c 102 = .ok (.goto 55, 3) := by decide +kernel
theorem d_qm_isTree_105 : decode qm_isTree_c 105 = .ok (.iload 7, 2) := by decide +kernel
theorem d_qm_isTree_107 : decode qm_isTree_c 107 = .ok (.iconst 2, 1) := by decide +kernel
theorem d_qm_isTree_108 : decode qm_isTree_c 108 = .ok (.if_icmp .ne 34, 3) := by decide +kernel
theorem d_qm_isTree_111 : decode qm_isTree_c 111 = .ok (.aload_n 0, 1) := by decide +kernel
theorem d_qm_isTree_112 : decode qm_isTree_c 112 = .ok (.getfield 66, 3) := by decide +kernel
theorem d_qm_isTree_115 : decode qm_isTree_c 115 = .ok (.aload_n 0, 1) := by decide +kernel
theorem d_qm_isTree_116 : decode qm_isTree_c 116 = .ok (.lload 5, 2) := by decide +kernel
theorem d_qm_isTree_118 : decode qm_isTree_c 118 = .ok (.invokevirtual 124, 3) := by decide +kernel
theorem d_qm_isTree_121 : decode qm_isTree_c 121 = .ok (.baload, 1) := by decide +kernel
theorem d_qm_isTree_122 : decode qm_isTree_c 122 = .ok (.ifCond .eq 5, 3) := by decide +kernel
theorem d_qm_isTree_125 : decode qm_isTree_c 125 = .ok (.iconst 0, 1) := by decide +kernel
theorem d_qm_isTree_126 : decode qm_isTree_c 126 = .ok (.ireturn, 1) := by decide +kernel
theorem d_qm_isTree_127 : decode qm_isTree_c 127 = .ok (.aload_n 0, 1) := by decide +kernel
theorem d_qm_isTree_128 : decode qm_isTree_c 128 = .ok (.getfield 66, 3) := by decide +kernel
theorem d_qm_isTree_131 : decode qm_isTree_c 131 = .ok (.aload_n 0, 1) := by decide +kernel
theorem d_qm_isTree_132 : decode qm_isTree_c 132 = .ok (.lload 5, 2) := by decide +kernel
theorem d_qm_isTree_134 : decode qm_isTree_c 134 = .ok (.invokevirtual 124, 3) := by decide +kernel
theorem d_qm_isTree_137 : decode qm_isTree_c 137 = .ok (.iconst 1, 1) := by decide +kernel
theorem d_qm_isTree_138 : decode qm_isTree_c 138 = .ok (.bastore, 1) := by decide +kernel
theorem d_qm_isTree_139 : decode qm_isTree_c 139 = .ok (.goto 18, 3) := by decide +kernel
theorem d_qm_isTree_142 : decode qm_isTree_c 142 = .ok (.iload 7, 2) := by decide +kernel
theorem d_qm_isTree_144 : decode qm_isTree_c 144 = .ok (.iconst 3, 1) := by decide +kernel
theorem d_qm_isTree_145 : decode qm_isTree_c 145 = .ok (.if_icmp .eq 12, 3) := by decide +kernel
theorem d_qm_isTree_148 : decode qm_isTree_c 148 = .ok (.iload 7, 2) := by decide +kernel
theorem d_qm_isTree_150 : decode qm_isTree_c 150 = .ok (.bipush 8, 2) := by decide +kernel
theorem d_qm_isTree_152 : decode qm_isTree_c 152 = .ok (.if_icmp .eq 5, 3) := by decide +kernel
theorem d_qm_isTree_155 : decode qm_isTree_c 155 = .ok (.iconst 0, 1) := by decide +kernel
theorem d_qm_isTree_156 : decode qm_isTree_c 156 = .ok (.ireturn, 1) := by decide +kernel
theorem d_qm_isTree_157 : decode qm_isTree_c 157 = .ok (.goto (-124), 3) := by decide +kernel
theorem d_qm_isTree_160 : decode qm_isTree_c 160 = .ok (.iconst 1, 1) := by decide +kernel
theorem d_qm_isTree_161 : decode qm_isTree_c 161 = .ok (.ireturn, 1) := by decide +kernel
theorem d_qm_matches_0 : decode qm_matches_c 0 = .ok (.iconst 1, 1) := by decide +kernel
theorem d_qm_matches_1 : decode qm_matches_c 1 = .ok (.istore 5, 2) := by decide +kernel
theorem d_qm_matches_3 : decode qm_matches_c 3 = .ok (.aload_n 0, 1) := by decide +kernel
theorem d_qm_matches_4 : decode qm_matches_c 4 = .ok (.getfield 60, 3) := by decide +kernel
theorem d_qm_matches_7 : decode qm_matches_c 7 = .ok (.iconst 0, 1) := by decide +kernel
theorem d_qm_matches_8 : decode qm_matches_c 8 = .ok (.lload_n 1, 1) := by decide +kernel
theorem d_qm_matches_9 : decode qm_matches_c 9 = .ok (.lastore, 1) := by decide +kernel
theorem d_qm_matches_10 : decode qm_matches_c 10 = .ok (.aload_n 0, 1) := by decide +kernel
theorem d_qm_matches_11 : decode qm_matches_c 11 = .ok (.getfield 63, 3) := by decide +kernel
theorem d_qm_matches_14 : decode qm_matches_c 14 = .ok (.iconst 0, 1) := by decide +kernel
theorem d_qm_matches_15 : decode qm_matches_c 15 = .ok (.lload_n 3, 1) := by decide +kernel
theorem d_qm_matches_16 : decode qm_matches_c 16 = .ok (.lastore, 1) := by decide +kernel
theorem d_qm_matches_17 : decode qm_matches_c 17 = .ok (.aload_n 0, 1) := by decide +kernel
theorem d_qm_matches_18 : decode qm_matches_c 18 = .ok (.iconst 0, 1) := by decide +kernel
theorem d_qm_matches_19 : decode qm_matches_c 19 = .ok (.putfield 248, 3) := by decide +kernel
theorem d_qm_matches_22 : decode qm_matches_c 22 = .ok (.iload 5, 2) := by decide +kernel
theorem d_qm_matches_24 : decode qm_matches_c 24 = .ok (.ifCond .le 163, 3) := by decide +kernel
theorem d_qm_matches_27 : decode qm_matches_c 27 = .ok (.iinc 5 (-1), 3) := by decide +kernel
theorem d_qm_matches_30 : decode qm_matches_c 30 = .ok (.aload_n 0, 1) := by decide +kernel
theorem d_qm_matches_31 : decode qm_matches_c 31 = .ok (.getfield 60, 3) := by decide +kernel
theorem d_qm_matches_34 : decode qm_matches_c 34 = .ok (.iload 5, 2) := by decide +kernel
theorem d_qm_matches_36 : decode qm_matches_c 36 = .ok (.laload, 1) := by decide +kernel
theorem d_qm_matches_37 : decode qm_matches_c 37 = .ok (.lstore 6, 2) := by decide +kernel
theorem d_qm_matches_39 : decode qm_matches_c 39 = .ok (.aload_n 0, 1) := by decide +kernel
theorem d_qm_matches_40 : decode qm_matches_c 40 = .ok (.getfield 63, 3) := by decide +kernel
theorem d_qm_matches_43 : decode qm_matches_c 43 = .ok (.iload 5, 2) := by decide +kernel
theorem d_qm_matches_45 : decode qm_matches_c 45 = .ok (.laload, 1) := by decide +kernel
theorem d_qm_matches_46 : decode qm_matches_c 46 = .ok (.lstore 8, 2) := by decide +kernel
theorem d_qm_matches_48 : decode qm_matches_c 48 = .ok (.lload 6, 2) := by decide +kernel
theorem d_qm_matches_50 : decode qm_matches_c 50 = .ok (.invokestatic 151, 3) := by decide +kernel
theorem d_qm_matches_53 : decode qm_matches_c 53 = .ok (.istore 10, 2) := by decide +kernel
theorem d_qm_matches_55 : decode qm_matches_c 55 = .ok (.iload 10, 2) := by decide +kernel
theorem d_qm_matches_57 : decode qm_matches_c 57 = .ok (.iconst 2, 1) := by decide +kernel
theorem d_qm_matches_58 : decode qm_matches_c 58 = .ok (.if_icmp .ne 42, 3) := by decide +kernel
theorem d_qm_matches_61 : decode qm_matches_c 61 = .ok (.aload_n 0, 1) := by decide +kernel
theorem d_qm_matches_62 : decode qm_matches_c 62 = .ok (.getfield 69, 3) := by decide +kernel
theorem d_qm_matches_65 : decode qm_matches_c 65 = .ok (.aload_n 0, 1) := by decide +kernel
theorem d_qm_matches_66 : decode qm_matches_c 66 = .ok (.getfield 248, 3) := by decide +kernel
theorem d_qm_matches_69 : decode qm_matches_c 69 = .ok (.aload_n 0, 1) := by decide +kernel
theorem d_qm_matches_70 : decode qm_matches_c 70 = .ok (.lload 6, 2) := by decide +kernel
theorem d_qm_matches_72 : decode qm_matches_c 72 = .ok (.invokevirtual 124, 3) := by decide +kernel
theorem d_qm_matches_75 : decode qm_matches_c 75 = .ok (.iastore, 1) := by decide +kernel
theorem d_qm_matches_76 : decode qm_matches_c 76 = .ok (.aload_n 0, 1) := by decide +kernel
theorem d_qm_matches_77 : decode qm_matches_c 77 = .ok (.getfield 72, 3) := by decide +kernel
theorem d_qm_matches_80 : decode qm_matches_c 80 = .ok (.aload_n 0, 1) := by decide +kernel
theorem d_qm_matches_81 : decode qm_matches_c 81 = .ok (.getfield 248, 3) := by decide +kernel
theorem d_qm_matches_84 : decode qm_matches_c 84 = .ok (.lload 8, 2) := by decide +kernel
theorem d_qm_matches_86 : decode qm_matches_c 86 = .ok (.lastore, 1) := by decide +kernel
theorem d_qm_matches_87 : decode qm_matches_c 87 = .ok (.aload_n 0, 1) := by decide +kernel
theorem d_qm_matches_88 : decode qm_matches_c 88 = .ok (.dup, 1) := by decide +kernel
theorem d_qm_matches_89 : decode qm_matches_c 89 = .ok (.getfield 248, 3) := by decide +kernel
theorem d_qm_matches_92 : decode qm_matches_c 92 = .ok (.iconst 1, 1) := by decide +kernel
theorem d_qm_matches_93 : decode qm_matches_c 93 = .ok (.iadd, 1) := by decide +kernel
theorem d_qm_matches_94 : decode qm_matches_c 94 = .ok (.putfield 248, 3) := by decide +kernel
theorem d_qm_matches_97 : decode qm_matches_c 97 = .ok (.goto 87, 3) := by decide +kernel
theorem d_qm_matches_100 : decode qm_matches_c 100 = .ok (.iload 10, 2) := by decide +kernel
theorem d_qm_matches_102 : decode qm_matches_c 102 = .ok (.bipush 8, 2) := by decide +kernel
theorem d_qm_matches_104 : decode qm_matches_c 104 = .ok (.if_icmp .eq 15, 3) := by decide +kernel
theorem d_qm_matches_107 : decode qm_matches_c 107 = .ok (.iload 10, 2) := by decide +kernel
theorem d_qm_matches_109 : decode qm_matches_c 109 = .ok (.lload 8, 2) := by decide +kernel
theorem d_qm_matches_111 : decode qm_matches_c 111 = .ok (.invokestatic 151, 3) := by decide +kernel
theorem d_qm_matches_114 : decode qm_matches_c 114 = .ok (.if_icmp .eq 5, 3) := by decide +kernel
theorem d_qm_matches_117 : decode qm_matches_c 117 = .ok (.iconst 0, 1) := by decide +kernel
theorem d_qm_matches_118 : decode qm_matches_c 118 = .ok (.ireturn, 1) := by decide +kernel
theorem d_qm_matches_119 : decode qm_matches_c 119 = .ok (.iload 10, 2) := by decide +kernel
theorem d_qm_matches_121 : decode qm_matches_c 121 = .ok (.iconst 4, 1) := by decide +kernel
theorem d_qm_matches_122 : decode qm_matches_c 122 = .ok (.if_icmp .ne 62, 3) := by decide +kernel
theorem d_qm_matches_125 : decode qm_matches_c 125 = .ok (.aload_n 0, 1) := by decide +kernel
theorem d_qm_matches_126 : decode qm_matches_c 126 = .ok (.getfield 60, 3) := by decide +kernel
theorem d_qm_matches_129 : decode qm_matches_c 129 = .ok (.iload 5, 2) := by decide +kernel
theorem d_qm_matches_131 : decode qm_matches_c 131 = .ok (.aload_n 0, 1) := by decide +kernel
theorem d_qm_matches_132 : decode qm_matches_c 132 = .ok (.lload 6, 2) := by decide +kernel
theorem d_qm_matches_134 : decode qm_matches_c 134 = .ok (.invokevirtual 154, 3) := by decide +kernel
theorem d_qm_matches_137 : decode qm_matches_c 137 = .ok (.lastore, 1) := by decide +kernel
theorem d_qm_matches_138 : decode qm_matches_c 138 = .ok (.aload_n 0, 1) := by decide +kernel
theorem d_qm_matches_139 : decode qm_matches_c 139 = .ok (.getfield 63, 3) := by decide +kernel
theorem d_qm_matches_142 : decode qm_matches_c 142 = .ok (.iload 5, 2) := by decide +kernel
theorem d_qm_matches_144 : decode qm_matches_c 144 = .ok (.aload_n 0, 1) := by decide +kernel
theorem d_qm_matches_145 : decode qm_matches_c 145 = .ok (.lload 8, 2) := by decide +kernel
theorem d_qm_matches_147 : decode qm_matches_c 147 = .ok (.invokevirtual 154, 3) := by decide +kernel
theorem d_qm_matches_150 : decode qm_matches_c 150 = .ok (.lastore, 1) := by decide +kernel
theorem d_qm_matches_151 : decode qm_matches_c 151 = .ok (.aload_n 0, 1) := by decide +kernel
theorem d_qm_matches_152 : decode qm_matches_c 152 = .ok (.getfield 60, 3) := by decide +kernel
theorem d_qm_matches_155 : decode qm_matches_c 155 = .ok (.iload 5, 2) := by decide +kernel
theorem d_qm_matches_157 : decode qm_matches_c 157 = .ok (.iconst 1, 1) := by decide +kernel
theorem d_qm_matches_158 : decode qm_matches_c 158 = .ok (.iadd, 1) := by decide +kernel
theorem d_qm_matches_159 : decode qm_matches_c 159 = .ok (.aload_n 0, 1) := by decide +kernel
theorem d_qm_matches_160 : decode qm_matches_c 160 = .ok (.lload 6, 2) := by decide +kernel
theorem d_qm_matches_162 : decode qm_matches_c 162 = .ok (.invokevirtual 157, 3) := by decide +kernel
theorem d_qm_matches_165 : decode qm_matches_c 165 = .ok (.lastore, 1) := by decide +kernel
theorem d_qm_matches_166 : decode qm_matches_c 166 = .ok (.aload_n 0, 1) := by decide +kernel
theorem d_qm_matches_167 : decode qm_matches_c 167 = .ok (.getfield 63, 3) := by decide +kernel
theorem d_qm_matches_170 : decode qm_matches_c 170 = .ok (.iload 5, 2) := by decide +kernel
theorem d_qm_matches_172 : decode qm_matches_c 172 = .ok (.iconst 1, 1) := by decide +kernel
theorem d_qm_matches_173 : decode qm_matches_c 173 = .ok (.iadd, 1) := by decide +kernel
theorem d_qm_matches_174 : decode qm_matches_c 174 = .ok (.aload_n 0, 1) := by decide +kernel
theorem d_qm_matches_175 : decode qm_matches_c 175 = .ok (.lload 8, 2) := by decide +kernel
theorem d_qm_matches_177 : decode qm_matches_c 177 = .ok (.invokevirtual 157, 3) := by decide +kernel
theorem d_qm_matches_180 : decode qm_matches_c 180 = .ok (.lastore, 1) := by decide +kernel
theorem d_qm_matches_181 : decode qm_matches_c 181 = .ok (.iinc 5 2, 3) := by decide +kernel
theorem d_qm_matches_184 : decode qm_matches_c 184 = .ok (.goto (-162), 3) := by decide +kernel
theorem d_qm_matches_187 : decode qm_matches_c 187 = .ok (.iconst 1, 1) := by decide +kernel
theorem d_qm_matches_188 : decode qm_matches_c 188 = .ok (.ireturn, 1) := by decide +kernel
theorem d_qm_combinesCompound_0 : decode qm_combinesCompound_c 0 = .ok (.aload_n 0, 1) := by decide +kernel
theorem d_qm_combinesCompound_1 : decode qm_combinesCompound_c 1 = .ok (.aload_n 0, 1) := by decide +kernel
theorem d_qm_combinesCompound_2 : decode qm_combinesCompound_c 2 = .ok (.getfield 203, 3) := by decide +kernel
theorem d_qm_combinesCompound_5 : decode qm_combinesCompound_c 5 = .ok (.invokevirtual 124, 3) := by decide +kernel
theorem d_qm_combinesCompound_8 : decode qm_combinesCompound_c 8 = .ok (.istore_n 1, 1) := by decide +kernel
theorem d_qm_combinesCompound_9 : decode qm_combinesCompound_c 9 = .ok (.aload_n 0, 1) := by decide +kernel
theorem d_qm_combinesCompound_10 : decode qm_combinesCompound_c 10 = .ok (.getfield 13, 3) := by decide +kernel
theorem d_qm_combinesCompound_13 : decode qm_combinesCompound_c 13 = .ok (.iload_n 1, 1) := by decide +kernel
theorem d_qm_combinesCompound_14 : decode qm_combinesCompound_c 14 = .ok (.laload, 1) := by decide +kernel
theorem d_qm_combinesCompound_15 : decode qm_combinesCompound_c 15 = .ok (.lstore_n 2, 1) := by decide +kernel
theorem d_qm_combinesCompound_16 : decode qm_combinesCompound_c 16 = .ok (.aload_n 0, 1) := by decide +kernel
theorem d_qm_combinesCompound_17 : decode qm_combinesCompound_c 17 = .ok (.aload_n 0, 1) := by decide +kernel
theorem d_qm_combinesCompound_18 : decode qm_combinesCompound_c 18 = .ok (.getfield 7, 3) := by decide +kernel
theorem d_qm_combinesCompound_21 : decode qm_combinesCompound_c 21 = .ok (.iload_n 1, 1) := by decide +kernel
theorem d_qm_combinesCompound_22 : decode qm_combinesCompound_c 22 = .ok (.laload, 1) := by decide +kernel
theorem d_qm_combinesCompound_23 : decode qm_combinesCompound_c 23 = .ok (.aload_n 0, 1) := by decide +kernel
theorem d_qm_combinesCompound_24 : decode qm_combinesCompound_c 24 = .ok (.getfield 223, 3) := by decide +kernel
theorem d_qm_combinesCompound_27 : decode qm_combinesCompound_c 27 = .ok (.invokevirtual 251, 3) := by decide +kernel
theorem d_qm_combinesCompound_30 : decode qm_combinesCompound_c 30 = .ok (.ifCond .ne 6, 3) := by decide +kernel
theorem d_qm_combinesCompound_33 : decode qm_combinesCompound_c 33 = .ok (.bipush (-8), 2) := by decide +kernel
theorem d_qm_combinesCompound_35 : decode qm_combinesCompound_c 35 = .ok (.ireturn, 1) := by decide +kernel
theorem d_qm_combinesCompound_36 : decode qm_combinesCompound_c 36 = .ok (.aload_n 0, 1) := by decide +kernel
theorem d_qm_combinesCompound_37 : decode qm_combinesCompound_c 37 = .ok (.invokevirtual 147, 3) := by decide +kernel
theorem d_qm_combinesCompound_40 : decode qm_combinesCompound_c 40 = .ok (.ifCond .eq 6, 3) := by decide +kernel
theorem d_qm_combinesCompound_43 : decode qm_combinesCompound_c 43 = .ok (.bipush (-5), 2) := by decide +kernel
theorem d_qm_combinesCompound_45 : decode qm_combinesCompound_c 45 = .ok (.ireturn, 1) := by decide +kernel
theorem d_qm_combinesCompound_46 : decode qm_combinesCompound_c 46 = .ok (.aload_n 0, 1) := by decide +kernel
theorem d_qm_combinesCompound_47 : decode qm_combinesCompound_c 47 = .ok (.aload_n 0, 1) := by decide +kernel
theorem d_qm_combinesCompound_48 : decode qm_combinesCompound_c 48 = .ok (.getfield 19, 3) := by decide +kernel
theorem d_qm_combinesCompound_51 : decode qm_combinesCompound_c 51 = .ok (.iload_n 1, 1) := by decide +kernel
theorem d_qm_combinesCompound_52 : decode qm_combinesCompound_c 52 = .ok (.laload, 1) := by decide +kernel
theorem d_qm_combinesCompound_53 : decode qm_combinesCompound_c 53 = .ok (.invokevirtual 255, 3) := by decide +kernel
theorem d_qm_combinesCompound_56 : decode qm_combinesCompound_c 56 = .ok (.lstore 4, 2) := by decide +kernel
theorem d_qm_combinesCompound_58 : decode qm_combinesCompound_c 58 = .ok (.iconst 0, 1) := by decide +kernel
theorem d_qm_combinesCompound_59 : decode qm_combinesCompound_c 59 = .ok (.istore 6, 2) := by decide +kernel
theorem d_qm_combinesCompound_61 : decode qm_combinesCompound_c 61 = .ok (.iload 6, 2) := by decide +kernel
theorem d_qm_combinesCompound_63 : decode qm_combinesCompound_c 63 = .ok (.aload_n 0, 1) := by decide +kernel
theorem d_qm_combinesCompound_64 : decode qm_combinesCompound_c 64 = .ok (.getfield 248, 3) := by decide +kernel
theorem d_qm_combinesCompound_67 : decode qm_combinesCompound_c 67 = .ok (.if_icmp .ge 35, 3) := by decide +kernel
theorem d_qm_combinesCompound_70 : decode qm_combinesCompound_c 70 = .ok (.aload_n 0, 1) := by decide +kernel
theorem d_qm_combinesCompound_71 : decode qm_combinesCompound_c 71 = .ok (.lload 4, 2) := by decide +kernel
theorem d_qm_combinesCompound_73 : decode qm_combinesCompound_c 73 = .ok (.aload_n 0, 1) := by decide +kernel
theorem d_qm_combinesCompound_74 : decode qm_combinesCompound_c 74 = .ok (.getfield 69, 3) := by decide +kernel
theorem d_qm_combinesCompound_77 : decode qm_combinesCompound_c 77 = .ok (.iload 6, 2) := by decide +kernel
theorem d_qm_combinesCompound_79 : decode qm_combinesCompound_c 79 = .ok (.iaload, 1) := by decide +kernel
theorem d_qm_combinesCompound_80 : decode qm_combinesCompound_c 80 = .ok (.aload_n 0, 1) := by decide +kernel
theorem d_qm_combinesCompound_81 : decode qm_combinesCompound_c 81 = .ok (.getfield 72, 3) := by decide +kernel
theorem d_qm_combinesCompound_84 : decode qm_combinesCompound_c 84 = .ok (.iload 6, 2) := by decide +kernel
theorem d_qm_combinesCompound_86 : decode qm_combinesCompound_c 86 = .ok (.laload, 1) := by decide +kernel
theorem d_qm_combinesCompound_87 : decode qm_combinesCompound_c 87 = .ok (.invokevirtual 233, 3) := by decide +kernel
theorem d_qm_combinesCompound_90 : decode qm_combinesCompound_c 90 = .ok (.ifCond .ne 6, 3) := by decide +kernel
theorem d_qm_combinesCompound_93 : decode qm_combinesCompound_c 93 = .ok (.bipush (-5), 2) := by decide +kernel
theorem d_qm_combinesCompound_95 : decode qm_combinesCompound_c 95 = .ok (.ireturn, 1) := by decide +kernel
theorem d_qm_combinesCompound_96 : decode qm_combinesCompound_c 96 = .ok (.iinc 6 1, 3) := by decide +kernel
theorem d_qm_combinesCompound_99 : decode qm_combinesCompound_c 99 = .ok (.goto (-38), 3) := by decide +kernel
theorem d_qm_combinesCompound_102 : decode qm_combinesCompound_c 102 = .ok (.lload_n 2, 1) := by decide +kernel
theorem d_qm_combinesCompound_103 : decode qm_combinesCompound_c 103 = .ok (.invokestatic 151, 3) := by decide +kernel
theorem d_qm_combinesCompound_106 : decode qm_combinesCompound_c 106 = .ok (.iconst 2, 1) := by decide +kernel
theorem d_qm_combinesCompound_107 : decode qm_combinesCompound_c 107 = .ok (.if_icmp .ne 24, 3) := by decide +kernel
theorem d_qm_combinesCompound_110 : decode qm_combinesCompound_c 110 = .ok (.aload_n 0, 1) := by decide +kernel
theorem d_qm_combinesCompound_111 : decode qm_combinesCompound_c 111 = .ok (.lload 4, 2) := by decide +kernel
theorem d_qm_combinesCompound_113 : decode qm_combinesCompound_c 113 = .ok (.aload_n 0, 1) := by decide +kernel
theorem d_qm_combinesCompound_114 : decode qm_combinesCompound_c 114 = .ok (.lload_n 2, 1) := by decide +kernel
theorem d_qm_combinesCompound_115 : decode qm_combinesCompound_c 115 = .ok (.invokevirtual 124, 3) := by decide +kernel
theorem d_qm_combinesCompound_118 : decode qm_combinesCompound_c 118 = .ok (.aload_n 0, 1) := by decide +kernel
theorem d_qm_combinesCompound_119 : decode qm_combinesCompound_c 119 = .ok (.getfield 206, 3) := by decide +kernel
theorem d_qm_combinesCompound_122 : decode qm_combinesCompound_c 122 = .ok (.invokevirtual 233, 3) := by decide +kernel
theorem d_qm_combinesCompound_125 : decode qm_combinesCompound_c 125 = .ok (.ifCond .ne 6, 3) := by decide +kernel
theorem d_qm_combinesCompound_128 : decode qm_combinesCompound_c 128 = .ok (.bipush (-5), 2) := by decide +kernel
theorem d_qm_combinesCompound_130 : decode qm_combinesCompound_c 130 = .ok (.ireturn, 1) := by decide +kernel
theorem d_qm_combinesCompound_131 : decode qm_combinesCompound_c 131 = .ok (.aload_n 0, 1) := by decide +kernel
theorem d_qm_combinesCompound_132 : decode qm_combinesCompound_c 132 = .ok (.aload_n 0, 1) := by decide +kernel
theorem d_qm_combinesCompound_133 : decode qm_combinesCompound_c 133 = .ok (.getfield 16, 3) := by decide +kernel
theorem d_qm_combinesCompound_136 : decode qm_combinesCompound_c 136 = .ok (.iload_n 1, 1) := by decide +kernel
theorem d_qm_combinesCompound_137 : decode qm_combinesCompound_c 137 = .ok (.laload, 1) := by decide +kernel
theorem d_qm_combinesCompound_138 : decode qm_combinesCompound_c 138 = .ok (.lload 4, 2) := by decide +kernel
theorem d_qm_combinesCompound_140 : decode qm_combinesCompound_c 140 = .ok (.invokevirtual 212, 3) := by decide +kernel
theorem d_qm_combinesCompound_143 : decode qm_combinesCompound_c 143 = .ok (.ireturn, 1) := by decide +kernel
theorem d_qm_makesOperative_0 : decode qm_makesOperative_c 0 = .ok (.aload_n 0, 1) := by decide +kernel
theorem d_qm_makesOperative_1 : decode qm_makesOperative_c 1 = .ok (.lload_n 1, 1) := by decide +kernel
theorem d_qm_makesOperative_2 : decode qm_makesOperative_c 2 = .ok (.invokevirtual 258, 3) := by decide +kernel
theorem d_qm_makesOperative_5 : decode qm_makesOperative_c 5 = .ok (.ifCond .eq 33, 3) := by decide +kernel
theorem d_qm_makesOperative_8 : decode qm_makesOperative_c 8 = .ok (.lload_n 3, 1) := by decide +kernel
theorem d_qm_makesOperative_9 : decode qm_makesOperative_c 9 = .ok (.invokestatic 151, 3) := by decide +kernel
theorem d_qm_makesOperative_12 : decode qm_makesOperative_c 12 = .ok (.bipush 8, 2) := by decide +kernel
theorem d_qm_makesOperative_14 : decode qm_makesOperative_c 14 = .ok (.if_icmp .eq 27, 3) := by decide +kernel
theorem d_qm_makesOperative_17 : decode qm_makesOperative_c 17 = .ok (.lload_n 3, 1) := by decide +kernel
theorem d_qm_makesOperative_18 : decode qm_makesOperative_c 18 = .ok (.invokestatic 151, 3) := by decide +kernel
theorem d_qm_makesOperative_21 : decode qm_makesOperative_c 21 = .ok (.iconst 2, 1) := by decide +kernel
theorem d_qm_makesOperative_22 : decode qm_makesOperative_c 22 = .ok (.if_icmp .ne 16, 3) := by decide +kernel
theorem d_qm_makesOperative_25 : decode qm_makesOperative_c 25 = .ok (.aload_n 0, 1) := by decide +kernel
theorem d_qm_makesOperative_26 : decode qm_makesOperative_c 26 = .ok (.getfield 66, 3) := by decide +kernel
theorem d_qm_makesOperative_29 : decode qm_makesOperative_c 29 = .ok (.aload_n 0, 1) := by decide +kernel
theorem d_qm_makesOperative_30 : decode qm_makesOperative_c 30 = .ok (.lload_n 3, 1) := by decide +kernel
theorem d_qm_makesOperative_31 : decode qm_makesOperative_c 31 = .ok (.invokevirtual 124, 3) := by decide +kernel
theorem d_qm_makesOperative_34 : decode qm_makesOperative_c 34 = .ok (.baload, 1) := by decide +kernel
theorem d_qm_makesOperative_35 : decode qm_makesOperative_c 35 = .ok (.ifCond .eq 6, 3) := by decide +kernel
theorem d_qm_makesOperative_38 : decode qm_makesOperative_c 38 = .ok (.bipush (-8), 2) := by decide +kernel
theorem d_qm_makesOperative_40 : decode qm_makesOperative_c 40 = .ok (.ireturn, 1) := by decide +kernel
theorem d_qm_makesOperative_41 : decode qm_makesOperative_c 41 = .ok (.aload_n 0, 1) := by decide +kernel
theorem d_qm_makesOperative_42 : decode qm_makesOperative_c 42 = .ok (.invokevirtual 147, 3) := by decide +kernel
theorem d_qm_makesOperative_45 : decode qm_makesOperative_c 45 = .ok (.ifCond .eq 6, 3) := by decide +kernel
theorem d_qm_makesOperative_48 : decode qm_makesOperative_c 48 = .ok (.bipush (-5), 2) := by decide +kernel
theorem d_qm_makesOperative_50 : decode qm_makesOperative_c 50 = .ok (.ireturn, 1) := by decide +kernel
theorem d_qm_makesOperative_51 : decode qm_makesOperative_c 51 = .ok (.aload_n 0, 1) := by decide +kernel
theorem d_qm_makesOperative_52 : decode qm_makesOperative_c 52 = .ok (.getfield 16, 3) := by decide +kernel
theorem d_qm_makesOperative_55 : decode qm_makesOperative_c 55 = .ok (.aload_n 0, 1) := by decide +kernel
theorem d_qm_makesOperative_56 : decode qm_makesOperative_c 56 = .ok (.getfield 88, 3) := by decide +kernel
theorem d_qm_makesOperative_59 : decode qm_makesOperative_c 59 = .ok (.lload 5, 2) := by decide +kernel
theorem d_qm_makesOperative_61 : decode qm_makesOperative_c 61 = .ok (.lastore, 1) := by decide +kernel
theorem d_qm_makesOperative_62 : decode qm_makesOperative_c 62 = .ok (.aload_n 0, 1) := by decide +kernel
theorem d_qm_makesOperative_63 : decode qm_makesOperative_c 63 = .ok (.getfield 19, 3) := by decide +kernel
theorem d_qm_makesOperative_66 : decode qm_makesOperative_c 66 = .ok (.aload_n 0, 1) := by decide +kernel
theorem d_qm_makesOperative_67 : decode qm_makesOperative_c 67 = .ok (.getfield 88, 3) := by decide +kernel
theorem d_qm_makesOperative_70 : decode qm_makesOperative_c 70 = .ok (.aload_n 0, 1) := by decide +kernel
theorem d_qm_makesOperative_71 : decode qm_makesOperative_c 71 = .ok (.getfield 206, 3) := by decide +kernel
theorem d_qm_makesOperative_74 : decode qm_makesOperative_c 74 = .ok (.lastore, 1) := by decide +kernel
theorem d_qm_makesOperative_75 : decode qm_makesOperative_c 75 = .ok (.aload_n 0, 1) := by decide +kernel
theorem d_qm_makesOperative_76 : decode qm_makesOperative_c 76 = .ok (.iconst 5, 1) := by decide +kernel
theorem d_qm_makesOperative_77 : decode qm_makesOperative_c 77 = .ok (.lload_n 1, 1) := by decide +kernel
theorem d_qm_makesOperative_78 : decode qm_makesOperative_c 78 = .ok (.lload_n 3, 1) := by decide +kernel
theorem d_qm_makesOperative_79 : decode qm_makesOperative_c 79 = .ok (.invokevirtual 130, 3) := by decide +kernel
theorem d_qm_makesOperative_82 : decode qm_makesOperative_c 82 = .ok (.lstore 8, 2) := by decide +kernel
theorem d_qm_makesOperative_84 : decode qm_makesOperative_c 84 = .ok (.iload 7, 2) := by decide +kernel
theorem d_qm_makesOperative_86 : decode qm_makesOperative_c 86 = .ok (.ifCond .eq 13, 3) := by decide +kernel
theorem d_qm_makesOperative_89 : decode qm_makesOperative_c 89 = .ok (.aload_n 0, 1) := by decide +kernel
theorem d_qm_makesOperative_90 : decode qm_makesOperative_c 90 = .ok (.invokevirtual 147, 3) := by decide +kernel
theorem d_qm_makesOperative_93 : decode qm_makesOperative_c 93 = .ok (.ifCond .eq 6, 3) := by decide +kernel
theorem d_qm_makesOperative_96 : decode qm_makesOperative_c 96 = .ok (.bipush (-5), 2) := by decide +kernel
theorem d_qm_makesOperative_98 : decode qm_makesOperative_c 98 = .ok (.ireturn, 1) := by decide +kernel
theorem d_qm_makesOperative_99 : decode qm_makesOperative_c 99 = .ok (.aload_n 0, 1) := by decide +kernel
theorem d_qm_makesOperative_100 : decode qm_makesOperative_c 100 = .ok (.iload 7, 2) := by decide +kernel
theorem d_qm_makesOperative_102 : decode qm_makesOperative_c 102 = .ok (.ifCond .eq 15, 3) := by decide +kernel
theorem d_qm_makesOperative_105 : decode qm_makesOperative_c 105 = .ok (.aload_n 0, 1) := by decide +kernel
theorem d_qm_makesOperative_106 : decode qm_makesOperative_c 106 = .ok (.bipush 6, 2) := by decide +kernel
theorem d_qm_makesOperative_108 : decode qm_makesOperative_c 108 = .ok (.lload 8, 2) := by decide +kernel
theorem d_qm_makesOperative_110 : decode qm_makesOperative_c 110 = .ok (.lconst 0, 1) := by decide +kernel
theorem d_qm_makesOperative_111 : decode qm_makesOperative_c 111 = .ok (.invokevirtual 130, 3) := by decide +kernel
theorem d_qm_makesOperative_114 : decode qm_makesOperative_c 114 = .ok (.goto 5, 3) := by decide +kernel
theorem d_qm_makesOperative_117 : decode qm_makesOperative_c 117 = .ok (.lload 8, 2) := by decide +kernel
theorem d_qm_makesOperative_119 : decode qm_makesOperative_c 119 = .ok (.invokevirtual 220, 3) := by decide +kernel
theorem d_qm_makesOperative_122 : decode qm_makesOperative_c 122 = .ok (.ireturn, 1) := by decide +kernel
theorem d_qm_isSymbol_0 : decode qm_isSymbol_c 0 = .ok (.lload_n 0, 1) := by decide +kernel
theorem d_qm_isSymbol_1 : decode qm_isSymbol_c 1 = .ok (.invokestatic 151, 3) := by decide +kernel
theorem d_qm_isSymbol_4 : decode qm_isSymbol_c 4 = .ok (.iconst 2, 1) := by decide +kernel
theorem d_qm_isSymbol_5 : decode qm_isSymbol_c 5 = .ok (.if_icmp .ne 7, 3) := by decide +kernel
theorem d_qm_isSymbol_8 : decode qm_isSymbol_c 8 = .ok (.iconst 1, 1) := by decide +kernel
theorem d_qm_isSymbol_9 : decode qm_isSymbol_c 9 = .ok (.goto 4, 3) := by decide +kernel
theorem d_qm_isSymbol_12 : decode qm_isSymbol_c 12 = .ok (.iconst 0, 1) := by decide +kernel
theorem d_qm_isSymbol_13 : decode qm_isSymbol_c 13 = .ok (.ireturn, 1) := by decide +kernel
theorem d_qm_combinesPart_0 : decode qm_combinesPart_c 0 = .ok (.iload_n 2, 1) := by decide +kernel
theorem d_qm_combinesPart_1 : decode qm_combinesPart_c 1 = .ok (.ifCond .le 15, 3) := by decide +kernel
theorem d_qm_combinesPart_4 : decode qm_combinesPart_c 4 = .ok (.aload_n 0, 1) := by decide +kernel
theorem d_qm_combinesPart_5 : decode qm_combinesPart_c 5 = .ok (.aload_n 0, 1) := by decide +kernel
theorem d_qm_combinesPart_6 : decode qm_combinesPart_c 6 = .ok (.getfield 223, 3) := by decide +kernel
theorem d_qm_combinesPart_9 : decode qm_combinesPart_c 9 = .ok (.iconst 0, 1) := by decide +kernel
theorem d_qm_combinesPart_10 : decode qm_combinesPart_c 10 = .ok (.invokevirtual 262, 3) := by decide +kernel
theorem d_qm_combinesPart_13 : decode qm_combinesPart_c 13 = .ok (.goto 4, 3) := by decide +kernel
theorem d_qm_combinesPart_16 : decode qm_combinesPart_c 16 = .ok (.lconst 0, 1) := by decide +kernel
theorem d_qm_combinesPart_17 : decode qm_combinesPart_c 17 = .ok (.lstore_n 3, 1) := by decide +kernel
theorem d_qm_combinesPart_18 : decode qm_combinesPart_c 18 = .ok (.iload_n 2, 1) := by decide +kernel
theorem d_qm_combinesPart_19 : decode qm_combinesPart_c 19 = .ok (.iconst 1, 1) := by decide +kernel
theorem d_qm_combinesPart_20 : decode qm_combinesPart_c 20 = .ok (.if_icmp .le 15, 3) := by decide +kernel
theorem d_qm_combinesPart_23 : decode qm_combinesPart_c 23 = .ok (.aload_n 0, 1) := by decide +kernel
theorem d_qm_combinesPart_24 : decode qm_combinesPart_c 24 = .ok (.aload_n 0, 1) := by decide +kernel
theorem d_qm_combinesPart_25 : decode qm_combinesPart_c 25 = .ok (.getfield 223, 3) := by decide +kernel
theorem d_qm_combinesPart_28 : decode qm_combinesPart_c 28 = .ok (.iconst 1, 1) := by decide +kernel
theorem d_qm_combinesPart_29 : decode qm_combinesPart_c 29 = .ok (.invokevirtual 262, 3) := by decide +kernel
theorem d_qm_combinesPart_32 : decode qm_combinesPart_c 32 = .ok (.goto 4, 3) := by decide +kernel
theorem d_qm_combinesPart_35 : decode qm_combinesPart_c 35 = .ok (.lconst 0, 1) := by decide +kernel
theorem d_qm_combinesPart_36 : decode qm_combinesPart_c 36 = .ok (.lstore 5, 2) := by decide +kernel
theorem d_qm_combinesPart_38 : decode qm_combinesPart_c 38 = .ok (.iload_n 2, 1) := by decide +kernel
theorem d_qm_combinesPart_39 : decode qm_combinesPart_c 39 = .ok (.iconst 2, 1) := by decide +kernel
theorem d_qm_combinesPart_40 : decode qm_combinesPart_c 40 = .ok (.if_icmp .le 15, 3) := by decide +kernel
theorem d_qm_combinesPart_43 : decode qm_combinesPart_c 43 = .ok (.aload_n 0, 1) := by decide +kernel
theorem d_qm_combinesPart_44 : decode qm_combinesPart_c 44 = .ok (.aload_n 0, 1) := by decide +kernel
theorem d_qm_combinesPart_45 : decode qm_combinesPart_c 45 = .ok (.getfield 223, 3) := by decide +kernel
theorem d_qm_combinesPart_48 : decode qm_combinesPart_c 48 = .ok (.iconst 2, 1) := by decide +kernel
theorem d_qm_combinesPart_49 : decode qm_combinesPart_c 49 = .ok (.invokevirtual 262, 3) := by decide +kernel
theorem d_qm_combinesPart_52 : decode qm_combinesPart_c 52 = .ok (.goto 4, 3) := by decide +kernel
theorem d_qm_combinesPart_55 : decode qm_combinesPart_c 55 = .ok (.lconst 0, 1) := by decide +kernel
theorem d_qm_combinesPart_56 : decode qm_combinesPart_c 56 = .ok (.lstore 7, 2) := by decide +kernel
theorem d_qm_combinesPart_58 : decode qm_combinesPart_c 58 = .ok (.iload_n 1, 1) := by decide +kernel
theorem d_qm_combinesPart_59 : decode qm_combinesPart_c 59 = .ok (.tableswitch 213 0 6 #[41, 67, 88, 110, 146, 184, 197], 41) := by decide +kernel
theorem d_qm_combinesPart_100 : decode qm_combinesPart_c 100 = .ok (.iload_n 2, 1) := by decide +kernel
theorem d_qm_combinesPart_101 : decode qm_combinesPart_c 101 = .ok (.iconst 3, 1) := by decide +kernel
theorem d_qm_combinesPart_102 : decode qm_combinesPart_c 102 = .ok (.if_icmp .eq 8, 3) := by decide +kernel
theorem d_qm_combinesPart_105 : decode qm_combinesPart_c 105 = .ok (.bipush (-8), 2) := by decide +kernel
theorem d_qm_combinesPart_107 : decode qm_combinesPart_c 107 = .ok (.goto 18, 3) := by decide +kernel
theorem d_qm_combinesPart_110 : decode qm_combinesPart_c 110 = .ok (.aload_n 0, 1) := by decide +kernel
theorem d_qm_combinesPart_111 : decode qm_combinesPart_c 111 = .ok (.iconst 2, 1) := by decide +kernel
theorem d_qm_combinesPart_112 : decode qm_combinesPart_c 112 = .ok (.lload 5, 2) := by decide +kernel
theorem d_qm_combinesPart_114 : decode qm_combinesPart_c 114 = .ok (.lload 7, 2) := by decide +kernel
theorem d_qm_combinesPart_116 : decode qm_combinesPart_c 116 = .ok (.iconst 0, 1) := by decide +kernel
theorem d_qm_combinesPart_117 : decode qm_combinesPart_c 117 = .ok (.lload_n 3, 1) := by decide +kernel
theorem d_qm_combinesPart_118 : decode qm_combinesPart_c 118 = .ok (.aload_n 0, 1) := by decide +kernel
theorem d_qm_combinesPart_119 : decode qm_combinesPart_c 119 = .ok (.getfield 206, 3) := by decide +kernel
theorem d_qm_combinesPart_122 : decode qm_combinesPart_c 122 = .ok (.invokevirtual 216, 3) := by decide +kernel
theorem d_qm_combinesPart_125 : decode qm_combinesPart_c 125 = .ok (.ireturn, 1) := by decide +kernel
theorem d_qm_combinesPart_126 : decode qm_combinesPart_c 126 = .ok (.iload_n 2, 1) := by decide +kernel
theorem d_qm_combinesPart_127 : decode qm_combinesPart_c 127 = .ok (.iconst 3, 1) := by decide +kernel
theorem d_qm_combinesPart_128 : decode qm_combinesPart_c 128 = .ok (.if_icmp .eq 8, 3) := by decide +kernel
theorem d_qm_combinesPart_131 : decode qm_combinesPart_c 131 = .ok (.bipush (-8), 2) := by decide +kernel
theorem d_qm_combinesPart_133 : decode qm_combinesPart_c 133 = .ok (.goto 13, 3) := by decide +kernel
theorem d_qm_combinesPart_136 : decode qm_combinesPart_c 136 = .ok (.aload_n 0, 1) := by decide +kernel
theorem d_qm_combinesPart_137 : decode qm_combinesPart_c 137 = .ok (.lload_n 3, 1) := by decide +kernel
theorem d_qm_combinesPart_138 : decode qm_combinesPart_c 138 = .ok (.lload 5, 2) := by decide +kernel
theorem d_qm_combinesPart_140 : decode qm_combinesPart_c 140 = .ok (.lload 7, 2) := by decide +kernel
theorem d_qm_combinesPart_142 : decode qm_combinesPart_c 142 = .ok (.iconst 0, 1) := by decide +kernel
theorem d_qm_combinesPart_143 : decode qm_combinesPart_c 143 = .ok (.invokevirtual 266, 3) := by decide +kernel
theorem d_qm_combinesPart_146 : decode qm_combinesPart_c 146 = .ok (.ireturn, 1) := by decide +kernel
theorem d_qm_combinesPart_147 : decode qm_combinesPart_c 147 = .ok (.iload_n 2, 1) := by decide +kernel
theorem d_qm_combinesPart_148 : decode qm_combinesPart_c 148 = .ok (.iconst 2, 1) := by decide +kernel
theorem d_qm_combinesPart_149 : decode qm_combinesPart_c 149 = .ok (.if_icmp .eq 8, 3) := by decide +kernel
theorem d_qm_combinesPart_152 : decode qm_combinesPart_c 152 = .ok (.bipush (-8), 2) := by decide +kernel
theorem d_qm_combinesPart_154 : decode qm_combinesPart_c 154 = .ok (.goto 14, 3) := by decide +kernel
theorem d_qm_combinesPart_157 : decode qm_combinesPart_c 157 = .ok (.aload_n 0, 1) := by decide +kernel
theorem d_qm_combinesPart_158 : decode qm_combinesPart_c 158 = .ok (.lload_n 3, 1) := by decide +kernel
theorem d_qm_combinesPart_159 : decode qm_combinesPart_c 159 = .ok (.ldc2_w 173, 3) := by decide +kernel
theorem d_qm_combinesPart_162 : decode qm_combinesPart_c 162 = .ok (.lload 5, 2) := by decide +kernel
theorem d_qm_combinesPart_164 : decode qm_combinesPart_c 164 = .ok (.iconst 1, 1) := by decide +kernel
theorem d_qm_combinesPart_165 : decode qm_combinesPart_c 165 = .ok (.invokevirtual 266, 3) := by decide +kernel
theorem d_qm_combinesPart_168 : decode qm_combinesPart_c 168 = .ok (.ireturn, 1) := by decide +kernel
theorem d_qm_combinesPart_169 : decode qm_combinesPart_c 169 = .ok (.iload_n 2, 1) := by decide +kernel
theorem d_qm_combinesPart_170 : decode qm_combinesPart_c 170 = .ok (.iconst 2, 1) := by decide +kernel
theorem d_qm_combinesPart_171 : decode qm_combinesPart_c 171 = .ok (.if_icmp .ne 10, 3) := by decide +kernel
theorem d_qm_combinesPart_174 : decode qm_combinesPart_c 174 = .ok (.lload_n 3, 1) := by decide +kernel
theorem d_qm_combinesPart_175 : decode qm_combinesPart_c 175 = .ok (.invokestatic 270, 3) := by decide +kernel
theorem d_qm_combinesPart_178 : decode qm_combinesPart_c 178 = .ok (.ifCond .ne 8, 3) := by decide +kernel
theorem d_qm_combinesPart_181 : decode qm_combinesPart_c 181 = .ok (.bipush (-8), 2) := by decide +kernel
theorem d_qm_combinesPart_183 : decode qm_combinesPart_c 183 = .ok (.goto 21, 3) := by decide +kernel
theorem d_qm_combinesPart_186 : decode qm_combinesPart_c 186 = .ok (.aload_n 0, 1) := by decide +kernel
theorem d_qm_combinesPart_187 : decode qm_combinesPart_c 187 = .ok (.iconst 3, 1) := by decide +kernel
theorem d_qm_combinesPart_188 : decode qm_combinesPart_c 188 = .ok (.lconst 0, 1) := by decide +kernel
theorem d_qm_combinesPart_189 : decode qm_combinesPart_c 189 = .ok (.lconst 0, 1) := by decide +kernel
theorem d_qm_combinesPart_190 : decode qm_combinesPart_c 190 = .ok (.aload_n 0, 1) := by decide +kernel
theorem d_qm_combinesPart_191 : decode qm_combinesPart_c 191 = .ok (.lload_n 3, 1) := by decide +kernel
theorem d_qm_combinesPart_192 : decode qm_combinesPart_c 192 = .ok (.invokevirtual 124, 3) := by decide +kernel
theorem d_qm_combinesPart_195 : decode qm_combinesPart_c 195 = .ok (.lload 5, 2) := by decide +kernel
theorem d_qm_combinesPart_197 : decode qm_combinesPart_c 197 = .ok (.aload_n 0, 1) := by decide +kernel
theorem d_qm_combinesPart_198 : decode qm_combinesPart_c 198 = .ok (.getfield 206, 3) := by decide +kernel
theorem d_qm_combinesPart_201 : decode qm_combinesPart_c 201 = .ok (.invokevirtual 216, 3) := by decide +kernel
theorem d_qm_combinesPart_204 : decode qm_combinesPart_c 204 = .ok (.ireturn, 1) := by decide +kernel
theorem d_qm_combinesPart_205 : decode qm_combinesPart_c 205 = .ok (.iload_n 2, 1) := by decide +kernel
theorem d_qm_combinesPart_206 : decode qm_combinesPart_c 206 = .ok (.iconst 3, 1) := by decide +kernel
theorem d_qm_combinesPart_207 : decode qm_combinesPart_c 207 = .ok (.if_icmp .ne 11, 3) := by decide +kernel
theorem d_qm_combinesPart_210 : decode qm_combinesPart_c 210 = .ok (.lload 5, 2) := by decide +kernel
theorem d_qm_combinesPart_212 : decode qm_combinesPart_c 212 = .ok (.invokestatic 270, 3) := by decide +kernel
theorem d_qm_combinesPart_215 : decode qm_combinesPart_c 215 = .ok (.ifCond .ne 8, 3) := by decide +kernel
theorem d_qm_combinesPart_218 : decode qm_combinesPart_c 218 = .ok (.bipush (-8), 2) := by decide +kernel
theorem d_qm_combinesPart_220 : decode qm_combinesPart_c 220 = .ok (.goto 22, 3) := by decide +kernel
theorem d_qm_combinesPart_223 : decode qm_combinesPart_c 223 = .ok (.aload_n 0, 1) := by decide +kernel
theorem d_qm_combinesPart_224 : decode qm_combinesPart_c 224 = .ok (.iconst 4, 1) := by decide +kernel
theorem d_qm_combinesPart_225 : decode qm_combinesPart_c 225 = .ok (.lload 7, 2) := by decide +kernel
theorem d_qm_combinesPart_227 : decode qm_combinesPart_c 227 = .ok (.lconst 0, 1) := by decide +kernel
theorem d_qm_combinesPart_228 : decode qm_combinesPart_c 228 = .ok (.aload_n 0, 1) := by decide +kernel
theorem d_qm_combinesPart_229 : decode qm_combinesPart_c 229 = .ok (.lload 5, 2) := by decide +kernel
theorem d_qm_combinesPart_231 : decode qm_combinesPart_c 231 = .ok (.invokevirtual 124, 3) := by decide +kernel
theorem d_qm_combinesPart_234 : decode qm_combinesPart_c 234 = .ok (.lload_n 3, 1) := by decide +kernel
theorem d_qm_combinesPart_235 : decode qm_combinesPart_c 235 = .ok (.aload_n 0, 1) := by decide +kernel
theorem d_qm_combinesPart_236 : decode qm_combinesPart_c 236 = .ok (.getfield 206, 3) := by decide +kernel
theorem d_qm_combinesPart_239 : decode qm_combinesPart_c 239 = .ok (.invokevirtual 216, 3) := by decide +kernel
theorem d_qm_combinesPart_242 : decode qm_combinesPart_c 242 = .ok (.ireturn, 1) := by decide +kernel
theorem d_qm_combinesPart_243 : decode qm_combinesPart_c 243 = .ok (.aload_n 0, 1) := by decide +kernel
theorem d_qm_combinesPart_244 : decode qm_combinesPart_c 244 = .ok (.aload_n 0, 1) := by decide +kernel
theorem d_qm_combinesPart_245 : decode qm_combinesPart_c 245 = .ok (.getfield 223, 3) := by decide +kernel
theorem d_qm_combinesPart_248 : decode qm_combinesPart_c 248 = .ok (.aload_n 0, 1) := by decide +kernel
theorem d_qm_combinesPart_249 : decode qm_combinesPart_c 249 = .ok (.getfield 206, 3) := by decide +kernel
theorem d_qm_combinesPart_252 : decode qm_combinesPart_c 252 = .ok (.invokevirtual 245, 3) := by decide +kernel
theorem d_qm_combinesPart_255 : decode qm_combinesPart_c 255 = .ok (.ireturn, 1) := by decide +kernel
theorem d_qm_combinesPart_256 : decode qm_combinesPart_c 256 = .ok (.iload_n 2, 1) := by decide +kernel
theorem d_qm_combinesPart_257 : decode qm_combinesPart_c 257 = .ok (.iconst 1, 1) := by decide +kernel
theorem d_qm_combinesPart_258 : decode qm_combinesPart_c 258 = .ok (.if_icmp .eq 8, 3) := by decide +kernel
theorem d_qm_combinesPart_261 : decode qm_combinesPart_c 261 = .ok (.bipush (-8), 2) := by decide +kernel
theorem d_qm_combinesPart_263 : decode qm_combinesPart_c 263 = .ok (.goto 8, 3) := by decide +kernel
theorem d_qm_combinesPart_266 : decode qm_combinesPart_c 266 = .ok (.aload_n 0, 1) := by decide +kernel
theorem d_qm_combinesPart_267 : decode qm_combinesPart_c 267 = .ok (.lload_n 3, 1) := by decide +kernel
theorem d_qm_combinesPart_268 : decode qm_combinesPart_c 268 = .ok (.invokevirtual 220, 3) := by decide +kernel
theorem d_qm_combinesPart_271 : decode qm_combinesPart_c 271 = .ok (.ireturn, 1) := by decide +kernel
theorem d_qm_combinesPart_272 : decode qm_combinesPart_c 272 = .ok (.iload_n 2, 1) := by decide +kernel
theorem d_qm_combinesPart_273 : decode qm_combinesPart_c 273 = .ok (.ifCond .eq 8, 3) := by decide +kernel
theorem d_qm_combinesPart_276 : decode qm_combinesPart_c 276 = .ok (.bipush (-8), 2) := by decide +kernel
theorem d_qm_combinesPart_278 : decode qm_combinesPart_c 278 = .ok (.goto 11, 3) := by decide +kernel
theorem d_qm_combinesPart_281 : decode qm_combinesPart_c 281 = .ok (.aload_n 0, 1) := by decide +kernel
theorem d_qm_combinesPart_282 : decode qm_combinesPart_c 282 = .ok (.aload_n 0, 1) := by decide +kernel
theorem d_qm_combinesPart_283 : decode qm_combinesPart_c 283 = .ok (.getfield 206, 3) := by decide +kernel
theorem d_qm_combinesPart_286 : decode qm_combinesPart_c 286 = .ok (.invokevirtual 220, 3) := by decide +kernel
theorem d_qm_combinesPart_289 : decode qm_combinesPart_c 289 = .ok (.ireturn, 1) := by decide +kernel
theorem d_qm_isIn_0 : decode qm_isIn_c 0 = .ok (.lload_n 0, 1) := by decide +kernel
theorem d_qm_isIn_1 : decode qm_isIn_c 1 = .ok (.ldc2_w 160, 3) := by decide +kernel
theorem d_qm_isIn_4 : decode qm_isIn_c 4 = .ok (.ldc2_w 162, 3) := by decide +kernel
theorem d_qm_isIn_7 : decode qm_isIn_c 7 = .ok (.invokestatic 114, 3) := by decide +kernel
theorem d_qm_isIn_10 : decode qm_isIn_c 10 = .ok (.ireturn, 1) := by decide +kernel
theorem d_qm_times_0 : decode qm_times_c 0 = .ok (.lload_n 0, 1) := by decide +kernel
theorem d_qm_times_1 : decode qm_times_c 1 = .ok (.lconst 0, 1) := by decide +kernel
theorem d_qm_times_2 : decode qm_times_c 2 = .ok (.lcmp, 1) := by decide +kernel
theorem d_qm_times_3 : decode qm_times_c 3 = .ok (.ifCond .ge 8, 3) := by decide +kernel
theorem d_qm_times_6 : decode qm_times_c 6 = .ok (.lload_n 0, 1) := by decide +kernel
theorem d_qm_times_7 : decode qm_times_c 7 = .ok (.lneg, 1) := by decide +kernel
theorem d_qm_times_8 : decode qm_times_c 8 = .ok (.goto 4, 3) := by decide +kernel
theorem d_qm_times_11 : decode qm_times_c 11 = .ok (.lload_n 0, 1) := by decide +kernel
theorem d_qm_times_12 : decode qm_times_c 12 = .ok (.lstore 4, 2) := by decide +kernel
theorem d_qm_times_14 : decode qm_times_c 14 = .ok (.lload_n 2, 1) := by decide +kernel
theorem d_qm_times_15 : decode qm_times_c 15 = .ok (.lconst 0, 1) := by decide +kernel
theorem d_qm_times_16 : decode qm_times_c 16 = .ok (.lcmp, 1) := by decide +kernel
theorem d_qm_times_17 : decode qm_times_c 17 = .ok (.ifCond .ge 8, 3) := by decide +kernel
theorem d_qm_times_20 : decode qm_times_c 20 = .ok (.lload_n 2, 1) := by decide +kernel
theorem d_qm_times_21 : decode qm_times_c 21 = .ok (.lneg, 1) := by decide +kernel
theorem d_qm_times_22 : decode qm_times_c 22 = .ok (.goto 4, 3) := by decide +kernel
theorem d_qm_times_25 : decode qm_times_c 25 = .ok (.lload_n 2, 1) := by decide +kernel
theorem d_qm_times_26 : decode qm_times_c 26 = .ok (.lstore 6, 2) := by decide +kernel
theorem d_qm_times_28 : decode qm_times_c 28 = .ok (.lload 6, 2) := by decide +kernel
theorem d_qm_times_30 : decode qm_times_c 30 = .ok (.lconst 0, 1) := by decide +kernel
theorem d_qm_times_31 : decode qm_times_c 31 = .ok (.lcmp, 1) := by decide +kernel
theorem d_qm_times_32 : decode qm_times_c 32 = .ok (.ifCond .le 21, 3) := by decide +kernel
theorem d_qm_times_35 : decode qm_times_c 35 = .ok (.lload 4, 2) := by decide +kernel
theorem d_qm_times_37 : decode qm_times_c 37 = .ok (.ldc2_w 162, 3) := by decide +kernel
theorem d_qm_times_40 : decode qm_times_c 40 = .ok (.lload 6, 2) := by decide +kernel
theorem d_qm_times_42 : decode qm_times_c 42 = .ok (.ldiv, 1) := by decide +kernel
theorem d_qm_times_43 : decode qm_times_c 43 = .ok (.lcmp, 1) := by decide +kernel
theorem d_qm_times_44 : decode qm_times_c 44 = .ok (.ifCond .le 9, 3) := by decide +kernel
theorem d_qm_times_47 : decode qm_times_c 47 = .ok (.ldc2_w 273, 3) := by decide +kernel
theorem d_qm_times_50 : decode qm_times_c 50 = .ok (.goto 6, 3) := by decide +kernel
theorem d_qm_times_53 : decode qm_times_c 53 = .ok (.lload_n 0, 1) := by decide +kernel
theorem d_qm_times_54 : decode qm_times_c 54 = .ok (.lload_n 2, 1) := by decide +kernel
theorem d_qm_times_55 : decode qm_times_c 55 = .ok (.lmul, 1) := by decide +kernel
theorem d_qm_times_56 : decode qm_times_c 56 = .ok (.lreturn, 1) := by decide +kernel
theorem d_qm_reckons_0 : decode qm_reckons_c 0 = .ok (.aload_n 0, 1) := by decide +kernel
theorem d_qm_reckons_1 : decode qm_reckons_c 1 = .ok (.getfield 223, 3) := by decide +kernel
theorem d_qm_reckons_4 : decode qm_reckons_c 4 = .ok (.lstore_n 2, 1) := by decide +kernel
theorem d_qm_reckons_5 : decode qm_reckons_c 5 = .ok (.lload_n 2, 1) := by decide +kernel
theorem d_qm_reckons_6 : decode qm_reckons_c 6 = .ok (.invokestatic 151, 3) := by decide +kernel
theorem d_qm_reckons_9 : decode qm_reckons_c 9 = .ok (.iconst 4, 1) := by decide +kernel
theorem d_qm_reckons_10 : decode qm_reckons_c 10 = .ok (.if_icmp .ne 26, 3) := by decide +kernel
theorem d_qm_reckons_13 : decode qm_reckons_c 13 = .ok (.aload_n 0, 1) := by decide +kernel
theorem d_qm_reckons_14 : decode qm_reckons_c 14 = .ok (.lload_n 2, 1) := by decide +kernel
theorem d_qm_reckons_15 : decode qm_reckons_c 15 = .ok (.invokevirtual 157, 3) := by decide +kernel
theorem d_qm_reckons_18 : decode qm_reckons_c 18 = .ok (.invokestatic 151, 3) := by decide +kernel
theorem d_qm_reckons_21 : decode qm_reckons_c 21 = .ok (.ifCond .eq 6, 3) := by decide +kernel
theorem d_qm_reckons_24 : decode qm_reckons_c 24 = .ok (.bipush (-8), 2) := by decide +kernel
theorem d_qm_reckons_26 : decode qm_reckons_c 26 = .ok (.ireturn, 1) := by decide +kernel
theorem d_qm_reckons_27 : decode qm_reckons_c 27 = .ok (.aload_n 0, 1) := by decide +kernel
theorem d_qm_reckons_28 : decode qm_reckons_c 28 = .ok (.lload_n 2, 1) := by decide +kernel
theorem d_qm_reckons_29 : decode qm_reckons_c 29 = .ok (.invokevirtual 154, 3) := by decide +kernel
theorem d_qm_reckons_32 : decode qm_reckons_c 32 = .ok (.lstore_n 2, 1) := by decide +kernel
theorem d_qm_reckons_33 : decode qm_reckons_c 33 = .ok (.goto (-28), 3) := by decide +kernel
theorem d_qm_reckons_36 : decode qm_reckons_c 36 = .ok (.iload_n 1, 1) := by decide +kernel
theorem d_qm_reckons_37 : decode qm_reckons_c 37 = .ok (.ifCond .eq 7, 3) := by decide +kernel
theorem d_qm_reckons_40 : decode qm_reckons_c 40 = .ok (.lconst 0, 1) := by decide +kernel
theorem d_qm_reckons_41 : decode qm_reckons_c 41 = .ok (.goto 4, 3) := by decide +kernel
theorem d_qm_reckons_44 : decode qm_reckons_c 44 = .ok (.lconst 1, 1) := by decide +kernel
theorem d_qm_reckons_45 : decode qm_reckons_c 45 = .ok (.lstore 4, 2) := by decide +kernel
theorem d_qm_reckons_47 : decode qm_reckons_c 47 = .ok (.aload_n 0, 1) := by decide +kernel
theorem d_qm_reckons_48 : decode qm_reckons_c 48 = .ok (.getfield 223, 3) := by decide +kernel
theorem d_qm_reckons_51 : decode qm_reckons_c 51 = .ok (.lstore_n 2, 1) := by decide +kernel
theorem d_qm_reckons_52 : decode qm_reckons_c 52 = .ok (.lload_n 2, 1) := by decide +kernel
theorem d_qm_reckons_53 : decode qm_reckons_c 53 = .ok (.invokestatic 151, 3) := by decide +kernel
theorem d_qm_reckons_56 : decode qm_reckons_c 56 = .ok (.iconst 4, 1) := by decide +kernel
theorem d_qm_reckons_57 : decode qm_reckons_c 57 = .ok (.if_icmp .ne 54, 3) := by decide +kernel
theorem d_qm_reckons_60 : decode qm_reckons_c 60 = .ok (.aload_n 0, 1) := by decide +kernel
theorem d_qm_reckons_61 : decode qm_reckons_c 61 = .ok (.lload_n 2, 1) := by decide +kernel
theorem d_qm_reckons_62 : decode qm_reckons_c 62 = .ok (.invokevirtual 157, 3) := by decide +kernel
theorem d_qm_reckons_65 : decode qm_reckons_c 65 = .ok (.invokestatic 120, 3) := by decide +kernel
theorem d_qm_reckons_68 : decode qm_reckons_c 68 = .ok (.lstore 6, 2) := by decide +kernel
theorem d_qm_reckons_70 : decode qm_reckons_c 70 = .ok (.iload_n 1, 1) := by decide +kernel
theorem d_qm_reckons_71 : decode qm_reckons_c 71 = .ok (.ifCond .eq 11, 3) := by decide +kernel
theorem d_qm_reckons_74 : decode qm_reckons_c 74 = .ok (.lload 4, 2) := by decide +kernel
theorem d_qm_reckons_76 : decode qm_reckons_c 76 = .ok (.lload 6, 2) := by decide +kernel
theorem d_qm_reckons_78 : decode qm_reckons_c 78 = .ok (.ladd, 1) := by decide +kernel
theorem d_qm_reckons_79 : decode qm_reckons_c 79 = .ok (.goto 10, 3) := by decide +kernel
theorem d_qm_reckons_82 : decode qm_reckons_c 82 = .ok (.lload 4, 2) := by decide +kernel
theorem d_qm_reckons_84 : decode qm_reckons_c 84 = .ok (.lload 6, 2) := by decide +kernel
theorem d_qm_reckons_86 : decode qm_reckons_c 86 = .ok (.invokestatic 275, 3) := by decide +kernel
theorem d_qm_reckons_89 : decode qm_reckons_c 89 = .ok (.lstore 4, 2) := by decide +kernel
theorem d_qm_reckons_91 : decode qm_reckons_c 91 = .ok (.lload 4, 2) := by decide +kernel
theorem d_qm_reckons_93 : decode qm_reckons_c 93 = .ok (.invokestatic 279, 3) := by decide +kernel
theorem d_qm_reckons_96 : decode qm_reckons_c 96 = .ok (.ifCond .ne 6, 3) := by decide +kernel
theorem d_qm_reckons_99 : decode qm_reckons_c 99 = .ok (.bipush (-9), 2) := by decide +kernel
theorem d_qm_reckons_101 : decode qm_reckons_c 101 = .ok (.ireturn, 1) := by decide +kernel
theorem d_qm_reckons_102 : decode qm_reckons_c 102 = .ok (.aload_n 0, 1) := by decide +kernel
theorem d_qm_reckons_103 : decode qm_reckons_c 103 = .ok (.lload_n 2, 1) := by decide +kernel
theorem d_qm_reckons_104 : decode qm_reckons_c 104 = .ok (.invokevirtual 154, 3) := by decide +kernel
theorem d_qm_reckons_107 : decode qm_reckons_c 107 = .ok (.lstore_n 2, 1) := by decide +kernel
theorem d_qm_reckons_108 : decode qm_reckons_c 108 = .ok (.goto (-56), 3) := by decide +kernel
theorem d_qm_reckons_111 : decode qm_reckons_c 111 = .ok (.aload_n 0, 1) := by decide +kernel
theorem d_qm_reckons_112 : decode qm_reckons_c 112 = .ok (.iconst 0, 1) := by decide +kernel
theorem d_qm_reckons_113 : decode qm_reckons_c 113 = .ok (.lload 4, 2) := by decide +kernel
theorem d_qm_reckons_115 : decode qm_reckons_c 115 = .ok (.invokestatic 84, 3) := by decide +kernel
theorem d_qm_reckons_118 : decode qm_reckons_c 118 = .ok (.invokevirtual 220, 3) := by decide +kernel
theorem d_qm_reckons_121 : decode qm_reckons_c 121 = .ok (.ireturn, 1) := by decide +kernel
theorem d_qm_creates_0 : decode qm_creates_c 0 = .ok (.aload_n 0, 1) := by decide +kernel
theorem d_qm_creates_1 : decode qm_creates_c 1 = .ok (.invokevirtual 147, 3) := by decide +kernel
theorem d_qm_creates_4 : decode qm_creates_c 4 = .ok (.ifCond .eq 8, 3) := by decide +kernel
theorem d_qm_creates_7 : decode qm_creates_c 7 = .ok (.bipush (-5), 2) := by decide +kernel
theorem d_qm_creates_9 : decode qm_creates_c 9 = .ok (.goto 15, 3) := by decide +kernel
theorem d_qm_creates_12 : decode qm_creates_c 12 = .ok (.aload_n 0, 1) := by decide +kernel
theorem d_qm_creates_13 : decode qm_creates_c 13 = .ok (.aload_n 0, 1) := by decide +kernel
theorem d_qm_creates_14 : decode qm_creates_c 14 = .ok (.iload_n 1, 1) := by decide +kernel
theorem d_qm_creates_15 : decode qm_creates_c 15 = .ok (.lload_n 2, 1) := by decide +kernel
theorem d_qm_creates_16 : decode qm_creates_c 16 = .ok (.lload 4, 2) := by decide +kernel
theorem d_qm_creates_18 : decode qm_creates_c 18 = .ok (.invokevirtual 130, 3) := by decide +kernel
theorem d_qm_creates_21 : decode qm_creates_c 21 = .ok (.invokevirtual 220, 3) := by decide +kernel
theorem d_qm_creates_24 : decode qm_creates_c 24 = .ok (.ireturn, 1) := by decide +kernel
theorem d_qm_combinesTwo_0 : decode qm_combinesTwo_c 0 = .ok (.lload_n 2, 1) := by decide +kernel
theorem d_qm_combinesTwo_1 : decode qm_combinesTwo_c 1 = .ok (.invokestatic 151, 3) := by decide +kernel
theorem d_qm_combinesTwo_4 : decode qm_combinesTwo_c 4 = .ok (.ifCond .ne 15, 3) := by decide +kernel
theorem d_qm_combinesTwo_7 : decode qm_combinesTwo_c 7 = .ok (.lload 4, 2) := by decide +kernel
theorem d_qm_combinesTwo_9 : decode qm_combinesTwo_c 9 = .ok (.invokestatic 151, 3) := by decide +kernel
theorem d_qm_combinesTwo_12 : decode qm_combinesTwo_c 12 = .ok (.ifCond .ne 7, 3) := by decide +kernel
theorem d_qm_combinesTwo_15 : decode qm_combinesTwo_c 15 = .ok (.iconst 1, 1) := by decide +kernel
theorem d_qm_combinesTwo_16 : decode qm_combinesTwo_c 16 = .ok (.goto 4, 3) := by decide +kernel
theorem d_qm_combinesTwo_19 : decode qm_combinesTwo_c 19 = .ok (.iconst 0, 1) := by decide +kernel
theorem d_qm_combinesTwo_20 : decode qm_combinesTwo_c 20 = .ok (.istore 6, 2) := by decide +kernel
theorem d_qm_combinesTwo_22 : decode qm_combinesTwo_c 22 = .ok (.iload 6, 2) := by decide +kernel
theorem d_qm_combinesTwo_24 : decode qm_combinesTwo_c 24 = .ok (.ifCond .eq 16, 3) := by decide +kernel
theorem d_qm_combinesTwo_27 : decode qm_combinesTwo_c 27 = .ok (.lload_n 2, 1) := by decide +kernel
theorem d_qm_combinesTwo_28 : decode qm_combinesTwo_c 28 = .ok (.invokestatic 120, 3) := by decide +kernel
theorem d_qm_combinesTwo_31 : decode qm_combinesTwo_c 31 = .ok (.lload 4, 2) := by decide +kernel
theorem d_qm_combinesTwo_33 : decode qm_combinesTwo_c 33 = .ok (.invokestatic 120, 3) := by decide +kernel
theorem d_qm_combinesTwo_36 : decode qm_combinesTwo_c 36 = .ok (.lsub, 1) := by decide +kernel
theorem d_qm_combinesTwo_37 : decode qm_combinesTwo_c 37 = .ok (.goto 4, 3) := by decide +kernel
theorem d_qm_combinesTwo_40 : decode qm_combinesTwo_c 40 = .ok (.lconst 0, 1) := by decide +kernel
theorem d_qm_combinesTwo_41 : decode qm_combinesTwo_c 41 = .ok (.lstore 7, 2) := by decide +kernel
theorem d_qm_combinesTwo_43 : decode qm_combinesTwo_c 43 = .ok (.iload_n 1, 1) := by decide +kernel
theorem d_qm_combinesTwo_44 : decode qm_combinesTwo_c 44 = .ok (.tableswitch 168 12 20 #[52, 86, 116, 136, 168, 168, 168, 168, 145], 52) := by decide +kernel
theorem d_qm_combinesTwo_96 : decode qm_combinesTwo_c 96 = .ok (.iload 6, 2) := by decide +kernel
theorem d_qm_combinesTwo_98 : decode qm_combinesTwo_c 98 = .ok (.ifCond .ne 8, 3) := by decide +kernel
theorem d_qm_combinesTwo_101 : decode qm_combinesTwo_c 101 = .ok (.bipush (-8), 2) := by decide +kernel
theorem d_qm_combinesTwo_103 : decode qm_combinesTwo_c 103 = .ok (.goto 26, 3) := by decide +kernel
theorem d_qm_combinesTwo_106 : decode qm_combinesTwo_c 106 = .ok (.lload 7, 2) := by decide +kernel
theorem d_qm_combinesTwo_108 : decode qm_combinesTwo_c 108 = .ok (.invokestatic 279, 3) := by decide +kernel
theorem d_qm_combinesTwo_111 : decode qm_combinesTwo_c 111 = .ok (.ifCond .eq 16, 3) := by decide +kernel
theorem d_qm_combinesTwo_114 : decode qm_combinesTwo_c 114 = .ok (.aload_n 0, 1) := by decide +kernel
theorem d_qm_combinesTwo_115 : decode qm_combinesTwo_c 115 = .ok (.iconst 0, 1) := by decide +kernel
theorem d_qm_combinesTwo_116 : decode qm_combinesTwo_c 116 = .ok (.lload 7, 2) := by decide +kernel
theorem d_qm_combinesTwo_118 : decode qm_combinesTwo_c 118 = .ok (.invokestatic 84, 3) := by decide +kernel
theorem d_qm_combinesTwo_121 : decode qm_combinesTwo_c 121 = .ok (.invokevirtual 220, 3) := by decide +kernel
theorem d_qm_combinesTwo_124 : decode qm_combinesTwo_c 124 = .ok (.goto 5, 3) := by decide +kernel
theorem d_qm_combinesTwo_127 : decode qm_combinesTwo_c 127 = .ok (.bipush (-9), 2) := by decide +kernel
theorem d_qm_combinesTwo_129 : decode qm_combinesTwo_c 129 = .ok (.ireturn, 1) := by decide +kernel
theorem d_qm_combinesTwo_130 : decode qm_combinesTwo_c 130 = .ok (.iload 6, 2) := by decide +kernel
theorem d_qm_combinesTwo_132 : decode qm_combinesTwo_c 132 = .ok (.ifCond .ne 8, 3) := by decide +kernel
theorem d_qm_combinesTwo_135 : decode qm_combinesTwo_c 135 = .ok (.bipush (-8), 2) := by decide +kernel
theorem d_qm_combinesTwo_137 : decode qm_combinesTwo_c 137 = .ok (.goto 22, 3) := by decide +kernel
theorem d_qm_combinesTwo_140 : decode qm_combinesTwo_c 140 = .ok (.aload_n 0, 1) := by decide +kernel
theorem d_qm_combinesTwo_141 : decode qm_combinesTwo_c 141 = .ok (.lload 7, 2) := by decide +kernel
theorem d_qm_combinesTwo_143 : decode qm_combinesTwo_c 143 = .ok (.lconst 0, 1) := by decide +kernel
theorem d_qm_combinesTwo_144 : decode qm_combinesTwo_c 144 = .ok (.lcmp, 1) := by decide +kernel
theorem d_qm_combinesTwo_145 : decode qm_combinesTwo_c 145 = .ok (.ifCond .ge 7, 3) := by decide +kernel
theorem d_qm_combinesTwo_148 : decode qm_combinesTwo_c 148 = .ok (.iconst 1, 1) := by decide +kernel
theorem d_qm_combinesTwo_149 : decode qm_combinesTwo_c 149 = .ok (.goto 4, 3) := by decide +kernel
theorem d_qm_combinesTwo_152 : decode qm_combinesTwo_c 152 = .ok (.iconst 0, 1) := by decide +kernel
theorem d_qm_combinesTwo_153 : decode qm_combinesTwo_c 153 = .ok (.invokestatic 167, 3) := by decide +kernel
theorem d_qm_combinesTwo_156 : decode qm_combinesTwo_c 156 = .ok (.invokevirtual 220, 3) := by decide +kernel
theorem d_qm_combinesTwo_159 : decode qm_combinesTwo_c 159 = .ok (.ireturn, 1) := by decide +kernel
theorem d_qm_combinesTwo_160 : decode qm_combinesTwo_c 160 = .ok (.aload_n 0, 1) := by decide +kernel
theorem d_qm_combinesTwo_161 : decode qm_combinesTwo_c 161 = .ok (.lload_n 2, 1) := by decide +kernel
theorem d_qm_combinesTwo_162 : decode qm_combinesTwo_c 162 = .ok (.lload 4, 2) := by decide +kernel
theorem d_qm_combinesTwo_164 : decode qm_combinesTwo_c 164 = .ok (.lcmp, 1) := by decide +kernel
theorem d_qm_combinesTwo_165 : decode qm_combinesTwo_c 165 = .ok (.ifCond .ne 7, 3) := by decide +kernel
theorem d_qm_combinesTwo_168 : decode qm_combinesTwo_c 168 = .ok (.iconst 1, 1) := by decide +kernel
theorem d_qm_combinesTwo_169 : decode qm_combinesTwo_c 169 = .ok (.goto 4, 3) := by decide +kernel
theorem d_qm_combinesTwo_172 : decode qm_combinesTwo_c 172 = .ok (.iconst 0, 1) := by decide +kernel
theorem d_qm_combinesTwo_173 : decode qm_combinesTwo_c 173 = .ok (.invokestatic 167, 3) := by decide +kernel
theorem d_qm_combinesTwo_176 : decode qm_combinesTwo_c 176 = .ok (.invokevirtual 220, 3) := by decide +kernel
theorem d_qm_combinesTwo_179 : decode qm_combinesTwo_c 179 = .ok (.ireturn, 1) := by decide +kernel
theorem d_qm_combinesTwo_180 : decode qm_combinesTwo_c 180 = .ok (.aload_n 0, 1) := by decide +kernel
theorem d_qm_combinesTwo_181 : decode qm_combinesTwo_c 181 = .ok (.iconst 4, 1) := by decide +kernel
theorem d_qm_combinesTwo_182 : decode qm_combinesTwo_c 182 = .ok (.lload_n 2, 1) := by decide +kernel
theorem d_qm_combinesTwo_183 : decode qm_combinesTwo_c 183 = .ok (.lload 4, 2) := by decide +kernel
theorem d_qm_combinesTwo_185 : decode qm_combinesTwo_c 185 = .ok (.invokevirtual 282, 3) := by decide +kernel
theorem d_qm_combinesTwo_188 : decode qm_combinesTwo_c 188 = .ok (.ireturn, 1) := by decide +kernel
theorem d_qm_combinesTwo_189 : decode qm_combinesTwo_c 189 = .ok (.lload 4, 2) := by decide +kernel
theorem d_qm_combinesTwo_191 : decode qm_combinesTwo_c 191 = .ok (.invokestatic 151, 3) := by decide +kernel
theorem d_qm_combinesTwo_194 : decode qm_combinesTwo_c 194 = .ok (.bipush 7, 2) := by decide +kernel
theorem d_qm_combinesTwo_196 : decode qm_combinesTwo_c 196 = .ok (.if_icmp .eq 8, 3) := by decide +kernel
theorem d_qm_combinesTwo_199 : decode qm_combinesTwo_c 199 = .ok (.bipush (-8), 2) := by decide +kernel
theorem d_qm_combinesTwo_201 : decode qm_combinesTwo_c 201 = .ok (.goto 10, 3) := by decide +kernel
theorem d_qm_combinesTwo_204 : decode qm_combinesTwo_c 204 = .ok (.aload_n 0, 1) := by decide +kernel
theorem d_qm_combinesTwo_205 : decode qm_combinesTwo_c 205 = .ok (.lload_n 2, 1) := by decide +kernel
theorem d_qm_combinesTwo_206 : decode qm_combinesTwo_c 206 = .ok (.lload 4, 2) := by decide +kernel
theorem d_qm_combinesTwo_208 : decode qm_combinesTwo_c 208 = .ok (.invokevirtual 212, 3) := by decide +kernel
theorem d_qm_combinesTwo_211 : decode qm_combinesTwo_c 211 = .ok (.ireturn, 1) := by decide +kernel
theorem d_qm_combinesTwo_212 : decode qm_combinesTwo_c 212 = .ok (.lload_n 2, 1) := by decide +kernel
theorem d_qm_combinesTwo_213 : decode qm_combinesTwo_c 213 = .ok (.invokestatic 151, 3) := by decide +kernel
theorem d_qm_combinesTwo_216 : decode qm_combinesTwo_c 216 = .ok (.bipush 6, 2) := by decide +kernel
theorem d_qm_combinesTwo_218 : decode qm_combinesTwo_c 218 = .ok (.if_icmp .eq 6, 3) := by decide +kernel
theorem d_qm_combinesTwo_221 : decode qm_combinesTwo_c 221 = .ok (.bipush (-8), 2) := by decide +kernel
theorem d_qm_combinesTwo_223 : decode qm_combinesTwo_c 223 = .ok (.ireturn, 1) := by decide +kernel
theorem d_qm_combinesTwo_224 : decode qm_combinesTwo_c 224 = .ok (.aload_n 0, 1) := by decide +kernel
theorem d_qm_combinesTwo_225 : decode qm_combinesTwo_c 225 = .ok (.invokevirtual 147, 3) := by decide +kernel
theorem d_qm_combinesTwo_228 : decode qm_combinesTwo_c 228 = .ok (.ifCond .eq 8, 3) := by decide +kernel
theorem d_qm_combinesTwo_231 : decode qm_combinesTwo_c 231 = .ok (.bipush (-5), 2) := by decide +kernel
theorem d_qm_combinesTwo_233 : decode qm_combinesTwo_c 233 = .ok (.goto 21, 3) := by decide +kernel
theorem d_qm_combinesTwo_236 : decode qm_combinesTwo_c 236 = .ok (.aload_n 0, 1) := by decide +kernel
theorem d_qm_combinesTwo_237 : decode qm_combinesTwo_c 237 = .ok (.aload_n 0, 1) := by decide +kernel
theorem d_qm_combinesTwo_238 : decode qm_combinesTwo_c 238 = .ok (.lload_n 2, 1) := by decide +kernel
theorem d_qm_combinesTwo_239 : decode qm_combinesTwo_c 239 = .ok (.invokevirtual 185, 3) := by decide +kernel
theorem d_qm_combinesTwo_242 : decode qm_combinesTwo_c 242 = .ok (.lload 4, 2) := by decide +kernel
theorem d_qm_combinesTwo_244 : decode qm_combinesTwo_c 244 = .ok (.aload_n 0, 1) := by decide +kernel
theorem d_qm_combinesTwo_245 : decode qm_combinesTwo_c 245 = .ok (.ldc2_w 118, 3) := by decide +kernel
theorem d_qm_combinesTwo_248 : decode qm_combinesTwo_c 248 = .ok (.invokevirtual 255, 3) := by decide +kernel
theorem d_qm_combinesTwo_251 : decode qm_combinesTwo_c 251 = .ok (.invokevirtual 229, 3) := by decide +kernel
theorem d_qm_combinesTwo_254 : decode qm_combinesTwo_c 254 = .ok (.ireturn, 1) := by decide +kernel
theorem d_qm_combinesSingle_0 : decode qm_combinesSingle_c 0 = .ok (.lload_n 2, 1) := by decide +kernel
theorem d_qm_combinesSingle_1 : decode qm_combinesSingle_c 1 = .ok (.invokestatic 151, 3) := by decide +kernel
theorem d_qm_combinesSingle_4 : decode qm_combinesSingle_c 4 = .ok (.istore 4, 2) := by decide +kernel
theorem d_qm_combinesSingle_6 : decode qm_combinesSingle_c 6 = .ok (.iload_n 1, 1) := by decide +kernel
theorem d_qm_combinesSingle_7 : decode qm_combinesSingle_c 7 = .ok (.tableswitch 144 16 21 #[37, 58, 79, 98, 144, 117], 37) := by decide +kernel
theorem d_qm_combinesSingle_44 : decode qm_combinesSingle_c 44 = .ok (.iload 4, 2) := by decide +kernel
theorem d_qm_combinesSingle_46 : decode qm_combinesSingle_c 46 = .ok (.iconst 4, 1) := by decide +kernel
theorem d_qm_combinesSingle_47 : decode qm_combinesSingle_c 47 = .ok (.if_icmp .eq 8, 3) := by decide +kernel
theorem d_qm_combinesSingle_50 : decode qm_combinesSingle_c 50 = .ok (.bipush (-8), 2) := by decide +kernel
theorem d_qm_combinesSingle_52 : decode qm_combinesSingle_c 52 = .ok (.goto 12, 3) := by decide +kernel
theorem d_qm_combinesSingle_55 : decode qm_combinesSingle_c 55 = .ok (.aload_n 0, 1) := by decide +kernel
theorem d_qm_combinesSingle_56 : decode qm_combinesSingle_c 56 = .ok (.aload_n 0, 1) := by decide +kernel
theorem d_qm_combinesSingle_57 : decode qm_combinesSingle_c 57 = .ok (.lload_n 2, 1) := by decide +kernel
theorem d_qm_combinesSingle_58 : decode qm_combinesSingle_c 58 = .ok (.invokevirtual 157, 3) := by decide +kernel
theorem d_qm_combinesSingle_61 : decode qm_combinesSingle_c 61 = .ok (.invokevirtual 220, 3) := by decide +kernel
theorem d_qm_combinesSingle_64 : decode qm_combinesSingle_c 64 = .ok (.ireturn, 1) := by decide +kernel
theorem d_qm_combinesSingle_65 : decode qm_combinesSingle_c 65 = .ok (.iload 4, 2) := by decide +kernel
theorem d_qm_combinesSingle_67 : decode qm_combinesSingle_c 67 = .ok (.iconst 4, 1) := by decide +kernel
theorem d_qm_combinesSingle_68 : decode qm_combinesSingle_c 68 = .ok (.if_icmp .eq 8, 3) := by decide +kernel
theorem d_qm_combinesSingle_71 : decode qm_combinesSingle_c 71 = .ok (.bipush (-8), 2) := by decide +kernel
theorem d_qm_combinesSingle_73 : decode qm_combinesSingle_c 73 = .ok (.goto 12, 3) := by decide +kernel
theorem d_qm_combinesSingle_76 : decode qm_combinesSingle_c 76 = .ok (.aload_n 0, 1) := by decide +kernel
theorem d_qm_combinesSingle_77 : decode qm_combinesSingle_c 77 = .ok (.aload_n 0, 1) := by decide +kernel
theorem d_qm_combinesSingle_78 : decode qm_combinesSingle_c 78 = .ok (.lload_n 2, 1) := by decide +kernel
theorem d_qm_combinesSingle_79 : decode qm_combinesSingle_c 79 = .ok (.invokevirtual 154, 3) := by decide +kernel
theorem d_qm_combinesSingle_82 : decode qm_combinesSingle_c 82 = .ok (.invokevirtual 220, 3) := by decide +kernel
theorem d_qm_combinesSingle_85 : decode qm_combinesSingle_c 85 = .ok (.ireturn, 1) := by decide +kernel
theorem d_qm_combinesSingle_86 : decode qm_combinesSingle_c 86 = .ok (.aload_n 0, 1) := by decide +kernel
theorem d_qm_combinesSingle_87 : decode qm_combinesSingle_c 87 = .ok (.iload 4, 2) := by decide +kernel
theorem d_qm_combinesSingle_89 : decode qm_combinesSingle_c 89 = .ok (.iconst 3, 1) := by decide +kernel
theorem d_qm_combinesSingle_90 : decode qm_combinesSingle_c 90 = .ok (.if_icmp .ne 7, 3) := by decide +kernel
theorem d_qm_combinesSingle_93 : decode qm_combinesSingle_c 93 = .ok (.iconst 1, 1) := by decide +kernel
theorem d_qm_combinesSingle_94 : decode qm_combinesSingle_c 94 = .ok (.goto 4, 3) := by decide +kernel
theorem d_qm_combinesSingle_97 : decode qm_combinesSingle_c 97 = .ok (.iconst 0, 1) := by decide +kernel
theorem d_qm_combinesSingle_98 : decode qm_combinesSingle_c 98 = .ok (.invokestatic 167, 3) := by decide +kernel
theorem d_qm_combinesSingle_101 : decode qm_combinesSingle_c 101 = .ok (.invokevirtual 220, 3) := by decide +kernel
theorem d_qm_combinesSingle_104 : decode qm_combinesSingle_c 104 = .ok (.ireturn, 1) := by decide +kernel
theorem d_qm_combinesSingle_105 : decode qm_combinesSingle_c 105 = .ok (.aload_n 0, 1) := by decide +kernel
theorem d_qm_combinesSingle_106 : decode qm_combinesSingle_c 106 = .ok (.iload 4, 2) := by decide +kernel
theorem d_qm_combinesSingle_108 : decode qm_combinesSingle_c 108 = .ok (.iconst 4, 1) := by decide +kernel
theorem d_qm_combinesSingle_109 : decode qm_combinesSingle_c 109 = .ok (.if_icmp .ne 7, 3) := by decide +kernel
theorem d_qm_combinesSingle_112 : decode qm_combinesSingle_c 112 = .ok (.iconst 1, 1) := by decide +kernel
theorem d_qm_combinesSingle_113 : decode qm_combinesSingle_c 113 = .ok (.goto 4, 3) := by decide +kernel
theorem d_qm_combinesSingle_116 : decode qm_combinesSingle_c 116 = .ok (.iconst 0, 1) := by decide +kernel
theorem d_qm_combinesSingle_117 : decode qm_combinesSingle_c 117 = .ok (.invokestatic 167, 3) := by decide +kernel
theorem d_qm_combinesSingle_120 : decode qm_combinesSingle_c 120 = .ok (.invokevirtual 220, 3) := by decide +kernel
theorem d_qm_combinesSingle_123 : decode qm_combinesSingle_c 123 = .ok (.ireturn, 1) := by decide +kernel
theorem d_qm_combinesSingle_124 : decode qm_combinesSingle_c 124 = .ok (.iload 4, 2) := by decide +kernel
theorem d_qm_combinesSingle_126 : decode qm_combinesSingle_c 126 = .ok (.iconst 5, 1) := by decide +kernel
theorem d_qm_combinesSingle_127 : decode qm_combinesSingle_c 127 = .ok (.if_icmp .eq 15, 3) := by decide +kernel
theorem d_qm_combinesSingle_130 : decode qm_combinesSingle_c 130 = .ok (.iload 4, 2) := by decide +kernel
theorem d_qm_combinesSingle_132 : decode qm_combinesSingle_c 132 = .ok (.bipush 6, 2) := by decide +kernel
theorem d_qm_combinesSingle_134 : decode qm_combinesSingle_c 134 = .ok (.if_icmp .eq 8, 3) := by decide +kernel
theorem d_qm_combinesSingle_137 : decode qm_combinesSingle_c 137 = .ok (.bipush (-8), 2) := by decide +kernel
theorem d_qm_combinesSingle_139 : decode qm_combinesSingle_c 139 = .ok (.goto 11, 3) := by decide +kernel
theorem d_qm_combinesSingle_142 : decode qm_combinesSingle_c 142 = .ok (.aload_n 0, 1) := by decide +kernel
theorem d_qm_combinesSingle_143 : decode qm_combinesSingle_c 143 = .ok (.bipush 6, 2) := by decide +kernel
theorem d_qm_combinesSingle_145 : decode qm_combinesSingle_c 145 = .ok (.lload_n 2, 1) := by decide +kernel
theorem d_qm_combinesSingle_146 : decode qm_combinesSingle_c 146 = .ok (.lconst 0, 1) := by decide +kernel
theorem d_qm_combinesSingle_147 : decode qm_combinesSingle_c 147 = .ok (.invokevirtual 282, 3) := by decide +kernel
theorem d_qm_combinesSingle_150 : decode qm_combinesSingle_c 150 = .ok (.ireturn, 1) := by decide +kernel
theorem d_qm_combinesSingle_151 : decode qm_combinesSingle_c 151 = .ok (.iload 4, 2) := by decide +kernel
theorem d_qm_combinesSingle_153 : decode qm_combinesSingle_c 153 = .ok (.bipush 6, 2) := by decide +kernel
theorem d_qm_combinesSingle_155 : decode qm_combinesSingle_c 155 = .ok (.if_icmp .eq 8, 3) := by decide +kernel
theorem d_qm_combinesSingle_158 : decode qm_combinesSingle_c 158 = .ok (.bipush (-8), 2) := by decide +kernel
theorem d_qm_combinesSingle_160 : decode qm_combinesSingle_c 160 = .ok (.goto 12, 3) := by decide +kernel
theorem d_qm_combinesSingle_163 : decode qm_combinesSingle_c 163 = .ok (.aload_n 0, 1) := by decide +kernel
theorem d_qm_combinesSingle_164 : decode qm_combinesSingle_c 164 = .ok (.aload_n 0, 1) := by decide +kernel
theorem d_qm_combinesSingle_165 : decode qm_combinesSingle_c 165 = .ok (.lload_n 2, 1) := by decide +kernel
theorem d_qm_combinesSingle_166 : decode qm_combinesSingle_c 166 = .ok (.invokevirtual 185, 3) := by decide +kernel
theorem d_qm_combinesSingle_169 : decode qm_combinesSingle_c 169 = .ok (.invokevirtual 220, 3) := by decide +kernel
theorem d_qm_combinesSingle_172 : decode qm_combinesSingle_c 172 = .ok (.ireturn, 1) := by decide +kernel
theorem d_qm_createsEnvironment_0 : decode qm_createsEnvironment_c 0 = .ok (.iload_n 1, 1) := by decide +kernel
theorem d_qm_createsEnvironment_1 : decode qm_createsEnvironment_c 1 = .ok (.iconst 1, 1) := by decide +kernel
theorem d_qm_createsEnvironment_2 : decode qm_createsEnvironment_c 2 = .ok (.if_icmp .gt 24, 3) := by decide +kernel
theorem d_qm_createsEnvironment_5 : decode qm_createsEnvironment_c 5 = .ok (.iload_n 1, 1) := by decide +kernel
theorem d_qm_createsEnvironment_6 : decode qm_createsEnvironment_c 6 = .ok (.iconst 1, 1) := by decide +kernel
theorem d_qm_createsEnvironment_7 : decode qm_createsEnvironment_c 7 = .ok (.if_icmp .ne 22, 3) := by decide +kernel
theorem d_qm_createsEnvironment_10 : decode qm_createsEnvironment_c 10 = .ok (.aload_n 0, 1) := by decide +kernel
theorem d_qm_createsEnvironment_11 : decode qm_createsEnvironment_c 11 = .ok (.aload_n 0, 1) := by decide +kernel
theorem d_qm_createsEnvironment_12 : decode qm_createsEnvironment_c 12 = .ok (.getfield 223, 3) := by decide +kernel
theorem d_qm_createsEnvironment_15 : decode qm_createsEnvironment_c 15 = .ok (.invokevirtual 157, 3) := by decide +kernel
theorem d_qm_createsEnvironment_18 : decode qm_createsEnvironment_c 18 = .ok (.invokestatic 151, 3) := by decide +kernel
theorem d_qm_createsEnvironment_21 : decode qm_createsEnvironment_c 21 = .ok (.bipush 7, 2) := by decide +kernel
theorem d_qm_createsEnvironment_23 : decode qm_createsEnvironment_c 23 = .ok (.if_icmp .eq 6, 3) := by decide +kernel
theorem d_qm_createsEnvironment_26 : decode qm_createsEnvironment_c 26 = .ok (.bipush (-8), 2) := by decide +kernel
theorem d_qm_createsEnvironment_28 : decode qm_createsEnvironment_c 28 = .ok (.ireturn, 1) := by decide +kernel
theorem d_qm_createsEnvironment_29 : decode qm_createsEnvironment_c 29 = .ok (.aload_n 0, 1) := by decide +kernel
theorem d_qm_createsEnvironment_30 : decode qm_createsEnvironment_c 30 = .ok (.invokevirtual 147, 3) := by decide +kernel
theorem d_qm_createsEnvironment_33 : decode qm_createsEnvironment_c 33 = .ok (.ifCond .eq 8, 3) := by decide +kernel
theorem d_qm_createsEnvironment_36 : decode qm_createsEnvironment_c 36 = .ok (.bipush (-5), 2) := by decide +kernel
theorem d_qm_createsEnvironment_38 : decode qm_createsEnvironment_c 38 = .ok (.goto 30, 3) := by decide +kernel
theorem d_qm_createsEnvironment_41 : decode qm_createsEnvironment_c 41 = .ok (.aload_n 0, 1) := by decide +kernel
theorem d_qm_createsEnvironment_42 : decode qm_createsEnvironment_c 42 = .ok (.aload_n 0, 1) := by decide +kernel
theorem d_qm_createsEnvironment_43 : decode qm_createsEnvironment_c 43 = .ok (.iload_n 1, 1) := by decide +kernel
theorem d_qm_createsEnvironment_44 : decode qm_createsEnvironment_c 44 = .ok (.iconst 1, 1) := by decide +kernel
theorem d_qm_createsEnvironment_45 : decode qm_createsEnvironment_c 45 = .ok (.if_icmp .ne 14, 3) := by decide +kernel
theorem d_qm_createsEnvironment_48 : decode qm_createsEnvironment_c 48 = .ok (.aload_n 0, 1) := by decide +kernel
theorem d_qm_createsEnvironment_49 : decode qm_createsEnvironment_c 49 = .ok (.aload_n 0, 1) := by decide +kernel
theorem d_qm_createsEnvironment_50 : decode qm_createsEnvironment_c 50 = .ok (.getfield 223, 3) := by decide +kernel
theorem d_qm_createsEnvironment_53 : decode qm_createsEnvironment_c 53 = .ok (.invokevirtual 157, 3) := by decide +kernel
theorem d_qm_createsEnvironment_56 : decode qm_createsEnvironment_c 56 = .ok (.goto 6, 3) := by decide +kernel
theorem d_qm_createsEnvironment_59 : decode qm_createsEnvironment_c 59 = .ok (.ldc2_w 118, 3) := by decide +kernel
theorem d_qm_createsEnvironment_62 : decode qm_createsEnvironment_c 62 = .ok (.invokevirtual 255, 3) := by decide +kernel
theorem d_qm_createsEnvironment_65 : decode qm_createsEnvironment_c 65 = .ok (.invokevirtual 220, 3) := by decide +kernel
theorem d_qm_createsEnvironment_68 : decode qm_createsEnvironment_c 68 = .ok (.ireturn, 1) := by decide +kernel
theorem d_qm_combinesPrimitive_0 : decode qm_combinesPrimitive_c 0 = .ok (.aload_n 0, 1) := by decide +kernel
theorem d_qm_combinesPrimitive_1 : decode qm_combinesPrimitive_c 1 = .ok (.aload_n 0, 1) := by decide +kernel
theorem d_qm_combinesPrimitive_2 : decode qm_combinesPrimitive_c 2 = .ok (.getfield 223, 3) := by decide +kernel
theorem d_qm_combinesPrimitive_5 : decode qm_combinesPrimitive_c 5 = .ok (.invokevirtual 197, 3) := by decide +kernel
theorem d_qm_combinesPrimitive_8 : decode qm_combinesPrimitive_c 8 = .ok (.istore_n 2, 1) := by decide +kernel
theorem d_qm_combinesPrimitive_9 : decode qm_combinesPrimitive_c 9 = .ok (.iload_n 2, 1) := by decide +kernel
theorem d_qm_combinesPrimitive_10 : decode qm_combinesPrimitive_c 10 = .ok (.ifCond .ge 6, 3) := by decide +kernel
theorem d_qm_combinesPrimitive_13 : decode qm_combinesPrimitive_c 13 = .ok (.bipush (-8), 2) := by decide +kernel
theorem d_qm_combinesPrimitive_15 : decode qm_combinesPrimitive_c 15 = .ok (.ireturn, 1) := by decide +kernel
theorem d_qm_combinesPrimitive_16 : decode qm_combinesPrimitive_c 16 = .ok (.iload_n 1, 1) := by decide +kernel
theorem d_qm_combinesPrimitive_17 : decode qm_combinesPrimitive_c 17 = .ok (.bipush 8, 2) := by decide +kernel
theorem d_qm_combinesPrimitive_19 : decode qm_combinesPrimitive_c 19 = .ok (.if_icmp .ge 10, 3) := by decide +kernel
theorem d_qm_combinesPrimitive_22 : decode qm_combinesPrimitive_c 22 = .ok (.aload_n 0, 1) := by decide +kernel
theorem d_qm_combinesPrimitive_23 : decode qm_combinesPrimitive_c 23 = .ok (.iload_n 1, 1) := by decide +kernel
theorem d_qm_combinesPrimitive_24 : decode qm_combinesPrimitive_c 24 = .ok (.iload_n 2, 1) := by decide +kernel
theorem d_qm_combinesPrimitive_25 : decode qm_combinesPrimitive_c 25 = .ok (.invokevirtual 286, 3) := by decide +kernel
theorem d_qm_combinesPrimitive_28 : decode qm_combinesPrimitive_c 28 = .ok (.ireturn, 1) := by decide +kernel
theorem d_qm_combinesPrimitive_29 : decode qm_combinesPrimitive_c 29 = .ok (.iload_n 1, 1) := by decide +kernel
theorem d_qm_combinesPrimitive_30 : decode qm_combinesPrimitive_c 30 = .ok (.bipush 10, 2) := by decide +kernel
theorem d_qm_combinesPrimitive_32 : decode qm_combinesPrimitive_c 32 = .ok (.if_icmp .eq 9, 3) := by decide +kernel
theorem d_qm_combinesPrimitive_35 : decode qm_combinesPrimitive_c 35 = .ok (.iload_n 1, 1) := by decide +kernel
theorem d_qm_combinesPrimitive_36 : decode qm_combinesPrimitive_c 36 = .ok (.bipush 11, 2) := by decide +kernel
theorem d_qm_combinesPrimitive_38 : decode qm_combinesPrimitive_c 38 = .ok (.if_icmp .ne 19, 3) := by decide +kernel
theorem d_qm_combinesPrimitive_41 : decode qm_combinesPrimitive_c 41 = .ok (.aload_n 0, 1) := by decide +kernel
theorem d_qm_combinesPrimitive_42 : decode qm_combinesPrimitive_c 42 = .ok (.iload_n 1, 1) := by decide +kernel
theorem d_qm_combinesPrimitive_43 : decode qm_combinesPrimitive_c 43 = .ok (.bipush 10, 2) := by decide +kernel
theorem d_qm_combinesPrimitive_45 : decode qm_combinesPrimitive_c 45 = .ok (.if_icmp .ne 7, 3) := by decide +kernel
theorem d_qm_combinesPrimitive_48 : decode qm_combinesPrimitive_c 48 = .ok (.iconst 1, 1) := by decide +kernel
theorem d_qm_combinesPrimitive_49 : decode qm_combinesPrimitive_c 49 = .ok (.goto 4, 3) := by decide +kernel
theorem d_qm_combinesPrimitive_52 : decode qm_combinesPrimitive_c 52 = .ok (.iconst 0, 1) := by decide +kernel
theorem d_qm_combinesPrimitive_53 : decode qm_combinesPrimitive_c 53 = .ok (.invokevirtual 290, 3) := by decide +kernel
theorem d_qm_combinesPrimitive_56 : decode qm_combinesPrimitive_c 56 = .ok (.ireturn, 1) := by decide +kernel
theorem d_qm_combinesPrimitive_57 : decode qm_combinesPrimitive_c 57 = .ok (.iload_n 1, 1) := by decide +kernel
theorem d_qm_combinesPrimitive_58 : decode qm_combinesPrimitive_c 58 = .ok (.bipush 23, 2) := by decide +kernel
theorem d_qm_combinesPrimitive_60 : decode qm_combinesPrimitive_c 60 = .ok (.if_icmp .ne 9, 3) := by decide +kernel
theorem d_qm_combinesPrimitive_63 : decode qm_combinesPrimitive_c 63 = .ok (.aload_n 0, 1) := by decide +kernel
theorem d_qm_combinesPrimitive_64 : decode qm_combinesPrimitive_c 64 = .ok (.iload_n 2, 1) := by decide +kernel
theorem d_qm_combinesPrimitive_65 : decode qm_combinesPrimitive_c 65 = .ok (.invokevirtual 294, 3) := by decide +kernel
theorem d_qm_combinesPrimitive_68 : decode qm_combinesPrimitive_c 68 = .ok (.ireturn, 1) := by decide +kernel
theorem d_qm_combinesPrimitive_69 : decode qm_combinesPrimitive_c 69 = .ok (.iload_n 1, 1) := by decide +kernel
theorem d_qm_combinesPrimitive_70 : decode qm_combinesPrimitive_c 70 = .ok (.bipush 25, 2) := by decide +kernel
theorem d_qm_combinesPrimitive_72 : decode qm_combinesPrimitive_c 72 = .ok (.if_icmp .ne 12, 3) := by decide +kernel
theorem d_qm_combinesPrimitive_75 : decode qm_combinesPrimitive_c 75 = .ok (.aload_n 0, 1) := by decide +kernel
theorem d_qm_combinesPrimitive_76 : decode qm_combinesPrimitive_c 76 = .ok (.aload_n 0, 1) := by decide +kernel
theorem d_qm_combinesPrimitive_77 : decode qm_combinesPrimitive_c 77 = .ok (.getfield 223, 3) := by decide +kernel
theorem d_qm_combinesPrimitive_80 : decode qm_combinesPrimitive_c 80 = .ok (.invokevirtual 220, 3) := by decide +kernel
theorem d_qm_combinesPrimitive_83 : decode qm_combinesPrimitive_c 83 = .ok (.ireturn, 1) := by decide +kernel
theorem d_qm_combinesPrimitive_84 : decode qm_combinesPrimitive_c 84 = .ok (.iload_n 1, 1) := by decide +kernel
theorem d_qm_combinesPrimitive_85 : decode qm_combinesPrimitive_c 85 = .ok (.bipush 16, 2) := by decide +kernel
theorem d_qm_combinesPrimitive_87 : decode qm_combinesPrimitive_c 87 = .ok (.if_icmp .lt 15, 3) := by decide +kernel
theorem d_qm_combinesPrimitive_90 : decode qm_combinesPrimitive_c 90 = .ok (.iload_n 1, 1) := by decide +kernel
theorem d_qm_combinesPrimitive_91 : decode qm_combinesPrimitive_c 91 = .ok (.bipush 20, 2) := by decide +kernel
theorem d_qm_combinesPrimitive_93 : decode qm_combinesPrimitive_c 93 = .ok (.if_icmp .eq 9, 3) := by decide +kernel
theorem d_qm_combinesPrimitive_96 : decode qm_combinesPrimitive_c 96 = .ok (.iload_n 1, 1) := by decide +kernel
theorem d_qm_combinesPrimitive_97 : decode qm_combinesPrimitive_c 97 = .ok (.bipush 24, 2) := by decide +kernel
theorem d_qm_combinesPrimitive_99 : decode qm_combinesPrimitive_c 99 = .ok (.if_icmp .ne 7, 3) := by decide +kernel
theorem d_qm_combinesPrimitive_102 : decode qm_combinesPrimitive_c 102 = .ok (.iconst 1, 1) := by decide +kernel
theorem d_qm_combinesPrimitive_103 : decode qm_combinesPrimitive_c 103 = .ok (.goto 4, 3) := by decide +kernel
theorem d_qm_combinesPrimitive_106 : decode qm_combinesPrimitive_c 106 = .ok (.iconst 0, 1) := by decide +kernel
theorem d_qm_combinesPrimitive_107 : decode qm_combinesPrimitive_c 107 = .ok (.istore_n 3, 1) := by decide +kernel
theorem d_qm_combinesPrimitive_108 : decode qm_combinesPrimitive_c 108 = .ok (.iload_n 2, 1) := by decide +kernel
theorem d_qm_combinesPrimitive_109 : decode qm_combinesPrimitive_c 109 = .ok (.iload_n 3, 1) := by decide +kernel
theorem d_qm_combinesPrimitive_110 : decode qm_combinesPrimitive_c 110 = .ok (.ifCond .eq 7, 3) := by decide +kernel
theorem d_qm_combinesPrimitive_113 : decode qm_combinesPrimitive_c 113 = .ok (.iconst 2, 1) := by decide +kernel
theorem d_qm_combinesPrimitive_114 : decode qm_combinesPrimitive_c 114 = .ok (.goto 4, 3) := by decide +kernel
theorem d_qm_combinesPrimitive_117 : decode qm_combinesPrimitive_c 117 = .ok (.iconst 1, 1) := by decide +kernel
theorem d_qm_combinesPrimitive_118 : decode qm_combinesPrimitive_c 118 = .ok (.if_icmp .eq 6, 3) := by decide +kernel
theorem d_qm_combinesPrimitive_121 : decode qm_combinesPrimitive_c 121 = .ok (.bipush (-8), 2) := by decide +kernel
theorem d_qm_combinesPrimitive_123 : decode qm_combinesPrimitive_c 123 = .ok (.ireturn, 1) := by decide +kernel
theorem d_qm_combinesPrimitive_124 : decode qm_combinesPrimitive_c 124 = .ok (.aload_n 0, 1) := by decide +kernel
theorem d_qm_combinesPrimitive_125 : decode qm_combinesPrimitive_c 125 = .ok (.aload_n 0, 1) := by decide +kernel
theorem d_qm_combinesPrimitive_126 : decode qm_combinesPrimitive_c 126 = .ok (.getfield 223, 3) := by decide +kernel
theorem d_qm_combinesPrimitive_129 : decode qm_combinesPrimitive_c 129 = .ok (.invokevirtual 157, 3) := by decide +kernel
theorem d_qm_combinesPrimitive_132 : decode qm_combinesPrimitive_c 132 = .ok (.lstore 4, 2) := by decide +kernel
theorem d_qm_combinesPrimitive_134 : decode qm_combinesPrimitive_c 134 = .ok (.iload_n 3, 1) := by decide +kernel
theorem d_qm_combinesPrimitive_135 : decode qm_combinesPrimitive_c 135 = .ok (.ifCond .eq 22, 3) := by decide +kernel
theorem d_qm_combinesPrimitive_138 : decode qm_combinesPrimitive_c 138 = .ok (.aload_n 0, 1) := by decide +kernel
theorem d_qm_combinesPrimitive_139 : decode qm_combinesPrimitive_c 139 = .ok (.iload_n 1, 1) := by decide +kernel
theorem d_qm_combinesPrimitive_140 : decode qm_combinesPrimitive_c 140 = .ok (.lload 4, 2) := by decide +kernel
theorem d_qm_combinesPrimitive_142 : decode qm_combinesPrimitive_c 142 = .ok (.aload_n 0, 1) := by decide +kernel
theorem d_qm_combinesPrimitive_143 : decode qm_combinesPrimitive_c 143 = .ok (.aload_n 0, 1) := by decide +kernel
theorem d_qm_combinesPrimitive_144 : decode qm_combinesPrimitive_c 144 = .ok (.getfield 223, 3) := by decide +kernel
theorem d_qm_combinesPrimitive_147 : decode qm_combinesPrimitive_c 147 = .ok (.iconst 1, 1) := by decide +kernel
theorem d_qm_combinesPrimitive_148 : decode qm_combinesPrimitive_c 148 = .ok (.invokevirtual 262, 3) := by decide +kernel
theorem d_qm_combinesPrimitive_151 : decode qm_combinesPrimitive_c 151 = .ok (.invokevirtual 297, 3) := by decide +kernel
theorem d_qm_combinesPrimitive_154 : decode qm_combinesPrimitive_c 154 = .ok (.goto 10, 3) := by decide +kernel
theorem d_qm_combinesPrimitive_157 : decode qm_combinesPrimitive_c 157 = .ok (.aload_n 0, 1) := by decide +kernel
theorem d_qm_combinesPrimitive_158 : decode qm_combinesPrimitive_c 158 = .ok (.iload_n 1, 1) := by decide +kernel
theorem d_qm_combinesPrimitive_159 : decode qm_combinesPrimitive_c 159 = .ok (.lload 4, 2) := by decide +kernel
theorem d_qm_combinesPrimitive_161 : decode qm_combinesPrimitive_c 161 = .ok (.invokevirtual 300, 3) := by decide +kernel
theorem d_qm_combinesPrimitive_164 : decode qm_combinesPrimitive_c 164 = .ok (.ireturn, 1) := by decide +kernel
theorem d_qm_combinesOne_0 : decode qm_combinesOne_c 0 = .ok (.aload_n 0, 1) := by decide +kernel
theorem d_qm_combinesOne_1 : decode qm_combinesOne_c 1 = .ok (.getfield 203, 3) := by decide +kernel
theorem d_qm_combinesOne_4 : decode qm_combinesOne_c 4 = .ok (.invokestatic 151, 3) := by decide +kernel
theorem d_qm_combinesOne_7 : decode qm_combinesOne_c 7 = .ok (.istore_n 1, 1) := by decide +kernel
theorem d_qm_combinesOne_8 : decode qm_combinesOne_c 8 = .ok (.iload_n 1, 1) := by decide +kernel
theorem d_qm_combinesOne_9 : decode qm_combinesOne_c 9 = .ok (.bipush 6, 2) := by decide +kernel
theorem d_qm_combinesOne_11 : decode qm_combinesOne_c 11 = .ok (.if_icmp .ne 40, 3) := by decide +kernel
theorem d_qm_combinesOne_14 : decode qm_combinesOne_c 14 = .ok (.aload_n 0, 1) := by decide +kernel
theorem d_qm_combinesOne_15 : decode qm_combinesOne_c 15 = .ok (.aload_n 0, 1) := by decide +kernel
theorem d_qm_combinesOne_16 : decode qm_combinesOne_c 16 = .ok (.getfield 223, 3) := by decide +kernel
theorem d_qm_combinesOne_19 : decode qm_combinesOne_c 19 = .ok (.invokevirtual 197, 3) := by decide +kernel
theorem d_qm_combinesOne_22 : decode qm_combinesOne_c 22 = .ok (.ifCond .ge 8, 3) := by decide +kernel
theorem d_qm_combinesOne_25 : decode qm_combinesOne_c 25 = .ok (.bipush (-8), 2) := by decide +kernel
theorem d_qm_combinesOne_27 : decode qm_combinesOne_c 27 = .ok (.goto 23, 3) := by decide +kernel
theorem d_qm_combinesOne_30 : decode qm_combinesOne_c 30 = .ok (.aload_n 0, 1) := by decide +kernel
theorem d_qm_combinesOne_31 : decode qm_combinesOne_c 31 = .ok (.aload_n 0, 1) := by decide +kernel
theorem d_qm_combinesOne_32 : decode qm_combinesOne_c 32 = .ok (.getfield 203, 3) := by decide +kernel
theorem d_qm_combinesOne_35 : decode qm_combinesOne_c 35 = .ok (.aload_n 0, 1) := by decide +kernel
theorem d_qm_combinesOne_36 : decode qm_combinesOne_c 36 = .ok (.getfield 223, 3) := by decide +kernel
theorem d_qm_combinesOne_39 : decode qm_combinesOne_c 39 = .ok (.aload_n 0, 1) := by decide +kernel
theorem d_qm_combinesOne_40 : decode qm_combinesOne_c 40 = .ok (.getfield 206, 3) := by decide +kernel
theorem d_qm_combinesOne_43 : decode qm_combinesOne_c 43 = .ok (.aload_n 0, 1) := by decide +kernel
theorem d_qm_combinesOne_44 : decode qm_combinesOne_c 44 = .ok (.getfield 226, 3) := by decide +kernel
theorem d_qm_combinesOne_47 : decode qm_combinesOne_c 47 = .ok (.invokevirtual 237, 3) := by decide +kernel
theorem d_qm_combinesOne_50 : decode qm_combinesOne_c 50 = .ok (.ireturn, 1) := by decide +kernel
theorem d_qm_combinesOne_51 : decode qm_combinesOne_c 51 = .ok (.iload_n 1, 1) := by decide +kernel
theorem d_qm_combinesOne_52 : decode qm_combinesOne_c 52 = .ok (.iconst 5, 1) := by decide +kernel
theorem d_qm_combinesOne_53 : decode qm_combinesOne_c 53 = .ok (.if_icmp .eq 6, 3) := by decide +kernel
theorem d_qm_combinesOne_56 : decode qm_combinesOne_c 56 = .ok (.bipush (-7), 2) := by decide +kernel
theorem d_qm_combinesOne_58 : decode qm_combinesOne_c 58 = .ok (.ireturn, 1) := by decide +kernel
theorem d_qm_combinesOne_59 : decode qm_combinesOne_c 59 = .ok (.aload_n 0, 1) := by decide +kernel
theorem d_qm_combinesOne_60 : decode qm_combinesOne_c 60 = .ok (.getfield 203, 3) := by decide +kernel
theorem d_qm_combinesOne_63 : decode qm_combinesOne_c 63 = .ok (.invokestatic 120, 3) := by decide +kernel
theorem d_qm_combinesOne_66 : decode qm_combinesOne_c 66 = .ok (.lconst 0, 1) := by decide +kernel
theorem d_qm_combinesOne_67 : decode qm_combinesOne_c 67 = .ok (.lcmp, 1) := by decide +kernel
theorem d_qm_combinesOne_68 : decode qm_combinesOne_c 68 = .ok (.ifCond .ge 20, 3) := by decide +kernel
theorem d_qm_combinesOne_71 : decode qm_combinesOne_c 71 = .ok (.aload_n 0, 1) := by decide +kernel
theorem d_qm_combinesOne_72 : decode qm_combinesOne_c 72 = .ok (.iconst (-1), 1) := by decide +kernel
theorem d_qm_combinesOne_73 : decode qm_combinesOne_c 73 = .ok (.aload_n 0, 1) := by decide +kernel
theorem d_qm_combinesOne_74 : decode qm_combinesOne_c 74 = .ok (.aload_n 0, 1) := by decide +kernel
theorem d_qm_combinesOne_75 : decode qm_combinesOne_c 75 = .ok (.getfield 203, 3) := by decide +kernel
theorem d_qm_combinesOne_78 : decode qm_combinesOne_c 78 = .ok (.invokevirtual 124, 3) := by decide +kernel
theorem d_qm_combinesOne_81 : decode qm_combinesOne_c 81 = .ok (.isub, 1) := by decide +kernel
theorem d_qm_combinesOne_82 : decode qm_combinesOne_c 82 = .ok (.invokevirtual 304, 3) := by decide +kernel
theorem d_qm_combinesOne_85 : decode qm_combinesOne_c 85 = .ok (.goto 7, 3) := by decide +kernel
theorem d_qm_combinesOne_88 : decode qm_combinesOne_c 88 = .ok (.aload_n 0, 1) := by decide +kernel
theorem d_qm_combinesOne_89 : decode qm_combinesOne_c 89 = .ok (.invokevirtual 307, 3) := by decide +kernel
theorem d_qm_combinesOne_92 : decode qm_combinesOne_c 92 = .ok (.ireturn, 1) := by decide +kernel
theorem d_qm_runs_0 : decode qm_runs_c 0 = .ok (.iconst 0, 1) := by decide +kernel
theorem d_qm_runs_1 : decode qm_runs_c 1 = .ok (.istore_n 1, 1) := by decide +kernel
theorem d_qm_runs_2 : decode qm_runs_c 2 = .ok (.iload_n 1, 1) := by decide +kernel
theorem d_qm_runs_3 : decode qm_runs_c 3 = .ok (.ifCond .ne 55, 3) := by decide +kernel
theorem d_qm_runs_6 : decode qm_runs_c 6 = .ok (.aload_n 0, 1) := by decide +kernel
theorem d_qm_runs_7 : decode qm_runs_c 7 = .ok (.getfield 200, 3) := by decide +kernel
theorem d_qm_runs_10 : decode qm_runs_c 10 = .ok (.iconst 2, 1) := by decide +kernel
theorem d_qm_runs_11 : decode qm_runs_c 11 = .ok (.if_icmp .ne 10, 3) := by decide +kernel
theorem d_qm_runs_14 : decode qm_runs_c 14 = .ok (.aload_n 0, 1) := by decide +kernel
theorem d_qm_runs_15 : decode qm_runs_c 15 = .ok (.getfield 209, 3) := by decide +kernel
theorem d_qm_runs_18 : decode qm_runs_c 18 = .ok (.ifCond .le 40, 3) := by decide +kernel
theorem d_qm_runs_21 : decode qm_runs_c 21 = .ok (.aload_n 0, 1) := by decide +kernel
theorem d_qm_runs_22 : decode qm_runs_c 22 = .ok (.getfield 200, 3) := by decide +kernel
theorem d_qm_runs_25 : decode qm_runs_c 25 = .ok (.ifCond .ne 10, 3) := by decide +kernel
theorem d_qm_runs_28 : decode qm_runs_c 28 = .ok (.aload_n 0, 1) := by decide +kernel
theorem d_qm_runs_29 : decode qm_runs_c 29 = .ok (.invokevirtual 311, 3) := by decide +kernel
theorem d_qm_runs_32 : decode qm_runs_c 32 = .ok (.goto 22, 3) := by decide +kernel
theorem d_qm_runs_35 : decode qm_runs_c 35 = .ok (.aload_n 0, 1) := by decide +kernel
theorem d_qm_runs_36 : decode qm_runs_c 36 = .ok (.getfield 200, 3) := by decide +kernel
theorem d_qm_runs_39 : decode qm_runs_c 39 = .ok (.iconst 1, 1) := by decide +kernel
theorem d_qm_runs_40 : decode qm_runs_c 40 = .ok (.if_icmp .ne 10, 3) := by decide +kernel
theorem d_qm_runs_43 : decode qm_runs_c 43 = .ok (.aload_n 0, 1) := by decide +kernel
theorem d_qm_runs_44 : decode qm_runs_c 44 = .ok (.invokevirtual 314, 3) := by decide +kernel
theorem d_qm_runs_47 : decode qm_runs_c 47 = .ok (.goto 7, 3) := by decide +kernel
theorem d_qm_runs_50 : decode qm_runs_c 50 = .ok (.aload_n 0, 1) := by decide +kernel
theorem d_qm_runs_51 : decode qm_runs_c 51 = .ok (.invokevirtual 317, 3) := by decide +kernel
theorem d_qm_runs_54 : decode qm_runs_c 54 = .ok (.istore_n 1, 1) := by decide +kernel
theorem d_qm_runs_55 : decode qm_runs_c 55 = .ok (.goto (-53), 3) := by decide +kernel
theorem d_qm_runs_58 : decode qm_runs_c 58 = .ok (.iload_n 1, 1) := by decide +kernel
theorem d_qm_runs_59 : decode qm_runs_c 59 = .ok (.ireturn, 1) := by decide +kernel
theorem d_qm_evaluate_0 : decode qm_evaluate_c 0 = .ok (.aload_n 0, 1) := by decide +kernel
theorem d_qm_evaluate_1 : decode qm_evaluate_c 1 = .ok (.getfield 92, 3) := by decide +kernel
theorem d_qm_evaluate_4 : decode qm_evaluate_c 4 = .ok (.ifCond .ne 6, 3) := by decide +kernel
theorem d_qm_evaluate_7 : decode qm_evaluate_c 7 = .ok (.bipush (-2), 2) := by decide +kernel
theorem d_qm_evaluate_9 : decode qm_evaluate_c 9 = .ok (.ireturn, 1) := by decide +kernel
theorem d_qm_evaluate_10 : decode qm_evaluate_c 10 = .ok (.aload_n 0, 1) := by decide +kernel
theorem d_qm_evaluate_11 : decode qm_evaluate_c 11 = .ok (.dup, 1) := by decide +kernel
theorem d_qm_evaluate_12 : decode qm_evaluate_c 12 = .ok (.getfield 92, 3) := by decide +kernel
theorem d_qm_evaluate_15 : decode qm_evaluate_c 15 = .ok (.iconst 1, 1) := by decide +kernel
theorem d_qm_evaluate_16 : decode qm_evaluate_c 16 = .ok (.isub, 1) := by decide +kernel
theorem d_qm_evaluate_17 : decode qm_evaluate_c 17 = .ok (.putfield 92, 3) := by decide +kernel
theorem d_qm_evaluate_20 : decode qm_evaluate_c 20 = .ok (.aload_n 0, 1) := by decide +kernel
theorem d_qm_evaluate_21 : decode qm_evaluate_c 21 = .ok (.iconst 0, 1) := by decide +kernel
theorem d_qm_evaluate_22 : decode qm_evaluate_c 22 = .ok (.putfield 104, 3) := by decide +kernel
theorem d_qm_evaluate_25 : decode qm_evaluate_c 25 = .ok (.aload_n 0, 1) := by decide +kernel
theorem d_qm_evaluate_26 : decode qm_evaluate_c 26 = .ok (.iconst 0, 1) := by decide +kernel
theorem d_qm_evaluate_27 : decode qm_evaluate_c 27 = .ok (.putfield 107, 3) := by decide +kernel
theorem d_qm_evaluate_30 : decode qm_evaluate_c 30 = .ok (.aload_n 0, 1) := by decide +kernel
theorem d_qm_evaluate_31 : decode qm_evaluate_c 31 = .ok (.iconst 0, 1) := by decide +kernel
theorem d_qm_evaluate_32 : decode qm_evaluate_c 32 = .ok (.putfield 209, 3) := by decide +kernel
theorem d_qm_evaluate_35 : decode qm_evaluate_c 35 = .ok (.aload_n 0, 1) := by decide +kernel
theorem d_qm_evaluate_36 : decode qm_evaluate_c 36 = .ok (.iconst 0, 1) := by decide +kernel
theorem d_qm_evaluate_37 : decode qm_evaluate_c 37 = .ok (.putfield 226, 3) := by decide +kernel
theorem d_qm_evaluate_40 : decode qm_evaluate_c 40 = .ok (.aload_n 0, 1) := by decide +kernel
theorem d_qm_evaluate_41 : decode qm_evaluate_c 41 = .ok (.aload_n 0, 1) := by decide +kernel
theorem d_qm_evaluate_42 : decode qm_evaluate_c 42 = .ok (.getfield 39, 3) := by decide +kernel
theorem d_qm_evaluate_45 : decode qm_evaluate_c 45 = .ok (.aload_n 0, 1) := by decide +kernel
theorem d_qm_evaluate_46 : decode qm_evaluate_c 46 = .ok (.getfield 92, 3) := by decide +kernel
theorem d_qm_evaluate_49 : decode qm_evaluate_c 49 = .ok (.laload, 1) := by decide +kernel
theorem d_qm_evaluate_50 : decode qm_evaluate_c 50 = .ok (.aload_n 0, 1) := by decide +kernel
theorem d_qm_evaluate_51 : decode qm_evaluate_c 51 = .ok (.getfield 100, 3) := by decide +kernel
theorem d_qm_evaluate_54 : decode qm_evaluate_c 54 = .ok (.invokevirtual 212, 3) := by decide +kernel
theorem d_qm_evaluate_57 : decode qm_evaluate_c 57 = .ok (.pop, 1) := by decide +kernel
theorem d_qm_evaluate_58 : decode qm_evaluate_c 58 = .ok (.aload_n 0, 1) := by decide +kernel
theorem d_qm_evaluate_59 : decode qm_evaluate_c 59 = .ok (.invokevirtual 320, 3) := by decide +kernel
theorem d_qm_evaluate_62 : decode qm_evaluate_c 62 = .ok (.istore_n 1, 1) := by decide +kernel
theorem d_qm_evaluate_63 : decode qm_evaluate_c 63 = .ok (.iload_n 1, 1) := by decide +kernel
theorem d_qm_evaluate_64 : decode qm_evaluate_c 64 = .ok (.ifCond .ge 5, 3) := by decide +kernel
theorem d_qm_evaluate_67 : decode qm_evaluate_c 67 = .ok (.iload_n 1, 1) := by decide +kernel
theorem d_qm_evaluate_68 : decode qm_evaluate_c 68 = .ok (.ireturn, 1) := by decide +kernel
theorem d_qm_evaluate_69 : decode qm_evaluate_c 69 = .ok (.aload_n 0, 1) := by decide +kernel
theorem d_qm_evaluate_70 : decode qm_evaluate_c 70 = .ok (.aload_n 0, 1) := by decide +kernel
theorem d_qm_evaluate_71 : decode qm_evaluate_c 71 = .ok (.getfield 203, 3) := by decide +kernel
theorem d_qm_evaluate_74 : decode qm_evaluate_c 74 = .ok (.invokevirtual 164, 3) := by decide +kernel
theorem d_qm_evaluate_77 : decode qm_evaluate_c 77 = .ok (.pop, 1) := by decide +kernel
theorem d_qm_evaluate_78 : decode qm_evaluate_c 78 = .ok (.aload_n 0, 1) := by decide +kernel
theorem d_qm_evaluate_79 : decode qm_evaluate_c 79 = .ok (.getfield 104, 3) := by decide +kernel
theorem d_qm_evaluate_82 : decode qm_evaluate_c 82 = .ok (.ireturn, 1) := by decide +kernel
theorem d_qm_useEnvironment_0 : decode qm_useEnvironment_c 0 = .ok (.aload_n 0, 1) := by decide +kernel
theorem d_qm_useEnvironment_1 : decode qm_useEnvironment_c 1 = .ok (.getfield 92, 3) := by decide +kernel
theorem d_qm_useEnvironment_4 : decode qm_useEnvironment_c 4 = .ok (.ifCond .ne 6, 3) := by decide +kernel
theorem d_qm_useEnvironment_7 : decode qm_useEnvironment_c 7 = .ok (.bipush (-2), 2) := by decide +kernel
theorem d_qm_useEnvironment_9 : decode qm_useEnvironment_c 9 = .ok (.ireturn, 1) := by decide +kernel
theorem d_qm_useEnvironment_10 : decode qm_useEnvironment_c 10 = .ok (.aload_n 0, 1) := by decide +kernel
theorem d_qm_useEnvironment_11 : decode qm_useEnvironment_c 11 = .ok (.iconst 0, 1) := by decide +kernel
theorem d_qm_useEnvironment_12 : decode qm_useEnvironment_c 12 = .ok (.invokevirtual 181, 3) := by decide +kernel
theorem d_qm_useEnvironment_15 : decode qm_useEnvironment_c 15 = .ok (.invokestatic 151, 3) := by decide +kernel
theorem d_qm_useEnvironment_18 : decode qm_useEnvironment_c 18 = .ok (.bipush 7, 2) := by decide +kernel
theorem d_qm_useEnvironment_20 : decode qm_useEnvironment_c 20 = .ok (.if_icmp .eq 6, 3) := by decide +kernel
theorem d_qm_useEnvironment_23 : decode qm_useEnvironment_c 23 = .ok (.bipush (-4), 2) := by decide +kernel
theorem d_qm_useEnvironment_25 : decode qm_useEnvironment_c 25 = .ok (.ireturn, 1) := by decide +kernel
theorem d_qm_useEnvironment_26 : decode qm_useEnvironment_c 26 = .ok (.aload_n 0, 1) := by decide +kernel
theorem d_qm_useEnvironment_27 : decode qm_useEnvironment_c 27 = .ok (.aload_n 0, 1) := by decide +kernel
theorem d_qm_useEnvironment_28 : decode qm_useEnvironment_c 28 = .ok (.iconst 0, 1) := by decide +kernel
theorem d_qm_useEnvironment_29 : decode qm_useEnvironment_c 29 = .ok (.invokevirtual 181, 3) := by decide +kernel
theorem d_qm_useEnvironment_32 : decode qm_useEnvironment_c 32 = .ok (.putfield 100, 3) := by decide +kernel
theorem d_qm_useEnvironment_35 : decode qm_useEnvironment_c 35 = .ok (.aload_n 0, 1) := by decide +kernel
theorem d_qm_useEnvironment_36 : decode qm_useEnvironment_c 36 = .ok (.dup, 1) := by decide +kernel
theorem d_qm_useEnvironment_37 : decode qm_useEnvironment_c 37 = .ok (.getfield 92, 3) := by decide +kernel
theorem d_qm_useEnvironment_40 : decode qm_useEnvironment_c 40 = .ok (.iconst 1, 1) := by decide +kernel
theorem d_qm_useEnvironment_41 : decode qm_useEnvironment_c 41 = .ok (.isub, 1) := by decide +kernel
theorem d_qm_useEnvironment_42 : decode qm_useEnvironment_c 42 = .ok (.putfield 92, 3) := by decide +kernel
theorem d_qm_useEnvironment_45 : decode qm_useEnvironment_c 45 = .ok (.aload_n 0, 1) := by decide +kernel
theorem d_qm_useEnvironment_46 : decode qm_useEnvironment_c 46 = .ok (.getfield 92, 3) := by decide +kernel
theorem d_qm_useEnvironment_49 : decode qm_useEnvironment_c 49 = .ok (.ireturn, 1) := by decide +kernel
theorem d_qm_useUser_0 : decode qm_useUser_c 0 = .ok (.aload_n 0, 1) := by decide +kernel
theorem d_qm_useUser_1 : decode qm_useUser_c 1 = .ok (.getfield 100, 3) := by decide +kernel
theorem d_qm_useUser_4 : decode qm_useUser_c 4 = .ok (.ldc2_w 98, 3) := by decide +kernel
theorem d_qm_useUser_7 : decode qm_useUser_c 7 = .ok (.lcmp, 1) := by decide +kernel
theorem d_qm_useUser_8 : decode qm_useUser_c 8 = .ok (.ifCond .ne 7, 3) := by decide +kernel
theorem d_qm_useUser_11 : decode qm_useUser_c 11 = .ok (.iconst 0, 1) := by decide +kernel
theorem d_qm_useUser_12 : decode qm_useUser_c 12 = .ok (.goto 4, 3) := by decide +kernel
theorem d_qm_useUser_15 : decode qm_useUser_c 15 = .ok (.iconst 1, 1) := by decide +kernel
theorem d_qm_useUser_16 : decode qm_useUser_c 16 = .ok (.istore_n 1, 1) := by decide +kernel
theorem d_qm_useUser_17 : decode qm_useUser_c 17 = .ok (.aload_n 0, 1) := by decide +kernel
theorem d_qm_useUser_18 : decode qm_useUser_c 18 = .ok (.ldc2_w 98, 3) := by decide +kernel
theorem d_qm_useUser_21 : decode qm_useUser_c 21 = .ok (.putfield 100, 3) := by decide +kernel
theorem d_qm_useUser_24 : decode qm_useUser_c 24 = .ok (.iload_n 1, 1) := by decide +kernel
theorem d_qm_useUser_25 : decode qm_useUser_c 25 = .ok (.ireturn, 1) := by decide +kernel
theorem d_qm_setLimit_0 : decode qm_setLimit_c 0 = .ok (.iload_n 1, 1) := by decide +kernel
theorem d_qm_setLimit_1 : decode qm_setLimit_c 1 = .ok (.i2l, 1) := by decide +kernel
theorem d_qm_setLimit_2 : decode qm_setLimit_c 2 = .ok (.lconst 1, 1) := by decide +kernel
theorem d_qm_setLimit_3 : decode qm_setLimit_c 3 = .ok (.ldc2_w 323, 3) := by decide +kernel
theorem d_qm_setLimit_6 : decode qm_setLimit_c 6 = .ok (.invokestatic 114, 3) := by decide +kernel
theorem d_qm_setLimit_9 : decode qm_setLimit_c 9 = .ok (.ifCond .ne 5, 3) := by decide +kernel
theorem d_qm_setLimit_12 : decode qm_setLimit_c 12 = .ok (.iconst (-1), 1) := by decide +kernel
theorem d_qm_setLimit_13 : decode qm_setLimit_c 13 = .ok (.ireturn, 1) := by decide +kernel
theorem d_qm_setLimit_14 : decode qm_setLimit_c 14 = .ok (.aload_n 0, 1) := by decide +kernel
theorem d_qm_setLimit_15 : decode qm_setLimit_c 15 = .ok (.getfield 95, 3) := by decide +kernel
theorem d_qm_setLimit_18 : decode qm_setLimit_c 18 = .ok (.istore_n 2, 1) := by decide +kernel
theorem d_qm_setLimit_19 : decode qm_setLimit_c 19 = .ok (.aload_n 0, 1) := by decide +kernel
theorem d_qm_setLimit_20 : decode qm_setLimit_c 20 = .ok (.iload_n 1, 1) := by decide +kernel
theorem d_qm_setLimit_21 : decode qm_setLimit_c 21 = .ok (.putfield 95, 3) := by decide +kernel
theorem d_qm_setLimit_24 : decode qm_setLimit_c 24 = .ok (.iload_n 2, 1) := by decide +kernel
theorem d_qm_setLimit_25 : decode qm_setLimit_c 25 = .ok (.ireturn, 1) := by decide +kernel
theorem d_qm_latest_0 : decode qm_latest_c 0 = .ok (.iload_n 1, 1) := by decide +kernel
theorem d_qm_latest_1 : decode qm_latest_c 1 = .ok (.ifCond .ne 10, 3) := by decide +kernel
theorem d_qm_latest_4 : decode qm_latest_c 4 = .ok (.aload_n 0, 1) := by decide +kernel
theorem d_qm_latest_5 : decode qm_latest_c 5 = .ok (.getfield 104, 3) := by decide +kernel
theorem d_qm_latest_8 : decode qm_latest_c 8 = .ok (.goto 16, 3) := by decide +kernel
theorem d_qm_latest_11 : decode qm_latest_c 11 = .ok (.iload_n 1, 1) := by decide +kernel
theorem d_qm_latest_12 : decode qm_latest_c 12 = .ok (.iconst 1, 1) := by decide +kernel
theorem d_qm_latest_13 : decode qm_latest_c 13 = .ok (.if_icmp .ne 10, 3) := by decide +kernel
theorem d_qm_latest_16 : decode qm_latest_c 16 = .ok (.aload_n 0, 1) := by decide +kernel
theorem d_qm_latest_17 : decode qm_latest_c 17 = .ok (.getfield 107, 3) := by decide +kernel
theorem d_qm_latest_20 : decode qm_latest_c 20 = .ok (.goto 4, 3) := by decide +kernel
theorem d_qm_latest_23 : decode qm_latest_c 23 = .ok (.iconst (-1), 1) := by decide +kernel
theorem d_qm_latest_24 : decode qm_latest_c 24 = .ok (.ireturn, 1) := by decide +kernel
theorem d_qm_heapSize_0 : decode qm_heapSize_c 0 = .ok (.aload_n 0, 1) := by decide +kernel
theorem d_qm_heapSize_1 : decode qm_heapSize_c 1 = .ok (.getfield 88, 3) := by decide +kernel
theorem d_qm_heapSize_4 : decode qm_heapSize_c 4 = .ok (.ireturn, 1) := by decide +kernel

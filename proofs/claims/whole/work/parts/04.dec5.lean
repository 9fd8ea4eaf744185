theorem dM_reachAll_39 : decode cM_reachAll 39 = .ok (.aload_n 0, 1) := by decide +kernel
theorem dM_reachAll_40 : decode cM_reachAll 40 = .ok (.iload 5, 2) := by decide +kernel
theorem dM_reachAll_42 : decode cM_reachAll 42 = .ok (.lload_n 3, 1) := by decide +kernel
theorem dM_reachAll_43 : decode cM_reachAll 43 = .ok (.invokevirtual 114, 3) := by decide +kernel
theorem dM_reachAll_46 : decode cM_reachAll 46 = .ok (.goto 6, 3) := by decide +kernel
theorem dM_reachAll_49 : decode cM_reachAll 49 = .ok (.ldc2_w 118, 3) := by decide +kernel
theorem dM_reachAll_52 : decode cM_reachAll 52 = .ok (.lastore, 1) := by decide +kernel
theorem dM_reachAll_53 : decode cM_reachAll 53 = .ok (.iinc 5 1, 3) := by decide +kernel
theorem dM_reachAll_56 : decode cM_reachAll 56 = .ok (.goto (-53), 3) := by decide +kernel
theorem dM_reachAll_59 : decode cM_reachAll 59 = .ok (.iconst 1, 1) := by decide +kernel
theorem dM_reachAll_60 : decode cM_reachAll 60 = .ok (.istore 5, 2) := by decide +kernel
theorem dM_reachAll_62 : decode cM_reachAll 62 = .ok (.iload 5, 2) := by decide +kernel
theorem dM_reachAll_64 : decode cM_reachAll 64 = .ok (.ifCond .eq 69, 3) := by decide +kernel
theorem dM_reachAll_67 : decode cM_reachAll 67 = .ok (.iconst 0, 1) := by decide +kernel
theorem dM_reachAll_68 : decode cM_reachAll 68 = .ok (.istore 5, 2) := by decide +kernel
theorem dM_reachAll_70 : decode cM_reachAll 70 = .ok (.iconst 0, 1) := by decide +kernel
theorem dM_reachAll_71 : decode cM_reachAll 71 = .ok (.istore 6, 2) := by decide +kernel
theorem dM_reachAll_73 : decode cM_reachAll 73 = .ok (.iload 6, 2) := by decide +kernel
theorem dM_reachAll_75 : decode cM_reachAll 75 = .ok (.aload_n 0, 1) := by decide +kernel
theorem dM_reachAll_76 : decode cM_reachAll 76 = .ok (.getfield 80, 3) := by decide +kernel
theorem dM_reachAll_79 : decode cM_reachAll 79 = .ok (.if_icmp .ge 51, 3) := by decide +kernel
theorem dM_reachAll_82 : decode cM_reachAll 82 = .ok (.iconst 0, 1) := by decide +kernel
theorem dM_reachAll_83 : decode cM_reachAll 83 = .ok (.istore 7, 2) := by decide +kernel
theorem dM_reachAll_85 : decode cM_reachAll 85 = .ok (.iload 7, 2) := by decide +kernel
theorem dM_reachAll_87 : decode cM_reachAll 87 = .ok (.aload_n 0, 1) := by decide +kernel
theorem dM_reachAll_88 : decode cM_reachAll 88 = .ok (.getfield 80, 3) := by decide +kernel
theorem dM_reachAll_91 : decode cM_reachAll 91 = .ok (.if_icmp .ge 33, 3) := by decide +kernel
theorem dM_reachAll_94 : decode cM_reachAll 94 = .ok (.aload_n 0, 1) := by decide +kernel
theorem dM_reachAll_95 : decode cM_reachAll 95 = .ok (.iload_n 1, 1) := by decide +kernel
theorem dM_reachAll_96 : decode cM_reachAll 96 = .ok (.iload 6, 2) := by decide +kernel
theorem dM_reachAll_98 : decode cM_reachAll 98 = .ok (.iload 7, 2) := by decide +kernel
theorem dM_reachAll_100 : decode cM_reachAll 100 = .ok (.invokevirtual 120, 3) := by decide +kernel
theorem dM_reachAll_103 : decode cM_reachAll 103 = .ok (.ifCond .ne 8, 3) := by decide +kernel
theorem dM_reachAll_106 : decode cM_reachAll 106 = .ok (.iload 5, 2) := by decide +kernel
theorem dM_reachAll_108 : decode cM_reachAll 108 = .ok (.ifCond .eq 7, 3) := by decide +kernel
theorem dM_reachAll_111 : decode cM_reachAll 111 = .ok (.iconst 1, 1) := by decide +kernel
theorem dM_reachAll_112 : decode cM_reachAll 112 = .ok (.goto 4, 3) := by decide +kernel
theorem dM_reachAll_115 : decode cM_reachAll 115 = .ok (.iconst 0, 1) := by decide +kernel
theorem dM_reachAll_116 : decode cM_reachAll 116 = .ok (.istore 5, 2) := by decide +kernel
theorem dM_reachAll_118 : decode cM_reachAll 118 = .ok (.iinc 7 1, 3) := by decide +kernel
theorem dM_reachAll_121 : decode cM_reachAll 121 = .ok (.goto (-36), 3) := by decide +kernel
theorem dM_reachAll_124 : decode cM_reachAll 124 = .ok (.iinc 6 1, 3) := by decide +kernel
theorem dM_reachAll_127 : decode cM_reachAll 127 = .ok (.goto (-54), 3) := by decide +kernel
theorem dM_reachAll_130 : decode cM_reachAll 130 = .ok (.goto (-68), 3) := by decide +kernel
theorem dM_reachAll_133 : decode cM_reachAll 133 = .ok (.return_, 1) := by decide +kernel
theorem dM_mayUse_0 : decode cM_mayUse 0 = .ok (.aload_n 0, 1) := by decide +kernel
theorem dM_mayUse_1 : decode cM_mayUse 1 = .ok (.getfield 29, 3) := by decide +kernel
theorem dM_mayUse_4 : decode cM_mayUse 4 = .ok (.iload_n 2, 1) := by decide +kernel
theorem dM_mayUse_5 : decode cM_mayUse 5 = .ok (.baload, 1) := by decide +kernel
theorem dM_mayUse_6 : decode cM_mayUse 6 = .ok (.ifCond .ne 46, 3) := by decide +kernel
theorem dM_mayUse_9 : decode cM_mayUse 9 = .ok (.aload_n 0, 1) := by decide +kernel
theorem dM_mayUse_10 : decode cM_mayUse 10 = .ok (.getfield 33, 3) := by decide +kernel
theorem dM_mayUse_13 : decode cM_mayUse 13 = .ok (.iload_n 2, 1) := by decide +kernel
theorem dM_mayUse_14 : decode cM_mayUse 14 = .ok (.iaload, 1) := by decide +kernel
theorem dM_mayUse_15 : decode cM_mayUse 15 = .ok (.ifCond .eq 37, 3) := by decide +kernel
theorem dM_mayUse_18 : decode cM_mayUse 18 = .ok (.aload_n 0, 1) := by decide +kernel
theorem dM_mayUse_19 : decode cM_mayUse 19 = .ok (.getfield 23, 3) := by decide +kernel
theorem dM_mayUse_22 : decode cM_mayUse 22 = .ok (.iload_n 2, 1) := by decide +kernel
theorem dM_mayUse_23 : decode cM_mayUse 23 = .ok (.iaload, 1) := by decide +kernel
theorem dM_mayUse_24 : decode cM_mayUse 24 = .ok (.aload_n 0, 1) := by decide +kernel
theorem dM_mayUse_25 : decode cM_mayUse 25 = .ok (.getfield 39, 3) := by decide +kernel
theorem dM_mayUse_28 : decode cM_mayUse 28 = .ok (.iload_n 1, 1) := by decide +kernel
theorem dM_mayUse_29 : decode cM_mayUse 29 = .ok (.iaload, 1) := by decide +kernel
theorem dM_mayUse_30 : decode cM_mayUse 30 = .ok (.if_icmp .lt 22, 3) := by decide +kernel
theorem dM_mayUse_33 : decode cM_mayUse 33 = .ok (.aload_n 0, 1) := by decide +kernel
theorem dM_mayUse_34 : decode cM_mayUse 34 = .ok (.getfield 26, 3) := by decide +kernel
theorem dM_mayUse_37 : decode cM_mayUse 37 = .ok (.iload_n 2, 1) := by decide +kernel
theorem dM_mayUse_38 : decode cM_mayUse 38 = .ok (.iaload, 1) := by decide +kernel
theorem dM_mayUse_39 : decode cM_mayUse 39 = .ok (.aload_n 0, 1) := by decide +kernel
theorem dM_mayUse_40 : decode cM_mayUse 40 = .ok (.getfield 42, 3) := by decide +kernel
theorem dM_mayUse_43 : decode cM_mayUse 43 = .ok (.iload_n 1, 1) := by decide +kernel
theorem dM_mayUse_44 : decode cM_mayUse 44 = .ok (.iaload, 1) := by decide +kernel
theorem dM_mayUse_45 : decode cM_mayUse 45 = .ok (.if_icmp .lt 7, 3) := by decide +kernel
theorem dM_mayUse_48 : decode cM_mayUse 48 = .ok (.iconst 1, 1) := by decide +kernel
theorem dM_mayUse_49 : decode cM_mayUse 49 = .ok (.goto 4, 3) := by decide +kernel
theorem dM_mayUse_52 : decode cM_mayUse 52 = .ok (.iconst 0, 1) := by decide +kernel
theorem dM_mayUse_53 : decode cM_mayUse 53 = .ok (.ireturn, 1) := by decide +kernel
theorem dM_use_0 : decode cM_use 0 = .ok (.lload_n 2, 1) := by decide +kernel
theorem dM_use_1 : decode cM_use 1 = .ok (.lstore 4, 2) := by decide +kernel
theorem dM_use_3 : decode cM_use 3 = .ok (.aload_n 0, 1) := by decide +kernel
theorem dM_use_4 : decode cM_use 4 = .ok (.getfield 33, 3) := by decide +kernel
theorem dM_use_7 : decode cM_use 7 = .ok (.iload_n 1, 1) := by decide +kernel
theorem dM_use_8 : decode cM_use 8 = .ok (.iaload, 1) := by decide +kernel
theorem dM_use_9 : decode cM_use 9 = .ok (.lload 4, 2) := by decide +kernel
theorem dM_use_11 : decode cM_use 11 = .ok (.ldc2_w 106, 3) := by decide +kernel
theorem dM_use_14 : decode cM_use 14 = .ok (.ldiv, 1) := by decide +kernel
theorem dM_use_15 : decode cM_use 15 = .ok (.ldc2_w 108, 3) := by decide +kernel
theorem dM_use_18 : decode cM_use 18 = .ok (.lrem, 1) := by decide +kernel
theorem dM_use_19 : decode cM_use 19 = .ok (.l2i, 1) := by decide +kernel
theorem dM_use_20 : decode cM_use 20 = .ok (.ishr, 1) := by decide +kernel
theorem dM_use_21 : decode cM_use 21 = .ok (.iconst 1, 1) := by decide +kernel
theorem dM_use_22 : decode cM_use 22 = .ok (.iand, 1) := by decide +kernel
theorem dM_use_23 : decode cM_use 23 = .ok (.ifCond .ne 20, 3) := by decide +kernel
theorem dM_use_26 : decode cM_use 26 = .ok (.lload 4, 2) := by decide +kernel
theorem dM_use_28 : decode cM_use 28 = .ok (.ldc2_w 106, 3) := by decide +kernel
theorem dM_use_31 : decode cM_use 31 = .ok (.ldiv, 1) := by decide +kernel
theorem dM_use_32 : decode cM_use 32 = .ok (.lconst 1, 1) := by decide +kernel
theorem dM_use_33 : decode cM_use 33 = .ok (.ladd, 1) := by decide +kernel
theorem dM_use_34 : decode cM_use 34 = .ok (.ldc2_w 106, 3) := by decide +kernel
theorem dM_use_37 : decode cM_use 37 = .ok (.lmul, 1) := by decide +kernel
theorem dM_use_38 : decode cM_use 38 = .ok (.lstore 4, 2) := by decide +kernel
theorem dM_use_40 : decode cM_use 40 = .ok (.goto (-37), 3) := by decide +kernel
theorem dM_use_43 : decode cM_use 43 = .ok (.lload 4, 2) := by decide +kernel
theorem dM_use_45 : decode cM_use 45 = .ok (.aload_n 0, 1) := by decide +kernel
theorem dM_use_46 : decode cM_use 46 = .ok (.getfield 19, 3) := by decide +kernel
theorem dM_use_49 : decode cM_use 49 = .ok (.iload_n 1, 1) := by decide +kernel
theorem dM_use_50 : decode cM_use 50 = .ok (.laload, 1) := by decide +kernel
theorem dM_use_51 : decode cM_use 51 = .ok (.ladd, 1) := by decide +kernel
theorem dM_use_52 : decode cM_use 52 = .ok (.lreturn, 1) := by decide +kernel
theorem dM_lower_0 : decode cM_lower 0 = .ok (.aload_n 0, 1) := by decide +kernel
theorem dM_lower_1 : decode cM_lower 1 = .ok (.getfield 48, 3) := by decide +kernel
theorem dM_lower_4 : decode cM_lower 4 = .ok (.iload_n 2, 1) := by decide +kernel
theorem dM_lower_5 : decode cM_lower 5 = .ok (.laload, 1) := by decide +kernel
theorem dM_lower_6 : decode cM_lower 6 = .ok (.ldc2_w 118, 3) := by decide +kernel
theorem dM_lower_9 : decode cM_lower 9 = .ok (.lcmp, 1) := by decide +kernel
theorem dM_lower_10 : decode cM_lower 10 = .ok (.ifCond .eq 21, 3) := by decide +kernel
theorem dM_lower_13 : decode cM_lower 13 = .ok (.aload_n 0, 1) := by decide +kernel
theorem dM_lower_14 : decode cM_lower 14 = .ok (.iload_n 2, 1) := by decide +kernel
theorem dM_lower_15 : decode cM_lower 15 = .ok (.iload_n 3, 1) := by decide +kernel
theorem dM_lower_16 : decode cM_lower 16 = .ok (.invokevirtual 124, 3) := by decide +kernel
theorem dM_lower_19 : decode cM_lower 19 = .ok (.ifCond .eq 12, 3) := by decide +kernel
theorem dM_lower_22 : decode cM_lower 22 = .ok (.aload_n 0, 1) := by decide +kernel
theorem dM_lower_23 : decode cM_lower 23 = .ok (.iload_n 1, 1) := by decide +kernel
theorem dM_lower_24 : decode cM_lower 24 = .ok (.iload_n 3, 1) := by decide +kernel
theorem dM_lower_25 : decode cM_lower 25 = .ok (.invokevirtual 110, 3) := by decide +kernel
theorem dM_lower_28 : decode cM_lower 28 = .ok (.ifCond .ne 5, 3) := by decide +kernel
theorem dM_lower_31 : decode cM_lower 31 = .ok (.iconst 0, 1) := by decide +kernel
theorem dM_lower_32 : decode cM_lower 32 = .ok (.ireturn, 1) := by decide +kernel
theorem dM_lower_33 : decode cM_lower 33 = .ok (.aload_n 0, 1) := by decide +kernel
theorem dM_lower_34 : decode cM_lower 34 = .ok (.iload_n 3, 1) := by decide +kernel
theorem dM_lower_35 : decode cM_lower 35 = .ok (.aload_n 0, 1) := by decide +kernel
theorem dM_lower_36 : decode cM_lower 36 = .ok (.getfield 48, 3) := by decide +kernel
theorem dM_lower_39 : decode cM_lower 39 = .ok (.iload_n 2, 1) := by decide +kernel
theorem dM_lower_40 : decode cM_lower 40 = .ok (.laload, 1) := by decide +kernel
theorem dM_lower_41 : decode cM_lower 41 = .ok (.invokevirtual 114, 3) := by decide +kernel
theorem dM_lower_44 : decode cM_lower 44 = .ok (.lstore 4, 2) := by decide +kernel
theorem dM_lower_46 : decode cM_lower 46 = .ok (.aload_n 0, 1) := by decide +kernel
theorem dM_lower_47 : decode cM_lower 47 = .ok (.getfield 48, 3) := by decide +kernel
theorem dM_lower_50 : decode cM_lower 50 = .ok (.iload_n 3, 1) := by decide +kernel
theorem dM_lower_51 : decode cM_lower 51 = .ok (.laload, 1) := by decide +kernel
theorem dM_lower_52 : decode cM_lower 52 = .ok (.ldc2_w 118, 3) := by decide +kernel
theorem dM_lower_55 : decode cM_lower 55 = .ok (.lcmp, 1) := by decide +kernel
theorem dM_lower_56 : decode cM_lower 56 = .ok (.ifCond .eq 17, 3) := by decide +kernel
theorem dM_lower_59 : decode cM_lower 59 = .ok (.aload_n 0, 1) := by decide +kernel
theorem dM_lower_60 : decode cM_lower 60 = .ok (.getfield 48, 3) := by decide +kernel
theorem dM_lower_63 : decode cM_lower 63 = .ok (.iload_n 3, 1) := by decide +kernel
theorem dM_lower_64 : decode cM_lower 64 = .ok (.laload, 1) := by decide +kernel
theorem dM_lower_65 : decode cM_lower 65 = .ok (.lload 4, 2) := by decide +kernel
theorem dM_lower_67 : decode cM_lower 67 = .ok (.lcmp, 1) := by decide +kernel
theorem dM_lower_68 : decode cM_lower 68 = .ok (.ifCond .gt 5, 3) := by decide +kernel
theorem dM_lower_71 : decode cM_lower 71 = .ok (.iconst 0, 1) := by decide +kernel
theorem dM_lower_72 : decode cM_lower 72 = .ok (.ireturn, 1) := by decide +kernel
theorem dM_lower_73 : decode cM_lower 73 = .ok (.aload_n 0, 1) := by decide +kernel
theorem dM_lower_74 : decode cM_lower 74 = .ok (.getfield 48, 3) := by decide +kernel
theorem dM_lower_77 : decode cM_lower 77 = .ok (.iload_n 3, 1) := by decide +kernel
theorem dM_lower_78 : decode cM_lower 78 = .ok (.lload 4, 2) := by decide +kernel
theorem dM_lower_80 : decode cM_lower 80 = .ok (.lastore, 1) := by decide +kernel
theorem dM_lower_81 : decode cM_lower 81 = .ok (.iconst 1, 1) := by decide +kernel
theorem dM_lower_82 : decode cM_lower 82 = .ok (.ireturn, 1) := by decide +kernel
theorem dM_follows_0 : decode cM_follows 0 = .ok (.aload_n 0, 1) := by decide +kernel
theorem dM_follows_1 : decode cM_follows 1 = .ok (.getfield 16, 3) := by decide +kernel
theorem dM_follows_4 : decode cM_follows 4 = .ok (.iload_n 1, 1) := by decide +kernel
theorem dM_follows_5 : decode cM_follows 5 = .ok (.iaload, 1) := by decide +kernel
theorem dM_follows_6 : decode cM_follows 6 = .ok (.aload_n 0, 1) := by decide +kernel
theorem dM_follows_7 : decode cM_follows 7 = .ok (.getfield 13, 3) := by decide +kernel
theorem dM_follows_10 : decode cM_follows 10 = .ok (.iload_n 2, 1) := by decide +kernel
theorem dM_follows_11 : decode cM_follows 11 = .ok (.iaload, 1) := by decide +kernel
theorem dM_follows_12 : decode cM_follows 12 = .ok (.if_icmp .ne 21, 3) := by decide +kernel
theorem dM_follows_15 : decode cM_follows 15 = .ok (.aload_n 0, 1) := by decide +kernel
theorem dM_follows_16 : decode cM_follows 16 = .ok (.getfield 36, 3) := by decide +kernel
theorem dM_follows_19 : decode cM_follows 19 = .ok (.bipush 40, 2) := by decide +kernel
theorem dM_follows_21 : decode cM_follows 21 = .ok (.iload_n 1, 1) := by decide +kernel
theorem dM_follows_22 : decode cM_follows 22 = .ok (.imul, 1) := by decide +kernel
theorem dM_follows_23 : decode cM_follows 23 = .ok (.iload_n 2, 1) := by decide +kernel
theorem dM_follows_24 : decode cM_follows 24 = .ok (.iadd, 1) := by decide +kernel
theorem dM_follows_25 : decode cM_follows 25 = .ok (.baload, 1) := by decide +kernel
theorem dM_follows_26 : decode cM_follows 26 = .ok (.ifCond .ne 7, 3) := by decide +kernel
theorem dM_follows_29 : decode cM_follows 29 = .ok (.iconst 1, 1) := by decide +kernel
theorem dM_follows_30 : decode cM_follows 30 = .ok (.goto 4, 3) := by decide +kernel
theorem dM_follows_33 : decode cM_follows 33 = .ok (.iconst 0, 1) := by decide +kernel
theorem dM_follows_34 : decode cM_follows 34 = .ok (.ireturn, 1) := by decide +kernel
theorem dM_lastTo_0 : decode cM_lastTo 0 = .ok (.iconst (-1), 1) := by decide +kernel
theorem dM_lastTo_1 : decode cM_lastTo 1 = .ok (.istore_n 2, 1) := by decide +kernel
theorem dM_lastTo_2 : decode cM_lastTo 2 = .ok (.iconst 0, 1) := by decide +kernel
theorem dM_lastTo_3 : decode cM_lastTo 3 = .ok (.istore_n 3, 1) := by decide +kernel
theorem dM_lastTo_4 : decode cM_lastTo 4 = .ok (.iload_n 3, 1) := by decide +kernel
theorem dM_lastTo_5 : decode cM_lastTo 5 = .ok (.aload_n 0, 1) := by decide +kernel
theorem dM_lastTo_6 : decode cM_lastTo 6 = .ok (.getfield 80, 3) := by decide +kernel
theorem dM_lastTo_9 : decode cM_lastTo 9 = .ok (.if_icmp .ge 55, 3) := by decide +kernel
theorem dM_lastTo_12 : decode cM_lastTo 12 = .ok (.aload_n 0, 1) := by decide +kernel
theorem dM_lastTo_13 : decode cM_lastTo 13 = .ok (.getfield 16, 3) := by decide +kernel
theorem dM_lastTo_16 : decode cM_lastTo 16 = .ok (.iload_n 3, 1) := by decide +kernel
theorem dM_lastTo_17 : decode cM_lastTo 17 = .ok (.iaload, 1) := by decide +kernel
theorem dM_lastTo_18 : decode cM_lastTo 18 = .ok (.iload_n 1, 1) := by decide +kernel
theorem dM_lastTo_19 : decode cM_lastTo 19 = .ok (.if_icmp .ne 39, 3) := by decide +kernel
theorem dM_lastTo_22 : decode cM_lastTo 22 = .ok (.aload_n 0, 1) := by decide +kernel
theorem dM_lastTo_23 : decode cM_lastTo 23 = .ok (.getfield 48, 3) := by decide +kernel
theorem dM_lastTo_26 : decode cM_lastTo 26 = .ok (.iload_n 3, 1) := by decide +kernel
theorem dM_lastTo_27 : decode cM_lastTo 27 = .ok (.laload, 1) := by decide +kernel
theorem dM_lastTo_28 : decode cM_lastTo 28 = .ok (.ldc2_w 118, 3) := by decide +kernel
theorem dM_lastTo_31 : decode cM_lastTo 31 = .ok (.lcmp, 1) := by decide +kernel
theorem dM_lastTo_32 : decode cM_lastTo 32 = .ok (.ifCond .eq 26, 3) := by decide +kernel
theorem dM_lastTo_35 : decode cM_lastTo 35 = .ok (.iload_n 2, 1) := by decide +kernel
theorem dM_lastTo_36 : decode cM_lastTo 36 = .ok (.iconst (-1), 1) := by decide +kernel
theorem dM_lastTo_37 : decode cM_lastTo 37 = .ok (.if_icmp .eq 19, 3) := by decide +kernel
theorem dM_lastTo_40 : decode cM_lastTo 40 = .ok (.aload_n 0, 1) := by decide +kernel
theorem dM_lastTo_41 : decode cM_lastTo 41 = .ok (.getfield 48, 3) := by decide +kernel
theorem dM_lastTo_44 : decode cM_lastTo 44 = .ok (.iload_n 3, 1) := by decide +kernel
theorem dM_lastTo_45 : decode cM_lastTo 45 = .ok (.laload, 1) := by decide +kernel
theorem dM_lastTo_46 : decode cM_lastTo 46 = .ok (.aload_n 0, 1) := by decide +kernel
theorem dM_lastTo_47 : decode cM_lastTo 47 = .ok (.getfield 48, 3) := by decide +kernel
theorem dM_lastTo_50 : decode cM_lastTo 50 = .ok (.iload_n 2, 1) := by decide +kernel
theorem dM_lastTo_51 : decode cM_lastTo 51 = .ok (.laload, 1) := by decide +kernel
theorem dM_lastTo_52 : decode cM_lastTo 52 = .ok (.lcmp, 1) := by decide +kernel
theorem dM_lastTo_53 : decode cM_lastTo 53 = .ok (.ifCond .ge 5, 3) := by decide +kernel
theorem dM_lastTo_56 : decode cM_lastTo 56 = .ok (.iload_n 3, 1) := by decide +kernel
theorem dM_lastTo_57 : decode cM_lastTo 57 = .ok (.istore_n 2, 1) := by decide +kernel
theorem dM_lastTo_58 : decode cM_lastTo 58 = .ok (.iinc 3 1, 3) := by decide +kernel
theorem dM_lastTo_61 : decode cM_lastTo 61 = .ok (.goto (-57), 3) := by decide +kernel
theorem dM_lastTo_64 : decode cM_lastTo 64 = .ok (.iload_n 2, 1) := by decide +kernel
theorem dM_lastTo_65 : decode cM_lastTo 65 = .ok (.ireturn, 1) := by decide +kernel
theorem dM_before_0 : decode cM_before 0 = .ok (.aload_n 0, 1) := by decide +kernel
theorem dM_before_1 : decode cM_before 1 = .ok (.getfield 13, 3) := by decide +kernel
theorem dM_before_4 : decode cM_before 4 = .ok (.iload_n 2, 1) := by decide +kernel
theorem dM_before_5 : decode cM_before 5 = .ok (.iaload, 1) := by decide +kernel
theorem dM_before_6 : decode cM_before 6 = .ok (.iload_n 3, 1) := by decide +kernel
theorem dM_before_7 : decode cM_before 7 = .ok (.if_icmp .ne 22, 3) := by decide +kernel
theorem dM_before_10 : decode cM_before 10 = .ok (.aload_n 0, 1) := by decide +kernel
theorem dM_before_11 : decode cM_before 11 = .ok (.iload_n 2, 1) := by decide +kernel
theorem dM_before_12 : decode cM_before 12 = .ok (.lload 4, 2) := by decide +kernel
theorem dM_before_14 : decode cM_before 14 = .ok (.invokevirtual 114, 3) := by decide +kernel
theorem dM_before_17 : decode cM_before 17 = .ok (.aload_n 0, 1) := by decide +kernel
theorem dM_before_18 : decode cM_before 18 = .ok (.getfield 48, 3) := by decide +kernel
theorem dM_before_21 : decode cM_before 21 = .ok (.iload_n 2, 1) := by decide +kernel
theorem dM_before_22 : decode cM_before 22 = .ok (.laload, 1) := by decide +kernel
theorem dM_before_23 : decode cM_before 23 = .ok (.lcmp, 1) := by decide +kernel
theorem dM_before_24 : decode cM_before 24 = .ok (.ifCond .ne 5, 3) := by decide +kernel
theorem dM_before_27 : decode cM_before 27 = .ok (.iconst (-1), 1) := by decide +kernel
theorem dM_before_28 : decode cM_before 28 = .ok (.ireturn, 1) := by decide +kernel
theorem dM_before_29 : decode cM_before 29 = .ok (.iconst 0, 1) := by decide +kernel
theorem dM_before_30 : decode cM_before 30 = .ok (.istore 6, 2) := by decide +kernel
theorem dM_before_32 : decode cM_before 32 = .ok (.aload_n 0, 1) := by decide +kernel
theorem dM_before_33 : decode cM_before 33 = .ok (.getfield 48, 3) := by decide +kernel
theorem dM_before_36 : decode cM_before 36 = .ok (.iload 6, 2) := by decide +kernel
theorem dM_before_38 : decode cM_before 38 = .ok (.laload, 1) := by decide +kernel
theorem dM_before_39 : decode cM_before 39 = .ok (.ldc2_w 118, 3) := by decide +kernel
theorem dM_before_42 : decode cM_before 42 = .ok (.lcmp, 1) := by decide +kernel
theorem dM_before_43 : decode cM_before 43 = .ok (.ifCond .eq 35, 3) := by decide +kernel
theorem dM_before_46 : decode cM_before 46 = .ok (.aload_n 0, 1) := by decide +kernel
theorem dM_before_47 : decode cM_before 47 = .ok (.iload 6, 2) := by decide +kernel
theorem dM_before_49 : decode cM_before 49 = .ok (.iload_n 2, 1) := by decide +kernel
theorem dM_before_50 : decode cM_before 50 = .ok (.invokevirtual 124, 3) := by decide +kernel
theorem dM_before_53 : decode cM_before 53 = .ok (.ifCond .eq 25, 3) := by decide +kernel
theorem dM_before_56 : decode cM_before 56 = .ok (.aload_n 0, 1) := by decide +kernel
theorem dM_before_57 : decode cM_before 57 = .ok (.iload_n 2, 1) := by decide +kernel
theorem dM_before_58 : decode cM_before 58 = .ok (.aload_n 0, 1) := by decide +kernel
theorem dM_before_59 : decode cM_before 59 = .ok (.getfield 48, 3) := by decide +kernel
theorem dM_before_62 : decode cM_before 62 = .ok (.iload 6, 2) := by decide +kernel
theorem dM_before_64 : decode cM_before 64 = .ok (.laload, 1) := by decide +kernel
theorem dM_before_65 : decode cM_before 65 = .ok (.invokevirtual 114, 3) := by decide +kernel
theorem dM_before_68 : decode cM_before 68 = .ok (.aload_n 0, 1) := by decide +kernel
theorem dM_before_69 : decode cM_before 69 = .ok (.getfield 48, 3) := by decide +kernel
theorem dM_before_72 : decode cM_before 72 = .ok (.iload_n 2, 1) := by decide +kernel
theorem dM_before_73 : decode cM_before 73 = .ok (.laload, 1) := by decide +kernel
theorem dM_before_74 : decode cM_before 74 = .ok (.lcmp, 1) := by decide +kernel
theorem dM_before_75 : decode cM_before 75 = .ok (.ifCond .eq 9, 3) := by decide +kernel
theorem dM_before_78 : decode cM_before 78 = .ok (.iinc 6 1, 3) := by decide +kernel
theorem dM_before_81 : decode cM_before 81 = .ok (.goto (-49), 3) := by decide +kernel
theorem dM_before_84 : decode cM_before 84 = .ok (.iload 6, 2) := by decide +kernel
theorem dM_before_86 : decode cM_before 86 = .ok (.ireturn, 1) := by decide +kernel
theorem dM_step_0 : decode cM_step 0 = .ok (.aload_n 0, 1) := by decide +kernel
theorem dM_step_1 : decode cM_step 1 = .ok (.iconst 0, 1) := by decide +kernel
theorem dM_step_2 : decode cM_step 2 = .ok (.putfield 69, 3) := by decide +kernel
theorem dM_step_5 : decode cM_step 5 = .ok (.iload_n 1, 1) := by decide +kernel
theorem dM_step_6 : decode cM_step 6 = .ok (.i2l, 1) := by decide +kernel
theorem dM_step_7 : decode cM_step 7 = .ok (.lconst 0, 1) := by decide +kernel
theorem dM_step_8 : decode cM_step 8 = .ok (.aload_n 0, 1) := by decide +kernel
theorem dM_step_9 : decode cM_step 9 = .ok (.getfield 138, 3) := by decide +kernel
theorem dM_step_12 : decode cM_step 12 = .ok (.iconst 1, 1) := by decide +kernel
theorem dM_step_13 : decode cM_step 13 = .ok (.isub, 1) := by decide +kernel
theorem dM_step_14 : decode cM_step 14 = .ok (.i2l, 1) := by decide +kernel
theorem dM_step_15 : decode cM_step 15 = .ok (.invokestatic 76, 3) := by decide +kernel
theorem dM_step_18 : decode cM_step 18 = .ok (.ifCond .eq 12, 3) := by decide +kernel
theorem dM_step_21 : decode cM_step 21 = .ok (.aload_n 0, 1) := by decide +kernel
theorem dM_step_22 : decode cM_step 22 = .ok (.getfield 51, 3) := by decide +kernel
theorem dM_step_25 : decode cM_step 25 = .ok (.iload_n 1, 1) := by decide +kernel
theorem dM_step_26 : decode cM_step 26 = .ok (.iaload, 1) := by decide +kernel
theorem dM_step_27 : decode cM_step 27 = .ok (.goto 4, 3) := by decide +kernel
theorem dM_step_30 : decode cM_step 30 = .ok (.iconst (-1), 1) := by decide +kernel
theorem dM_step_31 : decode cM_step 31 = .ok (.ireturn, 1) := by decide +kernel
theorem dM_reaches_0 : decode cM_reaches 0 = .ok (.aload_n 0, 1) := by decide +kernel
theorem dM_reaches_1 : decode cM_reaches 1 = .ok (.aload_n 0, 1) := by decide +kernel
theorem dM_reaches_2 : decode cM_reaches 2 = .ok (.iload_n 1, 1) := by decide +kernel
theorem dM_reaches_3 : decode cM_reaches 3 = .ok (.invokevirtual 135, 3) := by decide +kernel
theorem dM_reaches_6 : decode cM_reaches 6 = .ok (.ifCond .eq 19, 3) := by decide +kernel
theorem dM_reaches_9 : decode cM_reaches 9 = .ok (.aload_n 0, 1) := by decide +kernel
theorem dM_reaches_10 : decode cM_reaches 10 = .ok (.iload_n 2, 1) := by decide +kernel
theorem dM_reaches_11 : decode cM_reaches 11 = .ok (.invokevirtual 86, 3) := by decide +kernel
theorem dM_reaches_14 : decode cM_reaches 14 = .ok (.ifCond .eq 11, 3) := by decide +kernel
theorem dM_reaches_17 : decode cM_reaches 17 = .ok (.aload_n 0, 1) := by decide +kernel
theorem dM_reaches_18 : decode cM_reaches 18 = .ok (.iload_n 3, 1) := by decide +kernel
theorem dM_reaches_19 : decode cM_reaches 19 = .ok (.invokevirtual 86, 3) := by decide +kernel
theorem dM_reaches_22 : decode cM_reaches 22 = .ok (.ifCond .ne 7, 3) := by decide +kernel
theorem dM_reaches_25 : decode cM_reaches 25 = .ok (.iconst 1, 1) := by decide +kernel
theorem dM_reaches_26 : decode cM_reaches 26 = .ok (.goto 4, 3) := by decide +kernel
theorem dM_reaches_29 : decode cM_reaches 29 = .ok (.iconst 0, 1) := by decide +kernel
theorem dM_reaches_30 : decode cM_reaches 30 = .ok (.putfield 69, 3) := by decide +kernel
theorem dM_reaches_33 : decode cM_reaches 33 = .ok (.aload_n 0, 1) := by decide +kernel
theorem dM_reaches_34 : decode cM_reaches 34 = .ok (.getfield 69, 3) := by decide +kernel
theorem dM_reaches_37 : decode cM_reaches 37 = .ok (.ifCond .ne 22, 3) := by decide +kernel
theorem dM_reaches_40 : decode cM_reaches 40 = .ok (.aload_n 0, 1) := by decide +kernel
theorem dM_reaches_41 : decode cM_reaches 41 = .ok (.iload_n 1, 1) := by decide +kernel
theorem dM_reaches_42 : decode cM_reaches 42 = .ok (.iload_n 2, 1) := by decide +kernel
theorem dM_reaches_43 : decode cM_reaches 43 = .ok (.iload_n 3, 1) := by decide +kernel
theorem dM_reaches_44 : decode cM_reaches 44 = .ok (.lconst 0, 1) := by decide +kernel
theorem dM_reaches_45 : decode cM_reaches 45 = .ok (.invokevirtual 141, 3) := by decide +kernel
theorem dM_reaches_48 : decode cM_reaches 48 = .ok (.ldc2_w 118, 3) := by decide +kernel
theorem dM_reaches_51 : decode cM_reaches 51 = .ok (.lcmp, 1) := by decide +kernel
theorem dM_reaches_52 : decode cM_reaches 52 = .ok (.ifCond .eq 7, 3) := by decide +kernel
theorem dM_reaches_55 : decode cM_reaches 55 = .ok (.iconst 1, 1) := by decide +kernel
theorem dM_reaches_56 : decode cM_reaches 56 = .ok (.goto 4, 3) := by decide +kernel
theorem dM_reaches_59 : decode cM_reaches 59 = .ok (.iconst 0, 1) := by decide +kernel
theorem dM_reaches_60 : decode cM_reaches 60 = .ok (.ireturn, 1) := by decide +kernel
theorem dM_mark_0 : decode cM_mark 0 = .ok (.iconst 0, 1) := by decide +kernel
theorem dM_mark_1 : decode cM_mark 1 = .ok (.istore_n 2, 1) := by decide +kernel
theorem dM_mark_2 : decode cM_mark 2 = .ok (.iconst 0, 1) := by decide +kernel
theorem dM_mark_3 : decode cM_mark 3 = .ok (.istore_n 3, 1) := by decide +kernel
theorem dM_mark_4 : decode cM_mark 4 = .ok (.iload_n 3, 1) := by decide +kernel
theorem dM_mark_5 : decode cM_mark 5 = .ok (.aload_n 0, 1) := by decide +kernel
theorem dM_mark_6 : decode cM_mark 6 = .ok (.getfield 149, 3) := by decide +kernel
theorem dM_mark_9 : decode cM_mark 9 = .ok (.if_icmp .ge 29, 3) := by decide +kernel
theorem dM_mark_12 : decode cM_mark 12 = .ok (.iload_n 2, 1) := by decide +kernel
theorem dM_mark_13 : decode cM_mark 13 = .ok (.ifCond .ne 13, 3) := by decide +kernel
theorem dM_mark_16 : decode cM_mark 16 = .ok (.aload_n 0, 1) := by decide +kernel
theorem dM_mark_17 : decode cM_mark 17 = .ok (.getfield 45, 3) := by decide +kernel
theorem dM_mark_20 : decode cM_mark 20 = .ok (.iload_n 3, 1) := by decide +kernel
theorem dM_mark_21 : decode cM_mark 21 = .ok (.iaload, 1) := by decide +kernel
theorem dM_mark_22 : decode cM_mark 22 = .ok (.iload_n 1, 1) := by decide +kernel
theorem dM_mark_23 : decode cM_mark 23 = .ok (.if_icmp .ne 7, 3) := by decide +kernel
theorem dM_mark_26 : decode cM_mark 26 = .ok (.iconst 1, 1) := by decide +kernel
theorem dM_mark_27 : decode cM_mark 27 = .ok (.goto 4, 3) := by decide +kernel
theorem dM_mark_30 : decode cM_mark 30 = .ok (.iconst 0, 1) := by decide +kernel
theorem dM_mark_31 : decode cM_mark 31 = .ok (.istore_n 2, 1) := by decide +kernel
theorem dM_mark_32 : decode cM_mark 32 = .ok (.iinc 3 1, 3) := by decide +kernel
theorem dM_mark_35 : decode cM_mark 35 = .ok (.goto (-31), 3) := by decide +kernel
theorem dM_mark_38 : decode cM_mark 38 = .ok (.aload_n 0, 1) := by decide +kernel
theorem dM_mark_39 : decode cM_mark 39 = .ok (.aload_n 0, 1) := by decide +kernel
theorem dM_mark_40 : decode cM_mark 40 = .ok (.iload_n 1, 1) := by decide +kernel
theorem dM_mark_41 : decode cM_mark 41 = .ok (.invokevirtual 86, 3) := by decide +kernel
theorem dM_mark_44 : decode cM_mark 44 = .ok (.ifCond .ne 7, 3) := by decide +kernel
theorem dM_mark_47 : decode cM_mark 47 = .ok (.iconst 1, 1) := by decide +kernel
theorem dM_mark_48 : decode cM_mark 48 = .ok (.goto 25, 3) := by decide +kernel
theorem dM_mark_51 : decode cM_mark 51 = .ok (.iload_n 2, 1) := by decide +kernel
theorem dM_mark_52 : decode cM_mark 52 = .ok (.ifCond .eq 7, 3) := by decide +kernel
theorem dM_mark_55 : decode cM_mark 55 = .ok (.iconst 2, 1) := by decide +kernel
theorem dM_mark_56 : decode cM_mark 56 = .ok (.goto 17, 3) := by decide +kernel
theorem dM_mark_59 : decode cM_mark 59 = .ok (.aload_n 0, 1) := by decide +kernel
theorem dM_mark_60 : decode cM_mark 60 = .ok (.getfield 149, 3) := by decide +kernel
theorem dM_mark_63 : decode cM_mark 63 = .ok (.bipush 8, 2) := by decide +kernel
theorem dM_mark_65 : decode cM_mark 65 = .ok (.if_icmp .ne 7, 3) := by decide +kernel
theorem dM_mark_68 : decode cM_mark 68 = .ok (.iconst 3, 1) := by decide +kernel
theorem dM_mark_69 : decode cM_mark 69 = .ok (.goto 4, 3) := by decide +kernel
theorem dM_mark_72 : decode cM_mark 72 = .ok (.iconst 0, 1) := by decide +kernel
theorem dM_mark_73 : decode cM_mark 73 = .ok (.putfield 69, 3) := by decide +kernel
theorem dM_mark_76 : decode cM_mark 76 = .ok (.aload_n 0, 1) := by decide +kernel
theorem dM_mark_77 : decode cM_mark 77 = .ok (.getfield 69, 3) := by decide +kernel
theorem dM_mark_80 : decode cM_mark 80 = .ok (.ifCond .le 5, 3) := by decide +kernel
theorem dM_mark_83 : decode cM_mark 83 = .ok (.iconst 0, 1) := by decide +kernel
theorem dM_mark_84 : decode cM_mark 84 = .ok (.ireturn, 1) := by decide +kernel
theorem dM_mark_85 : decode cM_mark 85 = .ok (.aload_n 0, 1) := by decide +kernel
theorem dM_mark_86 : decode cM_mark 86 = .ok (.getfield 45, 3) := by decide +kernel
theorem dM_mark_89 : decode cM_mark 89 = .ok (.aload_n 0, 1) := by decide +kernel
theorem dM_mark_90 : decode cM_mark 90 = .ok (.getfield 149, 3) := by decide +kernel
theorem dM_mark_93 : decode cM_mark 93 = .ok (.iload_n 1, 1) := by decide +kernel
theorem dM_mark_94 : decode cM_mark 94 = .ok (.iastore, 1) := by decide +kernel
theorem dM_mark_95 : decode cM_mark 95 = .ok (.aload_n 0, 1) := by decide +kernel
theorem dM_mark_96 : decode cM_mark 96 = .ok (.dup, 1) := by decide +kernel
theorem dM_mark_97 : decode cM_mark 97 = .ok (.getfield 149, 3) := by decide +kernel
theorem dM_mark_100 : decode cM_mark 100 = .ok (.iconst 1, 1) := by decide +kernel
theorem dM_mark_101 : decode cM_mark 101 = .ok (.iadd, 1) := by decide +kernel
theorem dM_mark_102 : decode cM_mark 102 = .ok (.putfield 149, 3) := by decide +kernel
theorem dM_mark_105 : decode cM_mark 105 = .ok (.aload_n 0, 1) := by decide +kernel
theorem dM_mark_106 : decode cM_mark 106 = .ok (.getfield 149, 3) := by decide +kernel
theorem dM_mark_109 : decode cM_mark 109 = .ok (.ireturn, 1) := by decide +kernel
theorem dM_table_0 : decode cM_table 0 = .ok (.aload_n 0, 1) := by decide +kernel
theorem dM_table_1 : decode cM_table 1 = .ok (.iload_n 1, 1) := by decide +kernel
theorem dM_table_2 : decode cM_table 2 = .ok (.i2l, 1) := by decide +kernel
theorem dM_table_3 : decode cM_table 3 = .ok (.lconst 0, 1) := by decide +kernel
theorem dM_table_4 : decode cM_table 4 = .ok (.aload_n 0, 1) := by decide +kernel
theorem dM_table_5 : decode cM_table 5 = .ok (.getfield 149, 3) := by decide +kernel
theorem dM_table_8 : decode cM_table 8 = .ok (.iconst 1, 1) := by decide +kernel
theorem dM_table_9 : decode cM_table 9 = .ok (.isub, 1) := by decide +kernel
theorem dM_table_10 : decode cM_table 10 = .ok (.i2l, 1) := by decide +kernel
theorem dM_table_11 : decode cM_table 11 = .ok (.invokestatic 76, 3) := by decide +kernel
theorem dM_table_14 : decode cM_table 14 = .ok (.ifCond .eq 19, 3) := by decide +kernel
theorem dM_table_17 : decode cM_table 17 = .ok (.iload_n 2, 1) := by decide +kernel
theorem dM_table_18 : decode cM_table 18 = .ok (.i2l, 1) := by decide +kernel
theorem dM_table_19 : decode cM_table 19 = .ok (.lconst 0, 1) := by decide +kernel
theorem dM_table_20 : decode cM_table 20 = .ok (.aload_n 0, 1) := by decide +kernel
theorem dM_table_21 : decode cM_table 21 = .ok (.getfield 149, 3) := by decide +kernel
theorem dM_table_24 : decode cM_table 24 = .ok (.iconst 1, 1) := by decide +kernel
theorem dM_table_25 : decode cM_table 25 = .ok (.isub, 1) := by decide +kernel
theorem dM_table_26 : decode cM_table 26 = .ok (.i2l, 1) := by decide +kernel
theorem dM_table_27 : decode cM_table 27 = .ok (.invokestatic 76, 3) := by decide +kernel
theorem dM_table_30 : decode cM_table 30 = .ok (.ifCond .ne 7, 3) := by decide +kernel
theorem dM_table_33 : decode cM_table 33 = .ok (.iconst 1, 1) := by decide +kernel
theorem dM_table_34 : decode cM_table 34 = .ok (.goto 15, 3) := by decide +kernel
theorem dM_table_37 : decode cM_table 37 = .ok (.aload_n 0, 1) := by decide +kernel
theorem dM_table_38 : decode cM_table 38 = .ok (.getfield 101, 3) := by decide +kernel
theorem dM_table_41 : decode cM_table 41 = .ok (.ifCond .ne 7, 3) := by decide +kernel
theorem dM_table_44 : decode cM_table 44 = .ok (.iconst 2, 1) := by decide +kernel
theorem dM_table_45 : decode cM_table 45 = .ok (.goto 4, 3) := by decide +kernel
theorem dM_table_48 : decode cM_table 48 = .ok (.iconst 0, 1) := by decide +kernel
theorem dM_table_49 : decode cM_table 49 = .ok (.putfield 69, 3) := by decide +kernel
theorem dM_table_52 : decode cM_table 52 = .ok (.aload_n 0, 1) := by decide +kernel
theorem dM_table_53 : decode cM_table 53 = .ok (.getfield 69, 3) := by decide +kernel
theorem dM_table_56 : decode cM_table 56 = .ok (.ifCond .le 7, 3) := by decide +kernel
theorem dM_table_59 : decode cM_table 59 = .ok (.lconst 0, 1) := by decide +kernel
theorem dM_table_60 : decode cM_table 60 = .ok (.goto 21, 3) := by decide +kernel
theorem dM_table_63 : decode cM_table 63 = .ok (.aload_n 0, 1) := by decide +kernel
theorem dM_table_64 : decode cM_table 64 = .ok (.iconst 0, 1) := by decide +kernel
theorem dM_table_65 : decode cM_table 65 = .ok (.aload_n 0, 1) := by decide +kernel
theorem dM_table_66 : decode cM_table 66 = .ok (.getfield 45, 3) := by decide +kernel
theorem dM_table_69 : decode cM_table 69 = .ok (.iload_n 1, 1) := by decide +kernel
theorem dM_table_70 : decode cM_table 70 = .ok (.iaload, 1) := by decide +kernel
theorem dM_table_71 : decode cM_table 71 = .ok (.aload_n 0, 1) := by decide +kernel
theorem dM_table_72 : decode cM_table 72 = .ok (.getfield 45, 3) := by decide +kernel
theorem dM_table_75 : decode cM_table 75 = .ok (.iload_n 2, 1) := by decide +kernel
theorem dM_table_76 : decode cM_table 76 = .ok (.iaload, 1) := by decide +kernel
theorem dM_table_77 : decode cM_table 77 = .ok (.lconst 0, 1) := by decide +kernel
theorem dM_table_78 : decode cM_table 78 = .ok (.invokevirtual 141, 3) := by decide +kernel
theorem dM_table_81 : decode cM_table 81 = .ok (.lreturn, 1) := by decide +kernel
theorem dM_k_0 : decode cM_k 0 = .ok (.aload_n 0, 1) := by decide +kernel
theorem dM_k_1 : decode cM_k 1 = .ok (.aload_n 0, 1) := by decide +kernel
theorem dM_k_2 : decode cM_k 2 = .ok (.iload_n 1, 1) := by decide +kernel
theorem dM_k_3 : decode cM_k 3 = .ok (.invokevirtual 86, 3) := by decide +kernel
theorem dM_k_6 : decode cM_k 6 = .ok (.ifCond .eq 28, 3) := by decide +kernel
theorem dM_k_9 : decode cM_k 9 = .ok (.aload_n 0, 1) := by decide +kernel
theorem dM_k_10 : decode cM_k 10 = .ok (.iload_n 2, 1) := by decide +kernel
theorem dM_k_11 : decode cM_k 11 = .ok (.invokevirtual 86, 3) := by decide +kernel
theorem dM_k_14 : decode cM_k 14 = .ok (.ifCond .eq 20, 3) := by decide +kernel
theorem dM_k_17 : decode cM_k 17 = .ok (.iload_n 1, 1) := by decide +kernel
theorem dM_k_18 : decode cM_k 18 = .ok (.iload_n 2, 1) := by decide +kernel
theorem dM_k_19 : decode cM_k 19 = .ok (.if_icmp .eq 15, 3) := by decide +kernel
theorem dM_k_22 : decode cM_k 22 = .ok (.iload_n 3, 1) := by decide +kernel
theorem dM_k_23 : decode cM_k 23 = .ok (.i2l, 1) := by decide +kernel
theorem dM_k_24 : decode cM_k 24 = .ok (.lconst 0, 1) := by decide +kernel
theorem dM_k_25 : decode cM_k 25 = .ok (.ldc2_w 168, 3) := by decide +kernel
theorem dM_k_28 : decode cM_k 28 = .ok (.invokestatic 76, 3) := by decide +kernel
theorem dM_k_31 : decode cM_k 31 = .ok (.ifCond .ne 7, 3) := by decide +kernel
theorem dM_k_34 : decode cM_k 34 = .ok (.iconst 1, 1) := by decide +kernel
theorem dM_k_35 : decode cM_k 35 = .ok (.goto 15, 3) := by decide +kernel
theorem dM_k_38 : decode cM_k 38 = .ok (.aload_n 0, 1) := by decide +kernel
theorem dM_k_39 : decode cM_k 39 = .ok (.getfield 101, 3) := by decide +kernel
theorem dM_k_42 : decode cM_k 42 = .ok (.ifCond .ne 7, 3) := by decide +kernel
theorem dM_k_45 : decode cM_k 45 = .ok (.iconst 2, 1) := by decide +kernel
theorem dM_k_46 : decode cM_k 46 = .ok (.goto 4, 3) := by decide +kernel
theorem dM_k_49 : decode cM_k 49 = .ok (.iconst 0, 1) := by decide +kernel
theorem dM_k_50 : decode cM_k 50 = .ok (.putfield 69, 3) := by decide +kernel
theorem dM_k_53 : decode cM_k 53 = .ok (.aload_n 0, 1) := by decide +kernel
theorem dM_k_54 : decode cM_k 54 = .ok (.getfield 69, 3) := by decide +kernel
theorem dM_k_57 : decode cM_k 57 = .ok (.ifCond .le 5, 3) := by decide +kernel
theorem dM_k_60 : decode cM_k 60 = .ok (.lconst 0, 1) := by decide +kernel
theorem dM_k_61 : decode cM_k 61 = .ok (.lreturn, 1) := by decide +kernel
theorem dM_k_62 : decode cM_k 62 = .ok (.aload_n 0, 1) := by decide +kernel
theorem dM_k_63 : decode cM_k 63 = .ok (.iload_n 1, 1) := by decide +kernel
theorem dM_k_64 : decode cM_k 64 = .ok (.iload_n 2, 1) := by decide +kernel
theorem dM_k_65 : decode cM_k 65 = .ok (.invokevirtual 170, 3) := by decide +kernel
theorem dM_k_68 : decode cM_k 68 = .ok (.aload_n 0, 1) := by decide +kernel
theorem dM_k_69 : decode cM_k 69 = .ok (.iconst 0, 1) := by decide +kernel
theorem dM_k_70 : decode cM_k 70 = .ok (.putfield 138, 3) := by decide +kernel
theorem dM_k_73 : decode cM_k 73 = .ok (.iload_n 3, 1) := by decide +kernel
theorem dM_k_74 : decode cM_k 74 = .ok (.aload_n 0, 1) := by decide +kernel
theorem dM_k_75 : decode cM_k 75 = .ok (.getfield 155, 3) := by decide +kernel
theorem dM_k_78 : decode cM_k 78 = .ok (.if_icmp .lt 7, 3) := by decide +kernel
theorem dM_k_81 : decode cM_k 81 = .ok (.ldc2_w 118, 3) := by decide +kernel
theorem dM_k_84 : decode cM_k 84 = .ok (.lreturn, 1) := by decide +kernel
theorem dM_k_85 : decode cM_k 85 = .ok (.aload_n 0, 1) := by decide +kernel
theorem dM_k_86 : decode cM_k 86 = .ok (.aload_n 0, 1) := by decide +kernel
theorem dM_k_87 : decode cM_k 87 = .ok (.getfield 57, 3) := by decide +kernel
theorem dM_k_90 : decode cM_k 90 = .ok (.iload_n 3, 1) := by decide +kernel
theorem dM_k_91 : decode cM_k 91 = .ok (.iaload, 1) := by decide +kernel
theorem dM_k_92 : decode cM_k 92 = .ok (.putfield 138, 3) := by decide +kernel
theorem dM_k_95 : decode cM_k 95 = .ok (.iconst 0, 1) := by decide +kernel
theorem dM_k_96 : decode cM_k 96 = .ok (.istore 4, 2) := by decide +kernel
theorem dM_k_98 : decode cM_k 98 = .ok (.iload 4, 2) := by decide +kernel
theorem dM_k_100 : decode cM_k 100 = .ok (.aload_n 0, 1) := by decide +kernel
theorem dM_k_101 : decode cM_k 101 = .ok (.getfield 138, 3) := by decide +kernel
theorem dM_k_104 : decode cM_k 104 = .ok (.if_icmp .ge 27, 3) := by decide +kernel
theorem dM_k_107 : decode cM_k 107 = .ok (.aload_n 0, 1) := by decide +kernel
theorem dM_k_108 : decode cM_k 108 = .ok (.getfield 51, 3) := by decide +kernel
theorem dM_k_111 : decode cM_k 111 = .ok (.iload 4, 2) := by decide +kernel
theorem dM_k_113 : decode cM_k 113 = .ok (.aload_n 0, 1) := by decide +kernel
theorem dM_k_114 : decode cM_k 114 = .ok (.getfield 60, 3) := by decide +kernel
theorem dM_k_117 : decode cM_k 117 = .ok (.iconst 5, 1) := by decide +kernel
theorem dM_k_118 : decode cM_k 118 = .ok (.iload_n 3, 1) := by decide +kernel
theorem dM_k_119 : decode cM_k 119 = .ok (.imul, 1) := by decide +kernel
theorem dM_k_120 : decode cM_k 120 = .ok (.iload 4, 2) := by decide +kernel
theorem dM_k_122 : decode cM_k 122 = .ok (.iadd, 1) := by decide +kernel
theorem dM_k_123 : decode cM_k 123 = .ok (.iaload, 1) := by decide +kernel
theorem dM_k_124 : decode cM_k 124 = .ok (.iastore, 1) := by decide +kernel
theorem dM_k_125 : decode cM_k 125 = .ok (.iinc 4 1, 3) := by decide +kernel
theorem dM_k_128 : decode cM_k 128 = .ok (.goto (-30), 3) := by decide +kernel
theorem dM_k_131 : decode cM_k 131 = .ok (.aload_n 0, 1) := by decide +kernel
theorem dM_k_132 : decode cM_k 132 = .ok (.getfield 54, 3) := by decide +kernel
theorem dM_k_135 : decode cM_k 135 = .ok (.iload_n 3, 1) := by decide +kernel
theorem dM_k_136 : decode cM_k 136 = .ok (.laload, 1) := by decide +kernel
theorem dM_k_137 : decode cM_k 137 = .ok (.lreturn, 1) := by decide +kernel
theorem dM_goThrough_0 : decode cM_goThrough 0 = .ok (.aload_n 0, 1) := by decide +kernel
theorem dM_goThrough_1 : decode cM_goThrough 1 = .ok (.iconst 0, 1) := by decide +kernel
theorem dM_goThrough_2 : decode cM_goThrough 2 = .ok (.putfield 155, 3) := by decide +kernel
theorem dM_goThrough_5 : decode cM_goThrough 5 = .ok (.iconst 0, 1) := by decide +kernel
theorem dM_goThrough_6 : decode cM_goThrough 6 = .ok (.istore_n 3, 1) := by decide +kernel
theorem dM_goThrough_7 : decode cM_goThrough 7 = .ok (.aload_n 0, 1) := by decide +kernel
theorem dM_goThrough_8 : decode cM_goThrough 8 = .ok (.getfield 66, 3) := by decide +kernel
theorem dM_goThrough_11 : decode cM_goThrough 11 = .ok (.iconst 0, 1) := by decide +kernel
theorem dM_goThrough_12 : decode cM_goThrough 12 = .ok (.lconst 0, 1) := by decide +kernel
theorem dM_goThrough_13 : decode cM_goThrough 13 = .ok (.lastore, 1) := by decide +kernel
theorem dM_goThrough_14 : decode cM_goThrough 14 = .ok (.aload_n 0, 1) := by decide +kernel
theorem dM_goThrough_15 : decode cM_goThrough 15 = .ok (.getfield 63, 3) := by decide +kernel
theorem dM_goThrough_18 : decode cM_goThrough 18 = .ok (.iconst 0, 1) := by decide +kernel
theorem dM_goThrough_19 : decode cM_goThrough 19 = .ok (.iconst (-1), 1) := by decide +kernel
theorem dM_goThrough_20 : decode cM_goThrough 20 = .ok (.iastore, 1) := by decide +kernel
theorem dM_goThrough_21 : decode cM_goThrough 21 = .ok (.iload_n 3, 1) := by decide +kernel
theorem dM_goThrough_22 : decode cM_goThrough 22 = .ok (.ifCond .lt 123, 3) := by decide +kernel
theorem dM_goThrough_25 : decode cM_goThrough 25 = .ok (.aload_n 0, 1) := by decide +kernel
theorem dM_goThrough_26 : decode cM_goThrough 26 = .ok (.getfield 63, 3) := by decide +kernel
theorem dM_goThrough_29 : decode cM_goThrough 29 = .ok (.iload_n 3, 1) := by decide +kernel
theorem dM_goThrough_30 : decode cM_goThrough 30 = .ok (.iaload, 1) := by decide +kernel
theorem dM_goThrough_31 : decode cM_goThrough 31 = .ok (.iconst 1, 1) := by decide +kernel
theorem dM_goThrough_32 : decode cM_goThrough 32 = .ok (.iadd, 1) := by decide +kernel
theorem dM_goThrough_33 : decode cM_goThrough 33 = .ok (.istore 4, 2) := by decide +kernel
theorem dM_goThrough_35 : decode cM_goThrough 35 = .ok (.iload 4, 2) := by decide +kernel
theorem dM_goThrough_37 : decode cM_goThrough 37 = .ok (.aload_n 0, 1) := by decide +kernel
theorem dM_goThrough_38 : decode cM_goThrough 38 = .ok (.getfield 80, 3) := by decide +kernel
theorem dM_goThrough_41 : decode cM_goThrough 41 = .ok (.if_icmp .ge 20, 3) := by decide +kernel
theorem dM_goThrough_44 : decode cM_goThrough 44 = .ok (.aload_n 0, 1) := by decide +kernel
theorem dM_goThrough_45 : decode cM_goThrough 45 = .ok (.iload_n 1, 1) := by decide +kernel
theorem dM_goThrough_46 : decode cM_goThrough 46 = .ok (.iload_n 3, 1) := by decide +kernel
theorem dM_goThrough_47 : decode cM_goThrough 47 = .ok (.iload 4, 2) := by decide +kernel
theorem dM_goThrough_49 : decode cM_goThrough 49 = .ok (.invokevirtual 161, 3) := by decide +kernel
theorem dM_goThrough_52 : decode cM_goThrough 52 = .ok (.ifCond .ne 9, 3) := by decide +kernel
theorem dM_goThrough_55 : decode cM_goThrough 55 = .ok (.iinc 4 1, 3) := by decide +kernel
theorem dM_goThrough_58 : decode cM_goThrough 58 = .ok (.goto (-23), 3) := by decide +kernel
theorem dM_goThrough_61 : decode cM_goThrough 61 = .ok (.aload_n 0, 1) := by decide +kernel
theorem dM_goThrough_62 : decode cM_goThrough 62 = .ok (.getfield 63, 3) := by decide +kernel
theorem dM_goThrough_65 : decode cM_goThrough 65 = .ok (.iload_n 3, 1) := by decide +kernel
theorem dM_goThrough_66 : decode cM_goThrough 66 = .ok (.iload 4, 2) := by decide +kernel
theorem dM_goThrough_68 : decode cM_goThrough 68 = .ok (.iastore, 1) := by decide +kernel
theorem dM_goThrough_69 : decode cM_goThrough 69 = .ok (.iload 4, 2) := by decide +kernel
theorem dM_goThrough_71 : decode cM_goThrough 71 = .ok (.aload_n 0, 1) := by decide +kernel
theorem dM_goThrough_72 : decode cM_goThrough 72 = .ok (.getfield 80, 3) := by decide +kernel
theorem dM_goThrough_75 : decode cM_goThrough 75 = .ok (.if_icmp .ne 9, 3) := by decide +kernel
theorem dM_goThrough_78 : decode cM_goThrough 78 = .ok (.iinc 3 (-1), 3) := by decide +kernel
theorem dM_goThrough_81 : decode cM_goThrough 81 = .ok (.goto (-60), 3) := by decide +kernel
theorem dM_goThrough_84 : decode cM_goThrough 84 = .ok (.aload_n 0, 1) := by decide +kernel
theorem dM_goThrough_85 : decode cM_goThrough 85 = .ok (.getfield 66, 3) := by decide +kernel
theorem dM_goThrough_88 : decode cM_goThrough 88 = .ok (.iload_n 3, 1) := by decide +kernel
theorem dM_goThrough_89 : decode cM_goThrough 89 = .ok (.iconst 1, 1) := by decide +kernel
theorem dM_goThrough_90 : decode cM_goThrough 90 = .ok (.iadd, 1) := by decide +kernel
theorem dM_goThrough_91 : decode cM_goThrough 91 = .ok (.aload_n 0, 1) := by decide +kernel
theorem dM_goThrough_92 : decode cM_goThrough 92 = .ok (.iload 4, 2) := by decide +kernel
theorem dM_goThrough_94 : decode cM_goThrough 94 = .ok (.aload_n 0, 1) := by decide +kernel
theorem dM_goThrough_95 : decode cM_goThrough 95 = .ok (.getfield 66, 3) := by decide +kernel
theorem dM_goThrough_98 : decode cM_goThrough 98 = .ok (.iload_n 3, 1) := by decide +kernel
theorem dM_goThrough_99 : decode cM_goThrough 99 = .ok (.laload, 1) := by decide +kernel
theorem dM_goThrough_100 : decode cM_goThrough 100 = .ok (.invokevirtual 114, 3) := by decide +kernel
theorem dM_goThrough_103 : decode cM_goThrough 103 = .ok (.lastore, 1) := by decide +kernel
theorem dM_goThrough_104 : decode cM_goThrough 104 = .ok (.aload_n 0, 1) := by decide +kernel
theorem dM_goThrough_105 : decode cM_goThrough 105 = .ok (.getfield 16, 3) := by decide +kernel
theorem dM_goThrough_108 : decode cM_goThrough 108 = .ok (.iload 4, 2) := by decide +kernel
theorem dM_goThrough_110 : decode cM_goThrough 110 = .ok (.iaload, 1) := by decide +kernel
theorem dM_goThrough_111 : decode cM_goThrough 111 = .ok (.iload_n 2, 1) := by decide +kernel
theorem dM_goThrough_112 : decode cM_goThrough 112 = .ok (.if_icmp .ne 13, 3) := by decide +kernel
theorem dM_goThrough_115 : decode cM_goThrough 115 = .ok (.aload_n 0, 1) := by decide +kernel
theorem dM_goThrough_116 : decode cM_goThrough 116 = .ok (.iload_n 3, 1) := by decide +kernel
theorem dM_goThrough_117 : decode cM_goThrough 117 = .ok (.iconst 1, 1) := by decide +kernel
theorem dM_goThrough_118 : decode cM_goThrough 118 = .ok (.iadd, 1) := by decide +kernel
theorem dM_goThrough_119 : decode cM_goThrough 119 = .ok (.invokevirtual 164, 3) := by decide +kernel
theorem dM_goThrough_122 : decode cM_goThrough 122 = .ok (.goto 20, 3) := by decide +kernel
theorem dM_goThrough_125 : decode cM_goThrough 125 = .ok (.iload_n 3, 1) := by decide +kernel
theorem dM_goThrough_126 : decode cM_goThrough 126 = .ok (.iconst 1, 1) := by decide +kernel
theorem dM_goThrough_127 : decode cM_goThrough 127 = .ok (.iadd, 1) := by decide +kernel
theorem dM_goThrough_128 : decode cM_goThrough 128 = .ok (.iconst 5, 1) := by decide +kernel
theorem dM_goThrough_129 : decode cM_goThrough 129 = .ok (.if_icmp .ge 13, 3) := by decide +kernel
theorem dM_goThrough_132 : decode cM_goThrough 132 = .ok (.iinc 3 1, 3) := by decide +kernel
theorem dM_goThrough_135 : decode cM_goThrough 135 = .ok (.aload_n 0, 1) := by decide +kernel
theorem dM_goThrough_136 : decode cM_goThrough 136 = .ok (.getfield 63, 3) := by decide +kernel
theorem dM_goThrough_139 : decode cM_goThrough 139 = .ok (.iload_n 3, 1) := by decide +kernel
theorem dM_goThrough_140 : decode cM_goThrough 140 = .ok (.iconst (-1), 1) := by decide +kernel
theorem dM_goThrough_141 : decode cM_goThrough 141 = .ok (.iastore, 1) := by decide +kernel
theorem dM_goThrough_142 : decode cM_goThrough 142 = .ok (.goto (-121), 3) := by decide +kernel
theorem dM_goThrough_145 : decode cM_goThrough 145 = .ok (.return_, 1) := by decide +kernel
theorem dM_mayGo_0 : decode cM_mayGo 0 = .ok (.iload_n 2, 1) := by decide +kernel
theorem dM_mayGo_1 : decode cM_mayGo 1 = .ok (.ifCond .ne 7, 3) := by decide +kernel
theorem dM_mayGo_4 : decode cM_mayGo 4 = .ok (.iload_n 1, 1) := by decide +kernel
theorem dM_mayGo_5 : decode cM_mayGo 5 = .ok (.goto 16, 3) := by decide +kernel
theorem dM_mayGo_8 : decode cM_mayGo 8 = .ok (.aload_n 0, 1) := by decide +kernel
theorem dM_mayGo_9 : decode cM_mayGo 9 = .ok (.getfield 16, 3) := by decide +kernel
theorem dM_mayGo_12 : decode cM_mayGo 12 = .ok (.aload_n 0, 1) := by decide +kernel
theorem dM_mayGo_13 : decode cM_mayGo 13 = .ok (.getfield 63, 3) := by decide +kernel
theorem dM_mayGo_16 : decode cM_mayGo 16 = .ok (.iload_n 2, 1) := by decide +kernel
theorem dM_mayGo_17 : decode cM_mayGo 17 = .ok (.iconst 1, 1) := by decide +kernel
theorem dM_mayGo_18 : decode cM_mayGo 18 = .ok (.isub, 1) := by decide +kernel
theorem dM_mayGo_19 : decode cM_mayGo 19 = .ok (.iaload, 1) := by decide +kernel
theorem dM_mayGo_20 : decode cM_mayGo 20 = .ok (.iaload, 1) := by decide +kernel
theorem dM_mayGo_21 : decode cM_mayGo 21 = .ok (.istore 4, 2) := by decide +kernel
theorem dM_mayGo_23 : decode cM_mayGo 23 = .ok (.aload_n 0, 1) := by decide +kernel
theorem dM_mayGo_24 : decode cM_mayGo 24 = .ok (.getfield 13, 3) := by decide +kernel
theorem dM_mayGo_27 : decode cM_mayGo 27 = .ok (.iload_n 3, 1) := by decide +kernel
theorem dM_mayGo_28 : decode cM_mayGo 28 = .ok (.iaload, 1) := by decide +kernel
theorem dM_mayGo_29 : decode cM_mayGo 29 = .ok (.iload 4, 2) := by decide +kernel
theorem dM_mayGo_31 : decode cM_mayGo 31 = .ok (.if_icmp .ne 27, 3) := by decide +kernel
theorem dM_mayGo_34 : decode cM_mayGo 34 = .ok (.aload_n 0, 1) := by decide +kernel
theorem dM_mayGo_35 : decode cM_mayGo 35 = .ok (.iconst 0, 1) := by decide +kernel
theorem dM_mayGo_36 : decode cM_mayGo 36 = .ok (.iload_n 3, 1) := by decide +kernel
theorem dM_mayGo_37 : decode cM_mayGo 37 = .ok (.invokevirtual 110, 3) := by decide +kernel
theorem dM_mayGo_40 : decode cM_mayGo 40 = .ok (.ifCond .eq 18, 3) := by decide +kernel
theorem dM_mayGo_43 : decode cM_mayGo 43 = .ok (.aload_n 0, 1) := by decide +kernel
theorem dM_mayGo_44 : decode cM_mayGo 44 = .ok (.iload_n 1, 1) := by decide +kernel
theorem dM_mayGo_45 : decode cM_mayGo 45 = .ok (.iload_n 2, 1) := by decide +kernel
theorem dM_mayGo_46 : decode cM_mayGo 46 = .ok (.aload_n 0, 1) := by decide +kernel
theorem dM_mayGo_47 : decode cM_mayGo 47 = .ok (.getfield 16, 3) := by decide +kernel
theorem dM_mayGo_50 : decode cM_mayGo 50 = .ok (.iload_n 3, 1) := by decide +kernel
theorem dM_mayGo_51 : decode cM_mayGo 51 = .ok (.iaload, 1) := by decide +kernel
theorem dM_mayGo_52 : decode cM_mayGo 52 = .ok (.invokevirtual 152, 3) := by decide +kernel
theorem dM_mayGo_55 : decode cM_mayGo 55 = .ok (.ifCond .eq 5, 3) := by decide +kernel
theorem dM_mayGo_58 : decode cM_mayGo 58 = .ok (.iconst 0, 1) := by decide +kernel
theorem dM_mayGo_59 : decode cM_mayGo 59 = .ok (.ireturn, 1) := by decide +kernel
theorem dM_mayGo_60 : decode cM_mayGo 60 = .ok (.iload_n 2, 1) := by decide +kernel
theorem dM_mayGo_61 : decode cM_mayGo 61 = .ok (.ifCond .eq 24, 3) := by decide +kernel
theorem dM_mayGo_64 : decode cM_mayGo 64 = .ok (.aload_n 0, 1) := by decide +kernel
theorem dM_mayGo_65 : decode cM_mayGo 65 = .ok (.getfield 36, 3) := by decide +kernel
theorem dM_mayGo_68 : decode cM_mayGo 68 = .ok (.bipush 40, 2) := by decide +kernel
theorem dM_mayGo_70 : decode cM_mayGo 70 = .ok (.aload_n 0, 1) := by decide +kernel
theorem dM_mayGo_71 : decode cM_mayGo 71 = .ok (.getfield 63, 3) := by decide +kernel
theorem dM_mayGo_74 : decode cM_mayGo 74 = .ok (.iload_n 2, 1) := by decide +kernel
theorem dM_mayGo_75 : decode cM_mayGo 75 = .ok (.iconst 1, 1) := by decide +kernel
theorem dM_mayGo_76 : decode cM_mayGo 76 = .ok (.isub, 1) := by decide +kernel
theorem dM_mayGo_77 : decode cM_mayGo 77 = .ok (.iaload, 1) := by decide +kernel
theorem dM_mayGo_78 : decode cM_mayGo 78 = .ok (.imul, 1) := by decide +kernel
theorem dM_mayGo_79 : decode cM_mayGo 79 = .ok (.iload_n 3, 1) := by decide +kernel
theorem dM_mayGo_80 : decode cM_mayGo 80 = .ok (.iadd, 1) := by decide +kernel
theorem dM_mayGo_81 : decode cM_mayGo 81 = .ok (.baload, 1) := by decide +kernel
theorem dM_mayGo_82 : decode cM_mayGo 82 = .ok (.ifCond .ne 7, 3) := by decide +kernel
theorem dM_mayGo_85 : decode cM_mayGo 85 = .ok (.iconst 1, 1) := by decide +kernel
theorem dM_mayGo_86 : decode cM_mayGo 86 = .ok (.goto 4, 3) := by decide +kernel
theorem dM_mayGo_89 : decode cM_mayGo 89 = .ok (.iconst 0, 1) := by decide +kernel
theorem dM_mayGo_90 : decode cM_mayGo 90 = .ok (.ireturn, 1) := by decide +kernel
theorem dM_seen_0 : decode cM_seen 0 = .ok (.iload_n 3, 1) := by decide +kernel
theorem dM_seen_1 : decode cM_seen 1 = .ok (.iload_n 1, 1) := by decide +kernel
theorem dM_seen_2 : decode cM_seen 2 = .ok (.if_icmp .ne 7, 3) := by decide +kernel
theorem dM_seen_5 : decode cM_seen 5 = .ok (.iconst 1, 1) := by decide +kernel
theorem dM_seen_6 : decode cM_seen 6 = .ok (.goto 4, 3) := by decide +kernel
theorem dM_seen_9 : decode cM_seen 9 = .ok (.iconst 0, 1) := by decide +kernel
theorem dM_seen_10 : decode cM_seen 10 = .ok (.istore 4, 2) := by decide +kernel
theorem dM_seen_12 : decode cM_seen 12 = .ok (.iconst 0, 1) := by decide +kernel
theorem dM_seen_13 : decode cM_seen 13 = .ok (.istore 5, 2) := by decide +kernel
theorem dM_seen_15 : decode cM_seen 15 = .ok (.iload 5, 2) := by decide +kernel
theorem dM_seen_17 : decode cM_seen 17 = .ok (.iload_n 2, 1) := by decide +kernel
theorem dM_seen_18 : decode cM_seen 18 = .ok (.if_icmp .ge 37, 3) := by decide +kernel
theorem dM_seen_21 : decode cM_seen 21 = .ok (.iload 4, 2) := by decide +kernel
theorem dM_seen_23 : decode cM_seen 23 = .ok (.ifCond .ne 19, 3) := by decide +kernel
theorem dM_seen_26 : decode cM_seen 26 = .ok (.aload_n 0, 1) := by decide +kernel
theorem dM_seen_27 : decode cM_seen 27 = .ok (.getfield 16, 3) := by decide +kernel
theorem dM_seen_30 : decode cM_seen 30 = .ok (.aload_n 0, 1) := by decide +kernel
theorem dM_seen_31 : decode cM_seen 31 = .ok (.getfield 63, 3) := by decide +kernel
theorem dM_seen_34 : decode cM_seen 34 = .ok (.iload 5, 2) := by decide +kernel
theorem dM_seen_36 : decode cM_seen 36 = .ok (.iaload, 1) := by decide +kernel
theorem dM_seen_37 : decode cM_seen 37 = .ok (.iaload, 1) := by decide +kernel
theorem dM_seen_38 : decode cM_seen 38 = .ok (.iload_n 3, 1) := by decide +kernel
theorem dM_seen_39 : decode cM_seen 39 = .ok (.if_icmp .ne 7, 3) := by decide +kernel
theorem dM_seen_42 : decode cM_seen 42 = .ok (.iconst 1, 1) := by decide +kernel
theorem dM_seen_43 : decode cM_seen 43 = .ok (.goto 4, 3) := by decide +kernel
theorem dM_seen_46 : decode cM_seen 46 = .ok (.iconst 0, 1) := by decide +kernel
theorem dM_seen_47 : decode cM_seen 47 = .ok (.istore 4, 2) := by decide +kernel
theorem dM_seen_49 : decode cM_seen 49 = .ok (.iinc 5 1, 3) := by decide +kernel
theorem dM_seen_52 : decode cM_seen 52 = .ok (.goto (-37), 3) := by decide +kernel
theorem dM_seen_55 : decode cM_seen 55 = .ok (.iload 4, 2) := by decide +kernel
theorem dM_seen_57 : decode cM_seen 57 = .ok (.ireturn, 1) := by decide +kernel
theorem dM_keep_0 : decode cM_keep 0 = .ok (.aload_n 0, 1) := by decide +kernel
theorem dM_keep_1 : decode cM_keep 1 = .ok (.getfield 155, 3) := by decide +kernel
theorem dM_keep_4 : decode cM_keep 4 = .ok (.istore_n 2, 1) := by decide +kernel
theorem dM_keep_5 : decode cM_keep 5 = .ok (.iload_n 2, 1) := by decide +kernel
theorem dM_keep_6 : decode cM_keep 6 = .ok (.ifCond .le 20, 3) := by decide +kernel
theorem dM_keep_9 : decode cM_keep 9 = .ok (.aload_n 0, 1) := by decide +kernel
theorem dM_keep_10 : decode cM_keep 10 = .ok (.iload_n 1, 1) := by decide +kernel
theorem dM_keep_11 : decode cM_keep 11 = .ok (.iload_n 2, 1) := by decide +kernel
theorem dM_keep_12 : decode cM_keep 12 = .ok (.iconst 1, 1) := by decide +kernel
theorem dM_keep_13 : decode cM_keep 13 = .ok (.isub, 1) := by decide +kernel
theorem dM_keep_14 : decode cM_keep 14 = .ok (.invokevirtual 158, 3) := by decide +kernel
theorem dM_keep_17 : decode cM_keep 17 = .ok (.ifCond .eq 9, 3) := by decide +kernel
theorem dM_keep_20 : decode cM_keep 20 = .ok (.iinc 2 (-1), 3) := by decide +kernel
theorem dM_keep_23 : decode cM_keep 23 = .ok (.goto (-18), 3) := by decide +kernel
theorem dM_keep_26 : decode cM_keep 26 = .ok (.iload_n 2, 1) := by decide +kernel
theorem dM_keep_27 : decode cM_keep 27 = .ok (.iconst 5, 1) := by decide +kernel
theorem dM_keep_28 : decode cM_keep 28 = .ok (.if_icmp .ne 4, 3) := by decide +kernel
theorem dM_keep_31 : decode cM_keep 31 = .ok (.return_, 1) := by decide +kernel
theorem dM_keep_32 : decode cM_keep 32 = .ok (.aload_n 0, 1) := by decide +kernel
theorem dM_keep_33 : decode cM_keep 33 = .ok (.dup, 1) := by decide +kernel

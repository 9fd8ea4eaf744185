theorem dM_thrown_1 : decode cM_thrown 1 = .ok (.getfield 69, 3) := by decide +kernel
theorem dM_thrown_4 : decode cM_thrown 4 = .ok (.ireturn, 1) := by decide +kernel
theorem dM_place_0 : decode cM_place 0 = .ok (.aload_n 0, 1) := by decide +kernel
theorem dM_place_1 : decode cM_place 1 = .ok (.iload_n 1, 1) := by decide +kernel
theorem dM_place_2 : decode cM_place 2 = .ok (.i2l, 1) := by decide +kernel
theorem dM_place_3 : decode cM_place 3 = .ok (.lconst 0, 1) := by decide +kernel
theorem dM_place_4 : decode cM_place 4 = .ok (.ldc2_w 83, 3) := by decide +kernel
theorem dM_place_7 : decode cM_place 7 = .ok (.invokestatic 76, 3) := by decide +kernel
theorem dM_place_10 : decode cM_place 10 = .ok (.ifCond .ne 7, 3) := by decide +kernel
theorem dM_place_13 : decode cM_place 13 = .ok (.iconst 1, 1) := by decide +kernel
theorem dM_place_14 : decode cM_place 14 = .ok (.goto 17, 3) := by decide +kernel
theorem dM_place_17 : decode cM_place 17 = .ok (.aload_n 0, 1) := by decide +kernel
theorem dM_place_18 : decode cM_place 18 = .ok (.getfield 73, 3) := by decide +kernel
theorem dM_place_21 : decode cM_place 21 = .ok (.bipush 20, 2) := by decide +kernel
theorem dM_place_23 : decode cM_place 23 = .ok (.if_icmp .ne 7, 3) := by decide +kernel
theorem dM_place_26 : decode cM_place 26 = .ok (.iconst 2, 1) := by decide +kernel
theorem dM_place_27 : decode cM_place 27 = .ok (.goto 4, 3) := by decide +kernel
theorem dM_place_30 : decode cM_place 30 = .ok (.iconst 0, 1) := by decide +kernel
theorem dM_place_31 : decode cM_place 31 = .ok (.putfield 69, 3) := by decide +kernel
theorem dM_place_34 : decode cM_place 34 = .ok (.aload_n 0, 1) := by decide +kernel
theorem dM_place_35 : decode cM_place 35 = .ok (.getfield 69, 3) := by decide +kernel
theorem dM_place_38 : decode cM_place 38 = .ok (.ifCond .le 5, 3) := by decide +kernel
theorem dM_place_41 : decode cM_place 41 = .ok (.iconst 0, 1) := by decide +kernel
theorem dM_place_42 : decode cM_place 42 = .ok (.ireturn, 1) := by decide +kernel
theorem dM_place_43 : decode cM_place 43 = .ok (.aload_n 0, 1) := by decide +kernel
theorem dM_place_44 : decode cM_place 44 = .ok (.getfield 7, 3) := by decide +kernel
theorem dM_place_47 : decode cM_place 47 = .ok (.aload_n 0, 1) := by decide +kernel
theorem dM_place_48 : decode cM_place 48 = .ok (.getfield 73, 3) := by decide +kernel
theorem dM_place_51 : decode cM_place 51 = .ok (.iload_n 1, 1) := by decide +kernel
theorem dM_place_52 : decode cM_place 52 = .ok (.iastore, 1) := by decide +kernel
theorem dM_place_53 : decode cM_place 53 = .ok (.aload_n 0, 1) := by decide +kernel
theorem dM_place_54 : decode cM_place 54 = .ok (.dup, 1) := by decide +kernel
theorem dM_place_55 : decode cM_place 55 = .ok (.getfield 73, 3) := by decide +kernel
theorem dM_place_58 : decode cM_place 58 = .ok (.iconst 1, 1) := by decide +kernel
theorem dM_place_59 : decode cM_place 59 = .ok (.iadd, 1) := by decide +kernel
theorem dM_place_60 : decode cM_place 60 = .ok (.putfield 73, 3) := by decide +kernel
theorem dM_place_63 : decode cM_place 63 = .ok (.aload_n 0, 1) := by decide +kernel
theorem dM_place_64 : decode cM_place 64 = .ok (.getfield 73, 3) := by decide +kernel
theorem dM_place_67 : decode cM_place 67 = .ok (.iconst 1, 1) := by decide +kernel
theorem dM_place_68 : decode cM_place 68 = .ok (.isub, 1) := by decide +kernel
theorem dM_place_69 : decode cM_place 69 = .ok (.ireturn, 1) := by decide +kernel
theorem dM_in_0 : decode cM_in 0 = .ok (.lload_n 0, 1) := by decide +kernel
theorem dM_in_1 : decode cM_in 1 = .ok (.lload_n 2, 1) := by decide +kernel
theorem dM_in_2 : decode cM_in 2 = .ok (.lcmp, 1) := by decide +kernel
theorem dM_in_3 : decode cM_in 3 = .ok (.ifCond .lt 14, 3) := by decide +kernel
theorem dM_in_6 : decode cM_in 6 = .ok (.lload_n 0, 1) := by decide +kernel
theorem dM_in_7 : decode cM_in 7 = .ok (.lload 4, 2) := by decide +kernel
theorem dM_in_9 : decode cM_in 9 = .ok (.lcmp, 1) := by decide +kernel
theorem dM_in_10 : decode cM_in 10 = .ok (.ifCond .gt 7, 3) := by decide +kernel
theorem dM_in_13 : decode cM_in 13 = .ok (.iconst 1, 1) := by decide +kernel
theorem dM_in_14 : decode cM_in 14 = .ok (.goto 4, 3) := by decide +kernel
theorem dM_in_17 : decode cM_in 17 = .ok (.iconst 0, 1) := by decide +kernel
theorem dM_in_18 : decode cM_in 18 = .ok (.ireturn, 1) := by decide +kernel
theorem dM_piece_0 : decode cM_piece 0 = .ok (.aload_n 0, 1) := by decide +kernel
theorem dM_piece_1 : decode cM_piece 1 = .ok (.iload_n 1, 1) := by decide +kernel
theorem dM_piece_2 : decode cM_piece 2 = .ok (.invokevirtual 86, 3) := by decide +kernel
theorem dM_piece_5 : decode cM_piece 5 = .ok (.ifCond .eq 43, 3) := by decide +kernel
theorem dM_piece_8 : decode cM_piece 8 = .ok (.aload_n 0, 1) := by decide +kernel
theorem dM_piece_9 : decode cM_piece 9 = .ok (.iload_n 2, 1) := by decide +kernel
theorem dM_piece_10 : decode cM_piece 10 = .ok (.invokevirtual 86, 3) := by decide +kernel
theorem dM_piece_13 : decode cM_piece 13 = .ok (.ifCond .eq 35, 3) := by decide +kernel
theorem dM_piece_16 : decode cM_piece 16 = .ok (.iload_n 1, 1) := by decide +kernel
theorem dM_piece_17 : decode cM_piece 17 = .ok (.iload_n 2, 1) := by decide +kernel
theorem dM_piece_18 : decode cM_piece 18 = .ok (.if_icmp .eq 30, 3) := by decide +kernel
theorem dM_piece_21 : decode cM_piece 21 = .ok (.lload_n 3, 1) := by decide +kernel
theorem dM_piece_22 : decode cM_piece 22 = .ok (.lconst 1, 1) := by decide +kernel
theorem dM_piece_23 : decode cM_piece 23 = .ok (.ldc2_w 90, 3) := by decide +kernel
theorem dM_piece_26 : decode cM_piece 26 = .ok (.invokestatic 76, 3) := by decide +kernel
theorem dM_piece_29 : decode cM_piece 29 = .ok (.ifCond .eq 19, 3) := by decide +kernel
theorem dM_piece_32 : decode cM_piece 32 = .ok (.lload 5, 2) := by decide +kernel
theorem dM_piece_34 : decode cM_piece 34 = .ok (.lconst 0, 1) := by decide +kernel
theorem dM_piece_35 : decode cM_piece 35 = .ok (.ldc2_w 92, 3) := by decide +kernel
theorem dM_piece_38 : decode cM_piece 38 = .ok (.invokestatic 76, 3) := by decide +kernel
theorem dM_piece_41 : decode cM_piece 41 = .ok (.ifCond .eq 7, 3) := by decide +kernel
theorem dM_piece_44 : decode cM_piece 44 = .ok (.iconst 1, 1) := by decide +kernel
theorem dM_piece_45 : decode cM_piece 45 = .ok (.goto 4, 3) := by decide +kernel
theorem dM_piece_48 : decode cM_piece 48 = .ok (.iconst 0, 1) := by decide +kernel
theorem dM_piece_49 : decode cM_piece 49 = .ok (.istore 7, 2) := by decide +kernel
theorem dM_piece_51 : decode cM_piece 51 = .ok (.iload 7, 2) := by decide +kernel
theorem dM_piece_53 : decode cM_piece 53 = .ok (.ifCond .eq 25, 3) := by decide +kernel
theorem dM_piece_56 : decode cM_piece 56 = .ok (.aload_n 0, 1) := by decide +kernel
theorem dM_piece_57 : decode cM_piece 57 = .ok (.getfield 7, 3) := by decide +kernel
theorem dM_piece_60 : decode cM_piece 60 = .ok (.iload_n 1, 1) := by decide +kernel
theorem dM_piece_61 : decode cM_piece 61 = .ok (.iaload, 1) := by decide +kernel
theorem dM_piece_62 : decode cM_piece 62 = .ok (.aload_n 0, 1) := by decide +kernel
theorem dM_piece_63 : decode cM_piece 63 = .ok (.getfield 7, 3) := by decide +kernel
theorem dM_piece_66 : decode cM_piece 66 = .ok (.iload_n 2, 1) := by decide +kernel
theorem dM_piece_67 : decode cM_piece 67 = .ok (.iaload, 1) := by decide +kernel
theorem dM_piece_68 : decode cM_piece 68 = .ok (.if_icmp .ne 7, 3) := by decide +kernel
theorem dM_piece_71 : decode cM_piece 71 = .ok (.iconst 1, 1) := by decide +kernel
theorem dM_piece_72 : decode cM_piece 72 = .ok (.goto 4, 3) := by decide +kernel
theorem dM_piece_75 : decode cM_piece 75 = .ok (.iconst 0, 1) := by decide +kernel
theorem dM_piece_76 : decode cM_piece 76 = .ok (.istore 7, 2) := by decide +kernel
theorem dM_piece_78 : decode cM_piece 78 = .ok (.aload_n 0, 1) := by decide +kernel
theorem dM_piece_79 : decode cM_piece 79 = .ok (.iload 7, 2) := by decide +kernel
theorem dM_piece_81 : decode cM_piece 81 = .ok (.ifCond .ne 7, 3) := by decide +kernel
theorem dM_piece_84 : decode cM_piece 84 = .ok (.iconst 1, 1) := by decide +kernel
theorem dM_piece_85 : decode cM_piece 85 = .ok (.goto 28, 3) := by decide +kernel
theorem dM_piece_88 : decode cM_piece 88 = .ok (.lload 5, 2) := by decide +kernel
theorem dM_piece_90 : decode cM_piece 90 = .ok (.lconst 0, 1) := by decide +kernel
theorem dM_piece_91 : decode cM_piece 91 = .ok (.lcmp, 1) := by decide +kernel
theorem dM_piece_92 : decode cM_piece 92 = .ok (.ifCond .ne 7, 3) := by decide +kernel
theorem dM_piece_95 : decode cM_piece 95 = .ok (.iconst 2, 1) := by decide +kernel
theorem dM_piece_96 : decode cM_piece 96 = .ok (.goto 17, 3) := by decide +kernel
theorem dM_piece_99 : decode cM_piece 99 = .ok (.aload_n 0, 1) := by decide +kernel
theorem dM_piece_100 : decode cM_piece 100 = .ok (.getfield 80, 3) := by decide +kernel
theorem dM_piece_103 : decode cM_piece 103 = .ok (.bipush 40, 2) := by decide +kernel
theorem dM_piece_105 : decode cM_piece 105 = .ok (.if_icmp .ne 7, 3) := by decide +kernel
theorem dM_piece_108 : decode cM_piece 108 = .ok (.iconst 3, 1) := by decide +kernel
theorem dM_piece_109 : decode cM_piece 109 = .ok (.goto 4, 3) := by decide +kernel
theorem dM_piece_112 : decode cM_piece 112 = .ok (.iconst 0, 1) := by decide +kernel
theorem dM_piece_113 : decode cM_piece 113 = .ok (.putfield 69, 3) := by decide +kernel
theorem dM_piece_116 : decode cM_piece 116 = .ok (.aload_n 0, 1) := by decide +kernel
theorem dM_piece_117 : decode cM_piece 117 = .ok (.getfield 69, 3) := by decide +kernel
theorem dM_piece_120 : decode cM_piece 120 = .ok (.ifCond .le 7, 3) := by decide +kernel
theorem dM_piece_123 : decode cM_piece 123 = .ok (.iconst 0, 1) := by decide +kernel
theorem dM_piece_124 : decode cM_piece 124 = .ok (.goto 18, 3) := by decide +kernel
theorem dM_piece_127 : decode cM_piece 127 = .ok (.aload_n 0, 1) := by decide +kernel
theorem dM_piece_128 : decode cM_piece 128 = .ok (.iload_n 1, 1) := by decide +kernel
theorem dM_piece_129 : decode cM_piece 129 = .ok (.iload_n 2, 1) := by decide +kernel
theorem dM_piece_130 : decode cM_piece 130 = .ok (.lload_n 3, 1) := by decide +kernel
theorem dM_piece_131 : decode cM_piece 131 = .ok (.lload 5, 2) := by decide +kernel
theorem dM_piece_133 : decode cM_piece 133 = .ok (.ladd, 1) := by decide +kernel
theorem dM_piece_134 : decode cM_piece 134 = .ok (.lconst 1, 1) := by decide +kernel
theorem dM_piece_135 : decode cM_piece 135 = .ok (.lsub, 1) := by decide +kernel
theorem dM_piece_136 : decode cM_piece 136 = .ok (.lload 5, 2) := by decide +kernel
theorem dM_piece_138 : decode cM_piece 138 = .ok (.ldiv, 1) := by decide +kernel
theorem dM_piece_139 : decode cM_piece 139 = .ok (.invokevirtual 94, 3) := by decide +kernel
theorem dM_piece_142 : decode cM_piece 142 = .ok (.ireturn, 1) := by decide +kernel
theorem dM_isPlace_0 : decode cM_isPlace 0 = .ok (.iload_n 1, 1) := by decide +kernel
theorem dM_isPlace_1 : decode cM_isPlace 1 = .ok (.i2l, 1) := by decide +kernel
theorem dM_isPlace_2 : decode cM_isPlace 2 = .ok (.lconst 0, 1) := by decide +kernel
theorem dM_isPlace_3 : decode cM_isPlace 3 = .ok (.aload_n 0, 1) := by decide +kernel
theorem dM_isPlace_4 : decode cM_isPlace 4 = .ok (.getfield 73, 3) := by decide +kernel
theorem dM_isPlace_7 : decode cM_isPlace 7 = .ok (.iconst 1, 1) := by decide +kernel
theorem dM_isPlace_8 : decode cM_isPlace 8 = .ok (.isub, 1) := by decide +kernel
theorem dM_isPlace_9 : decode cM_isPlace 9 = .ok (.i2l, 1) := by decide +kernel
theorem dM_isPlace_10 : decode cM_isPlace 10 = .ok (.invokestatic 76, 3) := by decide +kernel
theorem dM_isPlace_13 : decode cM_isPlace 13 = .ok (.ireturn, 1) := by decide +kernel
theorem dM_add_0 : decode cM_add 0 = .ok (.aload_n 0, 1) := by decide +kernel
theorem dM_add_1 : decode cM_add 1 = .ok (.getfield 13, 3) := by decide +kernel
theorem dM_add_4 : decode cM_add 4 = .ok (.aload_n 0, 1) := by decide +kernel
theorem dM_add_5 : decode cM_add 5 = .ok (.getfield 80, 3) := by decide +kernel
theorem dM_add_8 : decode cM_add 8 = .ok (.iload_n 1, 1) := by decide +kernel
theorem dM_add_9 : decode cM_add 9 = .ok (.iastore, 1) := by decide +kernel
theorem dM_add_10 : decode cM_add 10 = .ok (.aload_n 0, 1) := by decide +kernel
theorem dM_add_11 : decode cM_add 11 = .ok (.getfield 16, 3) := by decide +kernel
theorem dM_add_14 : decode cM_add 14 = .ok (.aload_n 0, 1) := by decide +kernel
theorem dM_add_15 : decode cM_add 15 = .ok (.getfield 80, 3) := by decide +kernel
theorem dM_add_18 : decode cM_add 18 = .ok (.iload_n 2, 1) := by decide +kernel
theorem dM_add_19 : decode cM_add 19 = .ok (.iastore, 1) := by decide +kernel
theorem dM_add_20 : decode cM_add 20 = .ok (.aload_n 0, 1) := by decide +kernel
theorem dM_add_21 : decode cM_add 21 = .ok (.getfield 19, 3) := by decide +kernel
theorem dM_add_24 : decode cM_add 24 = .ok (.aload_n 0, 1) := by decide +kernel
theorem dM_add_25 : decode cM_add 25 = .ok (.getfield 80, 3) := by decide +kernel
theorem dM_add_28 : decode cM_add 28 = .ok (.lload_n 3, 1) := by decide +kernel
theorem dM_add_29 : decode cM_add 29 = .ok (.lastore, 1) := by decide +kernel
theorem dM_add_30 : decode cM_add 30 = .ok (.aload_n 0, 1) := by decide +kernel
theorem dM_add_31 : decode cM_add 31 = .ok (.getfield 23, 3) := by decide +kernel
theorem dM_add_34 : decode cM_add 34 = .ok (.aload_n 0, 1) := by decide +kernel
theorem dM_add_35 : decode cM_add 35 = .ok (.getfield 80, 3) := by decide +kernel
theorem dM_add_38 : decode cM_add 38 = .ok (.sipush 2000, 3) := by decide +kernel
theorem dM_add_41 : decode cM_add 41 = .ok (.iastore, 1) := by decide +kernel
theorem dM_add_42 : decode cM_add 42 = .ok (.aload_n 0, 1) := by decide +kernel
theorem dM_add_43 : decode cM_add 43 = .ok (.getfield 26, 3) := by decide +kernel
theorem dM_add_46 : decode cM_add 46 = .ok (.aload_n 0, 1) := by decide +kernel
theorem dM_add_47 : decode cM_add 47 = .ok (.getfield 80, 3) := by decide +kernel
theorem dM_add_50 : decode cM_add 50 = .ok (.sipush 3000, 3) := by decide +kernel
theorem dM_add_53 : decode cM_add 53 = .ok (.iastore, 1) := by decide +kernel
theorem dM_add_54 : decode cM_add 54 = .ok (.aload_n 0, 1) := by decide +kernel
theorem dM_add_55 : decode cM_add 55 = .ok (.getfield 33, 3) := by decide +kernel
theorem dM_add_58 : decode cM_add 58 = .ok (.aload_n 0, 1) := by decide +kernel
theorem dM_add_59 : decode cM_add 59 = .ok (.getfield 80, 3) := by decide +kernel
theorem dM_add_62 : decode cM_add 62 = .ok (.ldc 85, 2) := by decide +kernel
theorem dM_add_64 : decode cM_add 64 = .ok (.iastore, 1) := by decide +kernel
theorem dM_add_65 : decode cM_add 65 = .ok (.aload_n 0, 1) := by decide +kernel
theorem dM_add_66 : decode cM_add 66 = .ok (.dup, 1) := by decide +kernel
theorem dM_add_67 : decode cM_add 67 = .ok (.getfield 80, 3) := by decide +kernel
theorem dM_add_70 : decode cM_add 70 = .ok (.iconst 1, 1) := by decide +kernel
theorem dM_add_71 : decode cM_add 71 = .ok (.iadd, 1) := by decide +kernel
theorem dM_add_72 : decode cM_add 72 = .ok (.putfield 80, 3) := by decide +kernel
theorem dM_add_75 : decode cM_add 75 = .ok (.aload_n 0, 1) := by decide +kernel
theorem dM_add_76 : decode cM_add 76 = .ok (.getfield 80, 3) := by decide +kernel
theorem dM_add_79 : decode cM_add 79 = .ok (.iconst 1, 1) := by decide +kernel
theorem dM_add_80 : decode cM_add 80 = .ok (.isub, 1) := by decide +kernel
theorem dM_add_81 : decode cM_add 81 = .ok (.ireturn, 1) := by decide +kernel
theorem dM_lift_0 : decode cM_lift 0 = .ok (.aload_n 0, 1) := by decide +kernel
theorem dM_lift_1 : decode cM_lift 1 = .ok (.iload_n 1, 1) := by decide +kernel
theorem dM_lift_2 : decode cM_lift 2 = .ok (.invokevirtual 86, 3) := by decide +kernel
theorem dM_lift_5 : decode cM_lift 5 = .ok (.ifCond .eq 26, 3) := by decide +kernel
theorem dM_lift_8 : decode cM_lift 8 = .ok (.aload_n 0, 1) := by decide +kernel
theorem dM_lift_9 : decode cM_lift 9 = .ok (.iload_n 2, 1) := by decide +kernel
theorem dM_lift_10 : decode cM_lift 10 = .ok (.invokevirtual 86, 3) := by decide +kernel
theorem dM_lift_13 : decode cM_lift 13 = .ok (.ifCond .eq 18, 3) := by decide +kernel
theorem dM_lift_16 : decode cM_lift 16 = .ok (.lload_n 3, 1) := by decide +kernel
theorem dM_lift_17 : decode cM_lift 17 = .ok (.lconst 1, 1) := by decide +kernel
theorem dM_lift_18 : decode cM_lift 18 = .ok (.ldc2_w 92, 3) := by decide +kernel
theorem dM_lift_21 : decode cM_lift 21 = .ok (.invokestatic 76, 3) := by decide +kernel
theorem dM_lift_24 : decode cM_lift 24 = .ok (.ifCond .eq 7, 3) := by decide +kernel
theorem dM_lift_27 : decode cM_lift 27 = .ok (.iconst 1, 1) := by decide +kernel
theorem dM_lift_28 : decode cM_lift 28 = .ok (.goto 4, 3) := by decide +kernel
theorem dM_lift_31 : decode cM_lift 31 = .ok (.iconst 0, 1) := by decide +kernel
theorem dM_lift_32 : decode cM_lift 32 = .ok (.istore 5, 2) := by decide +kernel
theorem dM_lift_34 : decode cM_lift 34 = .ok (.iload 5, 2) := by decide +kernel
theorem dM_lift_36 : decode cM_lift 36 = .ok (.ifCond .eq 25, 3) := by decide +kernel
theorem dM_lift_39 : decode cM_lift 39 = .ok (.aload_n 0, 1) := by decide +kernel
theorem dM_lift_40 : decode cM_lift 40 = .ok (.getfield 7, 3) := by decide +kernel
theorem dM_lift_43 : decode cM_lift 43 = .ok (.iload_n 1, 1) := by decide +kernel
theorem dM_lift_44 : decode cM_lift 44 = .ok (.iaload, 1) := by decide +kernel
theorem dM_lift_45 : decode cM_lift 45 = .ok (.aload_n 0, 1) := by decide +kernel
theorem dM_lift_46 : decode cM_lift 46 = .ok (.getfield 7, 3) := by decide +kernel
theorem dM_lift_49 : decode cM_lift 49 = .ok (.iload_n 2, 1) := by decide +kernel
theorem dM_lift_50 : decode cM_lift 50 = .ok (.iaload, 1) := by decide +kernel
theorem dM_lift_51 : decode cM_lift 51 = .ok (.if_icmp .eq 7, 3) := by decide +kernel
theorem dM_lift_54 : decode cM_lift 54 = .ok (.iconst 1, 1) := by decide +kernel
theorem dM_lift_55 : decode cM_lift 55 = .ok (.goto 4, 3) := by decide +kernel
theorem dM_lift_58 : decode cM_lift 58 = .ok (.iconst 0, 1) := by decide +kernel
theorem dM_lift_59 : decode cM_lift 59 = .ok (.istore 5, 2) := by decide +kernel
theorem dM_lift_61 : decode cM_lift 61 = .ok (.aload_n 0, 1) := by decide +kernel
theorem dM_lift_62 : decode cM_lift 62 = .ok (.iload 5, 2) := by decide +kernel
theorem dM_lift_64 : decode cM_lift 64 = .ok (.ifCond .ne 7, 3) := by decide +kernel
theorem dM_lift_67 : decode cM_lift 67 = .ok (.iconst 1, 1) := by decide +kernel
theorem dM_lift_68 : decode cM_lift 68 = .ok (.goto 17, 3) := by decide +kernel
theorem dM_lift_71 : decode cM_lift 71 = .ok (.aload_n 0, 1) := by decide +kernel
theorem dM_lift_72 : decode cM_lift 72 = .ok (.getfield 80, 3) := by decide +kernel
theorem dM_lift_75 : decode cM_lift 75 = .ok (.bipush 38, 2) := by decide +kernel
theorem dM_lift_77 : decode cM_lift 77 = .ok (.if_icmp .le 7, 3) := by decide +kernel
theorem dM_lift_80 : decode cM_lift 80 = .ok (.iconst 2, 1) := by decide +kernel
theorem dM_lift_81 : decode cM_lift 81 = .ok (.goto 4, 3) := by decide +kernel
theorem dM_lift_84 : decode cM_lift 84 = .ok (.iconst 0, 1) := by decide +kernel
theorem dM_lift_85 : decode cM_lift 85 = .ok (.putfield 69, 3) := by decide +kernel
theorem dM_lift_88 : decode cM_lift 88 = .ok (.aload_n 0, 1) := by decide +kernel
theorem dM_lift_89 : decode cM_lift 89 = .ok (.getfield 69, 3) := by decide +kernel
theorem dM_lift_92 : decode cM_lift 92 = .ok (.ifCond .le 5, 3) := by decide +kernel
theorem dM_lift_95 : decode cM_lift 95 = .ok (.iconst 0, 1) := by decide +kernel
theorem dM_lift_96 : decode cM_lift 96 = .ok (.ireturn, 1) := by decide +kernel
theorem dM_lift_97 : decode cM_lift 97 = .ok (.aload_n 0, 1) := by decide +kernel
theorem dM_lift_98 : decode cM_lift 98 = .ok (.iload_n 1, 1) := by decide +kernel
theorem dM_lift_99 : decode cM_lift 99 = .ok (.iload_n 2, 1) := by decide +kernel
theorem dM_lift_100 : decode cM_lift 100 = .ok (.lload_n 3, 1) := by decide +kernel
theorem dM_lift_101 : decode cM_lift 101 = .ok (.invokevirtual 94, 3) := by decide +kernel
theorem dM_lift_104 : decode cM_lift 104 = .ok (.istore 6, 2) := by decide +kernel
theorem dM_lift_106 : decode cM_lift 106 = .ok (.aload_n 0, 1) := by decide +kernel
theorem dM_lift_107 : decode cM_lift 107 = .ok (.iload_n 2, 1) := by decide +kernel
theorem dM_lift_108 : decode cM_lift 108 = .ok (.iload_n 1, 1) := by decide +kernel
theorem dM_lift_109 : decode cM_lift 109 = .ok (.lload_n 3, 1) := by decide +kernel
theorem dM_lift_110 : decode cM_lift 110 = .ok (.invokevirtual 94, 3) := by decide +kernel
theorem dM_lift_113 : decode cM_lift 113 = .ok (.pop, 1) := by decide +kernel
theorem dM_lift_114 : decode cM_lift 114 = .ok (.iload 6, 2) := by decide +kernel
theorem dM_lift_116 : decode cM_lift 116 = .ok (.ireturn, 1) := by decide +kernel
theorem dM_limit_0 : decode cM_limit 0 = .ok (.aload_n 0, 1) := by decide +kernel
theorem dM_limit_1 : decode cM_limit 1 = .ok (.aload_n 0, 1) := by decide +kernel
theorem dM_limit_2 : decode cM_limit 2 = .ok (.iload_n 1, 1) := by decide +kernel
theorem dM_limit_3 : decode cM_limit 3 = .ok (.invokevirtual 98, 3) := by decide +kernel
theorem dM_limit_6 : decode cM_limit 6 = .ok (.ifCond .eq 26, 3) := by decide +kernel
theorem dM_limit_9 : decode cM_limit 9 = .ok (.iload_n 2, 1) := by decide +kernel
theorem dM_limit_10 : decode cM_limit 10 = .ok (.i2l, 1) := by decide +kernel
theorem dM_limit_11 : decode cM_limit 11 = .ok (.lconst 1, 1) := by decide +kernel
theorem dM_limit_12 : decode cM_limit 12 = .ok (.ldc2_w 92, 3) := by decide +kernel
theorem dM_limit_15 : decode cM_limit 15 = .ok (.invokestatic 76, 3) := by decide +kernel
theorem dM_limit_18 : decode cM_limit 18 = .ok (.ifCond .eq 14, 3) := by decide +kernel
theorem dM_limit_21 : decode cM_limit 21 = .ok (.lload_n 3, 1) := by decide +kernel
theorem dM_limit_22 : decode cM_limit 22 = .ok (.lconst 1, 1) := by decide +kernel
theorem dM_limit_23 : decode cM_limit 23 = .ok (.ldc2_w 92, 3) := by decide +kernel
theorem dM_limit_26 : decode cM_limit 26 = .ok (.invokestatic 76, 3) := by decide +kernel
theorem dM_limit_29 : decode cM_limit 29 = .ok (.ifCond .ne 7, 3) := by decide +kernel
theorem dM_limit_32 : decode cM_limit 32 = .ok (.iconst 1, 1) := by decide +kernel
theorem dM_limit_33 : decode cM_limit 33 = .ok (.goto 4, 3) := by decide +kernel
theorem dM_limit_36 : decode cM_limit 36 = .ok (.iconst 0, 1) := by decide +kernel
theorem dM_limit_37 : decode cM_limit 37 = .ok (.putfield 69, 3) := by decide +kernel
theorem dM_limit_40 : decode cM_limit 40 = .ok (.aload_n 0, 1) := by decide +kernel
theorem dM_limit_41 : decode cM_limit 41 = .ok (.getfield 69, 3) := by decide +kernel
theorem dM_limit_44 : decode cM_limit 44 = .ok (.ifCond .le 4, 3) := by decide +kernel
theorem dM_limit_47 : decode cM_limit 47 = .ok (.return_, 1) := by decide +kernel
theorem dM_limit_48 : decode cM_limit 48 = .ok (.aload_n 0, 1) := by decide +kernel
theorem dM_limit_49 : decode cM_limit 49 = .ok (.getfield 23, 3) := by decide +kernel
theorem dM_limit_52 : decode cM_limit 52 = .ok (.iload_n 1, 1) := by decide +kernel
theorem dM_limit_53 : decode cM_limit 53 = .ok (.iload_n 2, 1) := by decide +kernel
theorem dM_limit_54 : decode cM_limit 54 = .ok (.iastore, 1) := by decide +kernel
theorem dM_limit_55 : decode cM_limit 55 = .ok (.aload_n 0, 1) := by decide +kernel
theorem dM_limit_56 : decode cM_limit 56 = .ok (.getfield 26, 3) := by decide +kernel
theorem dM_limit_59 : decode cM_limit 59 = .ok (.iload_n 1, 1) := by decide +kernel
theorem dM_limit_60 : decode cM_limit 60 = .ok (.lload_n 3, 1) := by decide +kernel
theorem dM_limit_61 : decode cM_limit 61 = .ok (.l2i, 1) := by decide +kernel
theorem dM_limit_62 : decode cM_limit 62 = .ok (.iastore, 1) := by decide +kernel
theorem dM_limit_63 : decode cM_limit 63 = .ok (.return_, 1) := by decide +kernel
theorem dM_isPiece_0 : decode cM_isPiece 0 = .ok (.iload_n 1, 1) := by decide +kernel
theorem dM_isPiece_1 : decode cM_isPiece 1 = .ok (.i2l, 1) := by decide +kernel
theorem dM_isPiece_2 : decode cM_isPiece 2 = .ok (.lconst 0, 1) := by decide +kernel
theorem dM_isPiece_3 : decode cM_isPiece 3 = .ok (.aload_n 0, 1) := by decide +kernel
theorem dM_isPiece_4 : decode cM_isPiece 4 = .ok (.getfield 80, 3) := by decide +kernel
theorem dM_isPiece_7 : decode cM_isPiece 7 = .ok (.iconst 1, 1) := by decide +kernel
theorem dM_isPiece_8 : decode cM_isPiece 8 = .ok (.isub, 1) := by decide +kernel
theorem dM_isPiece_9 : decode cM_isPiece 9 = .ok (.i2l, 1) := by decide +kernel
theorem dM_isPiece_10 : decode cM_isPiece 10 = .ok (.invokestatic 76, 3) := by decide +kernel
theorem dM_isPiece_13 : decode cM_isPiece 13 = .ok (.ireturn, 1) := by decide +kernel
theorem dM_mover_0 : decode cM_mover 0 = .ok (.aload_n 0, 1) := by decide +kernel
theorem dM_mover_1 : decode cM_mover 1 = .ok (.iload_n 1, 1) := by decide +kernel
theorem dM_mover_2 : decode cM_mover 2 = .ok (.i2l, 1) := by decide +kernel
theorem dM_mover_3 : decode cM_mover 3 = .ok (.lconst 1, 1) := by decide +kernel
theorem dM_mover_4 : decode cM_mover 4 = .ok (.ldc2_w 92, 3) := by decide +kernel
theorem dM_mover_7 : decode cM_mover 7 = .ok (.invokestatic 76, 3) := by decide +kernel
theorem dM_mover_10 : decode cM_mover 10 = .ok (.ifCond .eq 14, 3) := by decide +kernel
theorem dM_mover_13 : decode cM_mover 13 = .ok (.lload_n 2, 1) := by decide +kernel
theorem dM_mover_14 : decode cM_mover 14 = .ok (.lconst 1, 1) := by decide +kernel
theorem dM_mover_15 : decode cM_mover 15 = .ok (.ldc2_w 92, 3) := by decide +kernel
theorem dM_mover_18 : decode cM_mover 18 = .ok (.invokestatic 76, 3) := by decide +kernel
theorem dM_mover_21 : decode cM_mover 21 = .ok (.ifCond .ne 7, 3) := by decide +kernel
theorem dM_mover_24 : decode cM_mover 24 = .ok (.iconst 1, 1) := by decide +kernel
theorem dM_mover_25 : decode cM_mover 25 = .ok (.goto 17, 3) := by decide +kernel
theorem dM_mover_28 : decode cM_mover 28 = .ok (.aload_n 0, 1) := by decide +kernel
theorem dM_mover_29 : decode cM_mover 29 = .ok (.getfield 101, 3) := by decide +kernel
theorem dM_mover_32 : decode cM_mover 32 = .ok (.bipush 6, 2) := by decide +kernel
theorem dM_mover_34 : decode cM_mover 34 = .ok (.if_icmp .ne 7, 3) := by decide +kernel
theorem dM_mover_37 : decode cM_mover 37 = .ok (.iconst 2, 1) := by decide +kernel
theorem dM_mover_38 : decode cM_mover 38 = .ok (.goto 4, 3) := by decide +kernel
theorem dM_mover_41 : decode cM_mover 41 = .ok (.iconst 0, 1) := by decide +kernel
theorem dM_mover_42 : decode cM_mover 42 = .ok (.putfield 69, 3) := by decide +kernel
theorem dM_mover_45 : decode cM_mover 45 = .ok (.aload_n 0, 1) := by decide +kernel
theorem dM_mover_46 : decode cM_mover 46 = .ok (.getfield 69, 3) := by decide +kernel
theorem dM_mover_49 : decode cM_mover 49 = .ok (.ifCond .le 5, 3) := by decide +kernel
theorem dM_mover_52 : decode cM_mover 52 = .ok (.iconst 0, 1) := by decide +kernel
theorem dM_mover_53 : decode cM_mover 53 = .ok (.ireturn, 1) := by decide +kernel
theorem dM_mover_54 : decode cM_mover 54 = .ok (.iconst 0, 1) := by decide +kernel
theorem dM_mover_55 : decode cM_mover 55 = .ok (.istore 4, 2) := by decide +kernel
theorem dM_mover_57 : decode cM_mover 57 = .ok (.iconst 0, 1) := by decide +kernel
theorem dM_mover_58 : decode cM_mover 58 = .ok (.istore 5, 2) := by decide +kernel
theorem dM_mover_60 : decode cM_mover 60 = .ok (.iload 5, 2) := by decide +kernel
theorem dM_mover_62 : decode cM_mover 62 = .ok (.aload_n 0, 1) := by decide +kernel
theorem dM_mover_63 : decode cM_mover 63 = .ok (.getfield 80, 3) := by decide +kernel
theorem dM_mover_66 : decode cM_mover 66 = .ok (.if_icmp .ge 45, 3) := by decide +kernel
theorem dM_mover_69 : decode cM_mover 69 = .ok (.iload 4, 2) := by decide +kernel
theorem dM_mover_71 : decode cM_mover 71 = .ok (.ifCond .ne 27, 3) := by decide +kernel
theorem dM_mover_74 : decode cM_mover 74 = .ok (.aload_n 0, 1) := by decide +kernel
theorem dM_mover_75 : decode cM_mover 75 = .ok (.getfield 23, 3) := by decide +kernel
theorem dM_mover_78 : decode cM_mover 78 = .ok (.iload 5, 2) := by decide +kernel
theorem dM_mover_80 : decode cM_mover 80 = .ok (.iaload, 1) := by decide +kernel
theorem dM_mover_81 : decode cM_mover 81 = .ok (.iload_n 1, 1) := by decide +kernel
theorem dM_mover_82 : decode cM_mover 82 = .ok (.if_icmp .lt 20, 3) := by decide +kernel
theorem dM_mover_85 : decode cM_mover 85 = .ok (.aload_n 0, 1) := by decide +kernel
theorem dM_mover_86 : decode cM_mover 86 = .ok (.getfield 26, 3) := by decide +kernel
theorem dM_mover_89 : decode cM_mover 89 = .ok (.iload 5, 2) := by decide +kernel
theorem dM_mover_91 : decode cM_mover 91 = .ok (.iaload, 1) := by decide +kernel
theorem dM_mover_92 : decode cM_mover 92 = .ok (.i2l, 1) := by decide +kernel
theorem dM_mover_93 : decode cM_mover 93 = .ok (.lload_n 2, 1) := by decide +kernel
theorem dM_mover_94 : decode cM_mover 94 = .ok (.lcmp, 1) := by decide +kernel
theorem dM_mover_95 : decode cM_mover 95 = .ok (.ifCond .lt 7, 3) := by decide +kernel
theorem dM_mover_98 : decode cM_mover 98 = .ok (.iconst 1, 1) := by decide +kernel
theorem dM_mover_99 : decode cM_mover 99 = .ok (.goto 4, 3) := by decide +kernel
theorem dM_mover_102 : decode cM_mover 102 = .ok (.iconst 0, 1) := by decide +kernel
theorem dM_mover_103 : decode cM_mover 103 = .ok (.istore 4, 2) := by decide +kernel
theorem dM_mover_105 : decode cM_mover 105 = .ok (.iinc 5 1, 3) := by decide +kernel
theorem dM_mover_108 : decode cM_mover 108 = .ok (.goto (-48), 3) := by decide +kernel
theorem dM_mover_111 : decode cM_mover 111 = .ok (.iload 4, 2) := by decide +kernel
theorem dM_mover_113 : decode cM_mover 113 = .ok (.ifCond .ne 5, 3) := by decide +kernel
theorem dM_mover_116 : decode cM_mover 116 = .ok (.iconst (-1), 1) := by decide +kernel
theorem dM_mover_117 : decode cM_mover 117 = .ok (.ireturn, 1) := by decide +kernel
theorem dM_mover_118 : decode cM_mover 118 = .ok (.aload_n 0, 1) := by decide +kernel
theorem dM_mover_119 : decode cM_mover 119 = .ok (.getfield 39, 3) := by decide +kernel
theorem dM_mover_122 : decode cM_mover 122 = .ok (.aload_n 0, 1) := by decide +kernel
theorem dM_mover_123 : decode cM_mover 123 = .ok (.getfield 101, 3) := by decide +kernel
theorem dM_mover_126 : decode cM_mover 126 = .ok (.iload_n 1, 1) := by decide +kernel
theorem dM_mover_127 : decode cM_mover 127 = .ok (.iastore, 1) := by decide +kernel
theorem dM_mover_128 : decode cM_mover 128 = .ok (.aload_n 0, 1) := by decide +kernel
theorem dM_mover_129 : decode cM_mover 129 = .ok (.getfield 42, 3) := by decide +kernel
theorem dM_mover_132 : decode cM_mover 132 = .ok (.aload_n 0, 1) := by decide +kernel
theorem dM_mover_133 : decode cM_mover 133 = .ok (.getfield 101, 3) := by decide +kernel
theorem dM_mover_136 : decode cM_mover 136 = .ok (.lload_n 2, 1) := by decide +kernel
theorem dM_mover_137 : decode cM_mover 137 = .ok (.l2i, 1) := by decide +kernel
theorem dM_mover_138 : decode cM_mover 138 = .ok (.iastore, 1) := by decide +kernel
theorem dM_mover_139 : decode cM_mover 139 = .ok (.aload_n 0, 1) := by decide +kernel
theorem dM_mover_140 : decode cM_mover 140 = .ok (.dup, 1) := by decide +kernel
theorem dM_mover_141 : decode cM_mover 141 = .ok (.getfield 101, 3) := by decide +kernel
theorem dM_mover_144 : decode cM_mover 144 = .ok (.iconst 1, 1) := by decide +kernel
theorem dM_mover_145 : decode cM_mover 145 = .ok (.iadd, 1) := by decide +kernel
theorem dM_mover_146 : decode cM_mover 146 = .ok (.putfield 101, 3) := by decide +kernel
theorem dM_mover_149 : decode cM_mover 149 = .ok (.aload_n 0, 1) := by decide +kernel
theorem dM_mover_150 : decode cM_mover 150 = .ok (.getfield 101, 3) := by decide +kernel
theorem dM_mover_153 : decode cM_mover 153 = .ok (.iconst 1, 1) := by decide +kernel
theorem dM_mover_154 : decode cM_mover 154 = .ok (.isub, 1) := by decide +kernel
theorem dM_mover_155 : decode cM_mover 155 = .ok (.ireturn, 1) := by decide +kernel
theorem dM_closed_0 : decode cM_closed 0 = .ok (.aload_n 0, 1) := by decide +kernel
theorem dM_closed_1 : decode cM_closed 1 = .ok (.aload_n 0, 1) := by decide +kernel
theorem dM_closed_2 : decode cM_closed 2 = .ok (.iload_n 1, 1) := by decide +kernel
theorem dM_closed_3 : decode cM_closed 3 = .ok (.invokevirtual 98, 3) := by decide +kernel
theorem dM_closed_6 : decode cM_closed 6 = .ok (.ifCond .eq 7, 3) := by decide +kernel
theorem dM_closed_9 : decode cM_closed 9 = .ok (.iconst 0, 1) := by decide +kernel
theorem dM_closed_10 : decode cM_closed 10 = .ok (.goto 4, 3) := by decide +kernel
theorem dM_closed_13 : decode cM_closed 13 = .ok (.iconst 1, 1) := by decide +kernel
theorem dM_closed_14 : decode cM_closed 14 = .ok (.putfield 69, 3) := by decide +kernel
theorem dM_closed_17 : decode cM_closed 17 = .ok (.aload_n 0, 1) := by decide +kernel
theorem dM_closed_18 : decode cM_closed 18 = .ok (.getfield 69, 3) := by decide +kernel
theorem dM_closed_21 : decode cM_closed 21 = .ok (.ifCond .le 5, 3) := by decide +kernel
theorem dM_closed_24 : decode cM_closed 24 = .ok (.iconst 0, 1) := by decide +kernel
theorem dM_closed_25 : decode cM_closed 25 = .ok (.ireturn, 1) := by decide +kernel
theorem dM_closed_26 : decode cM_closed 26 = .ok (.aload_n 0, 1) := by decide +kernel
theorem dM_closed_27 : decode cM_closed 27 = .ok (.getfield 29, 3) := by decide +kernel
theorem dM_closed_30 : decode cM_closed 30 = .ok (.iload_n 1, 1) := by decide +kernel
theorem dM_closed_31 : decode cM_closed 31 = .ok (.iload_n 2, 1) := by decide +kernel
theorem dM_closed_32 : decode cM_closed 32 = .ok (.bastore, 1) := by decide +kernel
theorem dM_closed_33 : decode cM_closed 33 = .ok (.iconst 0, 1) := by decide +kernel
theorem dM_closed_34 : decode cM_closed 34 = .ok (.istore_n 3, 1) := by decide +kernel
theorem dM_closed_35 : decode cM_closed 35 = .ok (.iconst 0, 1) := by decide +kernel
theorem dM_closed_36 : decode cM_closed 36 = .ok (.istore 4, 2) := by decide +kernel
theorem dM_closed_38 : decode cM_closed 38 = .ok (.iload 4, 2) := by decide +kernel
theorem dM_closed_40 : decode cM_closed 40 = .ok (.aload_n 0, 1) := by decide +kernel
theorem dM_closed_41 : decode cM_closed 41 = .ok (.getfield 80, 3) := by decide +kernel
theorem dM_closed_44 : decode cM_closed 44 = .ok (.if_icmp .ge 27, 3) := by decide +kernel
theorem dM_closed_47 : decode cM_closed 47 = .ok (.iload_n 3, 1) := by decide +kernel
theorem dM_closed_48 : decode cM_closed 48 = .ok (.aload_n 0, 1) := by decide +kernel
theorem dM_closed_49 : decode cM_closed 49 = .ok (.getfield 29, 3) := by decide +kernel
theorem dM_closed_52 : decode cM_closed 52 = .ok (.iload 4, 2) := by decide +kernel
theorem dM_closed_54 : decode cM_closed 54 = .ok (.baload, 1) := by decide +kernel
theorem dM_closed_55 : decode cM_closed 55 = .ok (.ifCond .eq 7, 3) := by decide +kernel
theorem dM_closed_58 : decode cM_closed 58 = .ok (.iconst 1, 1) := by decide +kernel
theorem dM_closed_59 : decode cM_closed 59 = .ok (.goto 4, 3) := by decide +kernel
theorem dM_closed_62 : decode cM_closed 62 = .ok (.iconst 0, 1) := by decide +kernel
theorem dM_closed_63 : decode cM_closed 63 = .ok (.iadd, 1) := by decide +kernel
theorem dM_closed_64 : decode cM_closed 64 = .ok (.istore_n 3, 1) := by decide +kernel
theorem dM_closed_65 : decode cM_closed 65 = .ok (.iinc 4 1, 3) := by decide +kernel
theorem dM_closed_68 : decode cM_closed 68 = .ok (.goto (-30), 3) := by decide +kernel
theorem dM_closed_71 : decode cM_closed 71 = .ok (.iload_n 3, 1) := by decide +kernel
theorem dM_closed_72 : decode cM_closed 72 = .ok (.ireturn, 1) := by decide +kernel
theorem dM_turn_0 : decode cM_turn 0 = .ok (.aload_n 0, 1) := by decide +kernel
theorem dM_turn_1 : decode cM_turn 1 = .ok (.iload_n 1, 1) := by decide +kernel
theorem dM_turn_2 : decode cM_turn 2 = .ok (.invokevirtual 98, 3) := by decide +kernel
theorem dM_turn_5 : decode cM_turn 5 = .ok (.ifCond .eq 15, 3) := by decide +kernel
theorem dM_turn_8 : decode cM_turn 8 = .ok (.aload_n 0, 1) := by decide +kernel
theorem dM_turn_9 : decode cM_turn 9 = .ok (.iload_n 2, 1) := by decide +kernel
theorem dM_turn_10 : decode cM_turn 10 = .ok (.invokevirtual 98, 3) := by decide +kernel
theorem dM_turn_13 : decode cM_turn 13 = .ok (.ifCond .eq 7, 3) := by decide +kernel
theorem dM_turn_16 : decode cM_turn 16 = .ok (.iconst 1, 1) := by decide +kernel
theorem dM_turn_17 : decode cM_turn 17 = .ok (.goto 4, 3) := by decide +kernel
theorem dM_turn_20 : decode cM_turn 20 = .ok (.iconst 0, 1) := by decide +kernel
theorem dM_turn_21 : decode cM_turn 21 = .ok (.istore 4, 2) := by decide +kernel
theorem dM_turn_23 : decode cM_turn 23 = .ok (.iload 4, 2) := by decide +kernel
theorem dM_turn_25 : decode cM_turn 25 = .ok (.ifCond .eq 25, 3) := by decide +kernel
theorem dM_turn_28 : decode cM_turn 28 = .ok (.aload_n 0, 1) := by decide +kernel
theorem dM_turn_29 : decode cM_turn 29 = .ok (.getfield 16, 3) := by decide +kernel
theorem dM_turn_32 : decode cM_turn 32 = .ok (.iload_n 1, 1) := by decide +kernel
theorem dM_turn_33 : decode cM_turn 33 = .ok (.iaload, 1) := by decide +kernel
theorem dM_turn_34 : decode cM_turn 34 = .ok (.aload_n 0, 1) := by decide +kernel
theorem dM_turn_35 : decode cM_turn 35 = .ok (.getfield 13, 3) := by decide +kernel
theorem dM_turn_38 : decode cM_turn 38 = .ok (.iload_n 2, 1) := by decide +kernel
theorem dM_turn_39 : decode cM_turn 39 = .ok (.iaload, 1) := by decide +kernel
theorem dM_turn_40 : decode cM_turn 40 = .ok (.if_icmp .ne 7, 3) := by decide +kernel
theorem dM_turn_43 : decode cM_turn 43 = .ok (.iconst 1, 1) := by decide +kernel
theorem dM_turn_44 : decode cM_turn 44 = .ok (.goto 4, 3) := by decide +kernel
theorem dM_turn_47 : decode cM_turn 47 = .ok (.iconst 0, 1) := by decide +kernel
theorem dM_turn_48 : decode cM_turn 48 = .ok (.istore 4, 2) := by decide +kernel
theorem dM_turn_50 : decode cM_turn 50 = .ok (.aload_n 0, 1) := by decide +kernel
theorem dM_turn_51 : decode cM_turn 51 = .ok (.iload 4, 2) := by decide +kernel
theorem dM_turn_53 : decode cM_turn 53 = .ok (.ifCond .eq 7, 3) := by decide +kernel
theorem dM_turn_56 : decode cM_turn 56 = .ok (.iconst 0, 1) := by decide +kernel
theorem dM_turn_57 : decode cM_turn 57 = .ok (.goto 4, 3) := by decide +kernel
theorem dM_turn_60 : decode cM_turn 60 = .ok (.iconst 1, 1) := by decide +kernel
theorem dM_turn_61 : decode cM_turn 61 = .ok (.putfield 69, 3) := by decide +kernel
theorem dM_turn_64 : decode cM_turn 64 = .ok (.aload_n 0, 1) := by decide +kernel
theorem dM_turn_65 : decode cM_turn 65 = .ok (.getfield 69, 3) := by decide +kernel
theorem dM_turn_68 : decode cM_turn 68 = .ok (.ifCond .le 5, 3) := by decide +kernel
theorem dM_turn_71 : decode cM_turn 71 = .ok (.iconst 0, 1) := by decide +kernel
theorem dM_turn_72 : decode cM_turn 72 = .ok (.ireturn, 1) := by decide +kernel
theorem dM_turn_73 : decode cM_turn 73 = .ok (.aload_n 0, 1) := by decide +kernel
theorem dM_turn_74 : decode cM_turn 74 = .ok (.getfield 36, 3) := by decide +kernel
theorem dM_turn_77 : decode cM_turn 77 = .ok (.bipush 40, 2) := by decide +kernel
theorem dM_turn_79 : decode cM_turn 79 = .ok (.iload_n 1, 1) := by decide +kernel
theorem dM_turn_80 : decode cM_turn 80 = .ok (.imul, 1) := by decide +kernel
theorem dM_turn_81 : decode cM_turn 81 = .ok (.iload_n 2, 1) := by decide +kernel
theorem dM_turn_82 : decode cM_turn 82 = .ok (.iadd, 1) := by decide +kernel
theorem dM_turn_83 : decode cM_turn 83 = .ok (.iload_n 3, 1) := by decide +kernel
theorem dM_turn_84 : decode cM_turn 84 = .ok (.bastore, 1) := by decide +kernel
theorem dM_turn_85 : decode cM_turn 85 = .ok (.iload_n 3, 1) := by decide +kernel
theorem dM_turn_86 : decode cM_turn 86 = .ok (.ifCond .eq 7, 3) := by decide +kernel
theorem dM_turn_89 : decode cM_turn 89 = .ok (.iconst 1, 1) := by decide +kernel
theorem dM_turn_90 : decode cM_turn 90 = .ok (.goto 4, 3) := by decide +kernel
theorem dM_turn_93 : decode cM_turn 93 = .ok (.iconst 0, 1) := by decide +kernel
theorem dM_turn_94 : decode cM_turn 94 = .ok (.aload_n 0, 1) := by decide +kernel
theorem dM_turn_95 : decode cM_turn 95 = .ok (.getfield 36, 3) := by decide +kernel
theorem dM_turn_98 : decode cM_turn 98 = .ok (.bipush 40, 2) := by decide +kernel
theorem dM_turn_100 : decode cM_turn 100 = .ok (.iload_n 2, 1) := by decide +kernel
theorem dM_turn_101 : decode cM_turn 101 = .ok (.imul, 1) := by decide +kernel
theorem dM_turn_102 : decode cM_turn 102 = .ok (.iload_n 1, 1) := by decide +kernel
theorem dM_turn_103 : decode cM_turn 103 = .ok (.iadd, 1) := by decide +kernel
theorem dM_turn_104 : decode cM_turn 104 = .ok (.baload, 1) := by decide +kernel
theorem dM_turn_105 : decode cM_turn 105 = .ok (.ifCond .eq 7, 3) := by decide +kernel
theorem dM_turn_108 : decode cM_turn 108 = .ok (.iconst 1, 1) := by decide +kernel
theorem dM_turn_109 : decode cM_turn 109 = .ok (.goto 4, 3) := by decide +kernel
theorem dM_turn_112 : decode cM_turn 112 = .ok (.iconst 0, 1) := by decide +kernel
theorem dM_turn_113 : decode cM_turn 113 = .ok (.iadd, 1) := by decide +kernel
theorem dM_turn_114 : decode cM_turn 114 = .ok (.ireturn, 1) := by decide +kernel
theorem dM_door_0 : decode cM_door 0 = .ok (.aload_n 0, 1) := by decide +kernel
theorem dM_door_1 : decode cM_door 1 = .ok (.aload_n 0, 1) := by decide +kernel
theorem dM_door_2 : decode cM_door 2 = .ok (.iload_n 1, 1) := by decide +kernel
theorem dM_door_3 : decode cM_door 3 = .ok (.invokevirtual 98, 3) := by decide +kernel
theorem dM_door_6 : decode cM_door 6 = .ok (.ifCond .eq 15, 3) := by decide +kernel
theorem dM_door_9 : decode cM_door 9 = .ok (.iload_n 2, 1) := by decide +kernel
theorem dM_door_10 : decode cM_door 10 = .ok (.i2l, 1) := by decide +kernel
theorem dM_door_11 : decode cM_door 11 = .ok (.lconst 0, 1) := by decide +kernel
theorem dM_door_12 : decode cM_door 12 = .ok (.ldc2_w 104, 3) := by decide +kernel
theorem dM_door_15 : decode cM_door 15 = .ok (.invokestatic 76, 3) := by decide +kernel
theorem dM_door_18 : decode cM_door 18 = .ok (.ifCond .ne 7, 3) := by decide +kernel
theorem dM_door_21 : decode cM_door 21 = .ok (.iconst 1, 1) := by decide +kernel
theorem dM_door_22 : decode cM_door 22 = .ok (.goto 4, 3) := by decide +kernel
theorem dM_door_25 : decode cM_door 25 = .ok (.iconst 0, 1) := by decide +kernel
theorem dM_door_26 : decode cM_door 26 = .ok (.putfield 69, 3) := by decide +kernel
theorem dM_door_29 : decode cM_door 29 = .ok (.aload_n 0, 1) := by decide +kernel
theorem dM_door_30 : decode cM_door 30 = .ok (.getfield 69, 3) := by decide +kernel
theorem dM_door_33 : decode cM_door 33 = .ok (.ifCond .le 5, 3) := by decide +kernel
theorem dM_door_36 : decode cM_door 36 = .ok (.iconst 0, 1) := by decide +kernel
theorem dM_door_37 : decode cM_door 37 = .ok (.ireturn, 1) := by decide +kernel
theorem dM_door_38 : decode cM_door 38 = .ok (.aload_n 0, 1) := by decide +kernel
theorem dM_door_39 : decode cM_door 39 = .ok (.getfield 33, 3) := by decide +kernel
theorem dM_door_42 : decode cM_door 42 = .ok (.iload_n 1, 1) := by decide +kernel
theorem dM_door_43 : decode cM_door 43 = .ok (.iload_n 3, 1) := by decide +kernel
theorem dM_door_44 : decode cM_door 44 = .ok (.ifCond .eq 16, 3) := by decide +kernel
theorem dM_door_47 : decode cM_door 47 = .ok (.aload_n 0, 1) := by decide +kernel
theorem dM_door_48 : decode cM_door 48 = .ok (.getfield 33, 3) := by decide +kernel
theorem dM_door_51 : decode cM_door 51 = .ok (.iload_n 1, 1) := by decide +kernel
theorem dM_door_52 : decode cM_door 52 = .ok (.iaload, 1) := by decide +kernel
theorem dM_door_53 : decode cM_door 53 = .ok (.iconst 1, 1) := by decide +kernel
theorem dM_door_54 : decode cM_door 54 = .ok (.iload_n 2, 1) := by decide +kernel
theorem dM_door_55 : decode cM_door 55 = .ok (.ishl, 1) := by decide +kernel
theorem dM_door_56 : decode cM_door 56 = .ok (.ior, 1) := by decide +kernel
theorem dM_door_57 : decode cM_door 57 = .ok (.goto 15, 3) := by decide +kernel
theorem dM_door_60 : decode cM_door 60 = .ok (.aload_n 0, 1) := by decide +kernel
theorem dM_door_61 : decode cM_door 61 = .ok (.getfield 33, 3) := by decide +kernel
theorem dM_door_64 : decode cM_door 64 = .ok (.iload_n 1, 1) := by decide +kernel
theorem dM_door_65 : decode cM_door 65 = .ok (.iaload, 1) := by decide +kernel
theorem dM_door_66 : decode cM_door 66 = .ok (.iconst 1, 1) := by decide +kernel
theorem dM_door_67 : decode cM_door 67 = .ok (.iload_n 2, 1) := by decide +kernel
theorem dM_door_68 : decode cM_door 68 = .ok (.ishl, 1) := by decide +kernel
theorem dM_door_69 : decode cM_door 69 = .ok (.iconst (-1), 1) := by decide +kernel
theorem dM_door_70 : decode cM_door 70 = .ok (.ixor, 1) := by decide +kernel
theorem dM_door_71 : decode cM_door 71 = .ok (.iand, 1) := by decide +kernel
theorem dM_door_72 : decode cM_door 72 = .ok (.iastore, 1) := by decide +kernel
theorem dM_door_73 : decode cM_door 73 = .ok (.iconst 0, 1) := by decide +kernel
theorem dM_door_74 : decode cM_door 74 = .ok (.istore 4, 2) := by decide +kernel
theorem dM_door_76 : decode cM_door 76 = .ok (.iconst 0, 1) := by decide +kernel
theorem dM_door_77 : decode cM_door 77 = .ok (.istore 5, 2) := by decide +kernel
theorem dM_door_79 : decode cM_door 79 = .ok (.iload 5, 2) := by decide +kernel
theorem dM_door_81 : decode cM_door 81 = .ok (.bipush 24, 2) := by decide +kernel
theorem dM_door_83 : decode cM_door 83 = .ok (.if_icmp .ge 25, 3) := by decide +kernel
theorem dM_door_86 : decode cM_door 86 = .ok (.iload 4, 2) := by decide +kernel
theorem dM_door_88 : decode cM_door 88 = .ok (.aload_n 0, 1) := by decide +kernel
theorem dM_door_89 : decode cM_door 89 = .ok (.getfield 33, 3) := by decide +kernel
theorem dM_door_92 : decode cM_door 92 = .ok (.iload_n 1, 1) := by decide +kernel
theorem dM_door_93 : decode cM_door 93 = .ok (.iaload, 1) := by decide +kernel
theorem dM_door_94 : decode cM_door 94 = .ok (.iload 5, 2) := by decide +kernel
theorem dM_door_96 : decode cM_door 96 = .ok (.ishr, 1) := by decide +kernel
theorem dM_door_97 : decode cM_door 97 = .ok (.iconst 1, 1) := by decide +kernel
theorem dM_door_98 : decode cM_door 98 = .ok (.iand, 1) := by decide +kernel
theorem dM_door_99 : decode cM_door 99 = .ok (.iadd, 1) := by decide +kernel
theorem dM_door_100 : decode cM_door 100 = .ok (.istore 4, 2) := by decide +kernel
theorem dM_door_102 : decode cM_door 102 = .ok (.iinc 5 1, 3) := by decide +kernel
theorem dM_door_105 : decode cM_door 105 = .ok (.goto (-26), 3) := by decide +kernel
theorem dM_door_108 : decode cM_door 108 = .ok (.iload 4, 2) := by decide +kernel
theorem dM_door_110 : decode cM_door 110 = .ok (.ireturn, 1) := by decide +kernel
theorem dM_way_0 : decode cM_way 0 = .ok (.aload_n 0, 1) := by decide +kernel
theorem dM_way_1 : decode cM_way 1 = .ok (.aload_n 0, 1) := by decide +kernel
theorem dM_way_2 : decode cM_way 2 = .ok (.iload_n 1, 1) := by decide +kernel
theorem dM_way_3 : decode cM_way 3 = .ok (.invokevirtual 135, 3) := by decide +kernel
theorem dM_way_6 : decode cM_way 6 = .ok (.ifCond .eq 31, 3) := by decide +kernel
theorem dM_way_9 : decode cM_way 9 = .ok (.aload_n 0, 1) := by decide +kernel
theorem dM_way_10 : decode cM_way 10 = .ok (.iload_n 2, 1) := by decide +kernel
theorem dM_way_11 : decode cM_way 11 = .ok (.invokevirtual 86, 3) := by decide +kernel
theorem dM_way_14 : decode cM_way 14 = .ok (.ifCond .eq 23, 3) := by decide +kernel
theorem dM_way_17 : decode cM_way 17 = .ok (.aload_n 0, 1) := by decide +kernel
theorem dM_way_18 : decode cM_way 18 = .ok (.iload_n 3, 1) := by decide +kernel
theorem dM_way_19 : decode cM_way 19 = .ok (.invokevirtual 86, 3) := by decide +kernel
theorem dM_way_22 : decode cM_way 22 = .ok (.ifCond .eq 15, 3) := by decide +kernel
theorem dM_way_25 : decode cM_way 25 = .ok (.lload 4, 2) := by decide +kernel
theorem dM_way_27 : decode cM_way 27 = .ok (.lconst 0, 1) := by decide +kernel
theorem dM_way_28 : decode cM_way 28 = .ok (.ldc2_w 90, 3) := by decide +kernel
theorem dM_way_31 : decode cM_way 31 = .ok (.invokestatic 76, 3) := by decide +kernel
theorem dM_way_34 : decode cM_way 34 = .ok (.ifCond .ne 7, 3) := by decide +kernel
theorem dM_way_37 : decode cM_way 37 = .ok (.iconst 1, 1) := by decide +kernel
theorem dM_way_38 : decode cM_way 38 = .ok (.goto 4, 3) := by decide +kernel
theorem dM_way_41 : decode cM_way 41 = .ok (.iconst 0, 1) := by decide +kernel
theorem dM_way_42 : decode cM_way 42 = .ok (.putfield 69, 3) := by decide +kernel
theorem dM_way_45 : decode cM_way 45 = .ok (.aload_n 0, 1) := by decide +kernel
theorem dM_way_46 : decode cM_way 46 = .ok (.getfield 69, 3) := by decide +kernel
theorem dM_way_49 : decode cM_way 49 = .ok (.ifCond .le 5, 3) := by decide +kernel
theorem dM_way_52 : decode cM_way 52 = .ok (.lconst 0, 1) := by decide +kernel
theorem dM_way_53 : decode cM_way 53 = .ok (.lreturn, 1) := by decide +kernel
theorem dM_way_54 : decode cM_way 54 = .ok (.aload_n 0, 1) := by decide +kernel
theorem dM_way_55 : decode cM_way 55 = .ok (.iconst 0, 1) := by decide +kernel
theorem dM_way_56 : decode cM_way 56 = .ok (.putfield 138, 3) := by decide +kernel
theorem dM_way_59 : decode cM_way 59 = .ok (.aload_n 0, 1) := by decide +kernel
theorem dM_way_60 : decode cM_way 60 = .ok (.iload_n 1, 1) := by decide +kernel
theorem dM_way_61 : decode cM_way 61 = .ok (.iload_n 2, 1) := by decide +kernel
theorem dM_way_62 : decode cM_way 62 = .ok (.iload_n 3, 1) := by decide +kernel
theorem dM_way_63 : decode cM_way 63 = .ok (.lload 4, 2) := by decide +kernel
theorem dM_way_65 : decode cM_way 65 = .ok (.invokevirtual 141, 3) := by decide +kernel
theorem dM_way_68 : decode cM_way 68 = .ok (.lstore 6, 2) := by decide +kernel
theorem dM_way_70 : decode cM_way 70 = .ok (.lload 6, 2) := by decide +kernel
theorem dM_way_72 : decode cM_way 72 = .ok (.lconst 0, 1) := by decide +kernel
theorem dM_way_73 : decode cM_way 73 = .ok (.lcmp, 1) := by decide +kernel
theorem dM_way_74 : decode cM_way 74 = .ok (.ifCond .gt 6, 3) := by decide +kernel
theorem dM_way_77 : decode cM_way 77 = .ok (.lload 6, 2) := by decide +kernel
theorem dM_way_79 : decode cM_way 79 = .ok (.lreturn, 1) := by decide +kernel
theorem dM_way_80 : decode cM_way 80 = .ok (.iconst 0, 1) := by decide +kernel
theorem dM_way_81 : decode cM_way 81 = .ok (.istore 8, 2) := by decide +kernel
theorem dM_way_83 : decode cM_way 83 = .ok (.aload_n 0, 1) := by decide +kernel
theorem dM_way_84 : decode cM_way 84 = .ok (.iload_n 3, 1) := by decide +kernel
theorem dM_way_85 : decode cM_way 85 = .ok (.invokevirtual 131, 3) := by decide +kernel
theorem dM_way_88 : decode cM_way 88 = .ok (.istore 9, 2) := by decide +kernel
theorem dM_way_90 : decode cM_way 90 = .ok (.iload 9, 2) := by decide +kernel
theorem dM_way_92 : decode cM_way 92 = .ok (.iconst (-1), 1) := by decide +kernel
theorem dM_way_93 : decode cM_way 93 = .ok (.if_icmp .eq 21, 3) := by decide +kernel
theorem dM_way_96 : decode cM_way 96 = .ok (.iinc 8 1, 3) := by decide +kernel
theorem dM_way_99 : decode cM_way 99 = .ok (.aload_n 0, 1) := by decide +kernel
theorem dM_way_100 : decode cM_way 100 = .ok (.iload_n 1, 1) := by decide +kernel
theorem dM_way_101 : decode cM_way 101 = .ok (.iload 9, 2) := by decide +kernel
theorem dM_way_103 : decode cM_way 103 = .ok (.iload_n 2, 1) := by decide +kernel
theorem dM_way_104 : decode cM_way 104 = .ok (.lload 4, 2) := by decide +kernel
theorem dM_way_106 : decode cM_way 106 = .ok (.invokevirtual 145, 3) := by decide +kernel
theorem dM_way_109 : decode cM_way 109 = .ok (.istore 9, 2) := by decide +kernel
theorem dM_way_111 : decode cM_way 111 = .ok (.goto (-21), 3) := by decide +kernel
theorem dM_way_114 : decode cM_way 114 = .ok (.aload_n 0, 1) := by decide +kernel
theorem dM_way_115 : decode cM_way 115 = .ok (.iload 8, 2) := by decide +kernel
theorem dM_way_117 : decode cM_way 117 = .ok (.putfield 138, 3) := by decide +kernel
theorem dM_way_120 : decode cM_way 120 = .ok (.aload_n 0, 1) := by decide +kernel
theorem dM_way_121 : decode cM_way 121 = .ok (.iload_n 3, 1) := by decide +kernel
theorem dM_way_122 : decode cM_way 122 = .ok (.invokevirtual 131, 3) := by decide +kernel
theorem dM_way_125 : decode cM_way 125 = .ok (.istore 9, 2) := by decide +kernel
theorem dM_way_127 : decode cM_way 127 = .ok (.iload 9, 2) := by decide +kernel
theorem dM_way_129 : decode cM_way 129 = .ok (.iconst (-1), 1) := by decide +kernel
theorem dM_way_130 : decode cM_way 130 = .ok (.if_icmp .eq 30, 3) := by decide +kernel
theorem dM_way_133 : decode cM_way 133 = .ok (.iinc 8 (-1), 3) := by decide +kernel
theorem dM_way_136 : decode cM_way 136 = .ok (.aload_n 0, 1) := by decide +kernel
theorem dM_way_137 : decode cM_way 137 = .ok (.getfield 51, 3) := by decide +kernel
theorem dM_way_140 : decode cM_way 140 = .ok (.iload 8, 2) := by decide +kernel
theorem dM_way_142 : decode cM_way 142 = .ok (.iload 9, 2) := by decide +kernel
theorem dM_way_144 : decode cM_way 144 = .ok (.iastore, 1) := by decide +kernel
theorem dM_way_145 : decode cM_way 145 = .ok (.aload_n 0, 1) := by decide +kernel
theorem dM_way_146 : decode cM_way 146 = .ok (.iload_n 1, 1) := by decide +kernel
theorem dM_way_147 : decode cM_way 147 = .ok (.iload 9, 2) := by decide +kernel
theorem dM_way_149 : decode cM_way 149 = .ok (.iload_n 2, 1) := by decide +kernel
theorem dM_way_150 : decode cM_way 150 = .ok (.lload 4, 2) := by decide +kernel
theorem dM_way_152 : decode cM_way 152 = .ok (.invokevirtual 145, 3) := by decide +kernel
theorem dM_way_155 : decode cM_way 155 = .ok (.istore 9, 2) := by decide +kernel
theorem dM_way_157 : decode cM_way 157 = .ok (.goto (-30), 3) := by decide +kernel
theorem dM_way_160 : decode cM_way 160 = .ok (.lload 6, 2) := by decide +kernel
theorem dM_way_162 : decode cM_way 162 = .ok (.lreturn, 1) := by decide +kernel
theorem dM_isMover_0 : decode cM_isMover 0 = .ok (.iload_n 1, 1) := by decide +kernel
theorem dM_isMover_1 : decode cM_isMover 1 = .ok (.i2l, 1) := by decide +kernel
theorem dM_isMover_2 : decode cM_isMover 2 = .ok (.lconst 0, 1) := by decide +kernel
theorem dM_isMover_3 : decode cM_isMover 3 = .ok (.aload_n 0, 1) := by decide +kernel
theorem dM_isMover_4 : decode cM_isMover 4 = .ok (.getfield 101, 3) := by decide +kernel
theorem dM_isMover_7 : decode cM_isMover 7 = .ok (.iconst 1, 1) := by decide +kernel
theorem dM_isMover_8 : decode cM_isMover 8 = .ok (.isub, 1) := by decide +kernel
theorem dM_isMover_9 : decode cM_isMover 9 = .ok (.i2l, 1) := by decide +kernel
theorem dM_isMover_10 : decode cM_isMover 10 = .ok (.invokestatic 76, 3) := by decide +kernel
theorem dM_isMover_13 : decode cM_isMover 13 = .ok (.ireturn, 1) := by decide +kernel
theorem dM_least_0 : decode cM_least 0 = .ok (.iload_n 2, 1) := by decide +kernel
theorem dM_least_1 : decode cM_least 1 = .ok (.iload_n 3, 1) := by decide +kernel
theorem dM_least_2 : decode cM_least 2 = .ok (.if_icmp .ne 5, 3) := by decide +kernel
theorem dM_least_5 : decode cM_least 5 = .ok (.lconst 0, 1) := by decide +kernel
theorem dM_least_6 : decode cM_least 6 = .ok (.lreturn, 1) := by decide +kernel
theorem dM_least_7 : decode cM_least 7 = .ok (.aload_n 0, 1) := by decide +kernel
theorem dM_least_8 : decode cM_least 8 = .ok (.iload_n 1, 1) := by decide +kernel
theorem dM_least_9 : decode cM_least 9 = .ok (.iload_n 2, 1) := by decide +kernel
theorem dM_least_10 : decode cM_least 10 = .ok (.lload 4, 2) := by decide +kernel
theorem dM_least_12 : decode cM_least 12 = .ok (.invokevirtual 127, 3) := by decide +kernel
theorem dM_least_15 : decode cM_least 15 = .ok (.aload_n 0, 1) := by decide +kernel
theorem dM_least_16 : decode cM_least 16 = .ok (.iload_n 3, 1) := by decide +kernel
theorem dM_least_17 : decode cM_least 17 = .ok (.invokevirtual 131, 3) := by decide +kernel
theorem dM_least_20 : decode cM_least 20 = .ok (.istore 6, 2) := by decide +kernel
theorem dM_least_22 : decode cM_least 22 = .ok (.iload 6, 2) := by decide +kernel
theorem dM_least_24 : decode cM_least 24 = .ok (.iconst (-1), 1) := by decide +kernel
theorem dM_least_25 : decode cM_least 25 = .ok (.if_icmp .ne 9, 3) := by decide +kernel
theorem dM_least_28 : decode cM_least 28 = .ok (.ldc2_w 118, 3) := by decide +kernel
theorem dM_least_31 : decode cM_least 31 = .ok (.goto 13, 3) := by decide +kernel
theorem dM_least_34 : decode cM_least 34 = .ok (.aload_n 0, 1) := by decide +kernel
theorem dM_least_35 : decode cM_least 35 = .ok (.getfield 48, 3) := by decide +kernel
theorem dM_least_38 : decode cM_least 38 = .ok (.iload 6, 2) := by decide +kernel
theorem dM_least_40 : decode cM_least 40 = .ok (.laload, 1) := by decide +kernel
theorem dM_least_41 : decode cM_least 41 = .ok (.lload 4, 2) := by decide +kernel
theorem dM_least_43 : decode cM_least 43 = .ok (.lsub, 1) := by decide +kernel
theorem dM_least_44 : decode cM_least 44 = .ok (.lreturn, 1) := by decide +kernel
theorem dM_reachAll_0 : decode cM_reachAll 0 = .ok (.iconst 0, 1) := by decide +kernel
theorem dM_reachAll_1 : decode cM_reachAll 1 = .ok (.istore 5, 2) := by decide +kernel
theorem dM_reachAll_3 : decode cM_reachAll 3 = .ok (.iload 5, 2) := by decide +kernel
theorem dM_reachAll_5 : decode cM_reachAll 5 = .ok (.aload_n 0, 1) := by decide +kernel
theorem dM_reachAll_6 : decode cM_reachAll 6 = .ok (.getfield 80, 3) := by decide +kernel
theorem dM_reachAll_9 : decode cM_reachAll 9 = .ok (.if_icmp .ge 50, 3) := by decide +kernel
theorem dM_reachAll_12 : decode cM_reachAll 12 = .ok (.aload_n 0, 1) := by decide +kernel
theorem dM_reachAll_13 : decode cM_reachAll 13 = .ok (.getfield 48, 3) := by decide +kernel
theorem dM_reachAll_16 : decode cM_reachAll 16 = .ok (.iload 5, 2) := by decide +kernel
theorem dM_reachAll_18 : decode cM_reachAll 18 = .ok (.aload_n 0, 1) := by decide +kernel
theorem dM_reachAll_19 : decode cM_reachAll 19 = .ok (.getfield 13, 3) := by decide +kernel
theorem dM_reachAll_22 : decode cM_reachAll 22 = .ok (.iload 5, 2) := by decide +kernel
theorem dM_reachAll_24 : decode cM_reachAll 24 = .ok (.iaload, 1) := by decide +kernel
theorem dM_reachAll_25 : decode cM_reachAll 25 = .ok (.iload_n 2, 1) := by decide +kernel
theorem dM_reachAll_26 : decode cM_reachAll 26 = .ok (.if_icmp .ne 23, 3) := by decide +kernel
theorem dM_reachAll_29 : decode cM_reachAll 29 = .ok (.aload_n 0, 1) := by decide +kernel
theorem dM_reachAll_30 : decode cM_reachAll 30 = .ok (.iload_n 1, 1) := by decide +kernel
theorem dM_reachAll_31 : decode cM_reachAll 31 = .ok (.iload 5, 2) := by decide +kernel
theorem dM_reachAll_33 : decode cM_reachAll 33 = .ok (.invokevirtual 110, 3) := by decide +kernel
theorem dM_reachAll_36 : decode cM_reachAll 36 = .ok (.ifCond .eq 13, 3) := by decide +kernel

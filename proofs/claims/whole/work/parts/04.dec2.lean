theorem dG_closed_25 : decode cG_closed 25 = .ok (.aload_n 0, 1) := by decide +kernel
theorem dG_closed_26 : decode cG_closed 26 = .ok (.getfield 16, 3) := by decide +kernel
theorem dG_closed_29 : decode cG_closed 29 = .ok (.getfield 131, 3) := by decide +kernel
theorem dG_closed_32 : decode cG_closed 32 = .ok (.iload_n 1, 1) := by decide +kernel
theorem dG_closed_33 : decode cG_closed 33 = .ok (.iload_n 2, 1) := by decide +kernel
theorem dG_closed_34 : decode cG_closed 34 = .ok (.invokestatic 135, 3) := by decide +kernel
theorem dG_closed_37 : decode cG_closed 37 = .ok (.putfield 131, 3) := by decide +kernel
theorem dG_closed_40 : decode cG_closed 40 = .ok (.aload_n 0, 1) := by decide +kernel
theorem dG_closed_41 : decode cG_closed 41 = .ok (.getfield 16, 3) := by decide +kernel
theorem dG_closed_44 : decode cG_closed 44 = .ok (.getfield 131, 3) := by decide +kernel
theorem dG_closed_47 : decode cG_closed 47 = .ok (.invokestatic 139, 3) := by decide +kernel
theorem dG_closed_50 : decode cG_closed 50 = .ok (.ireturn, 1) := by decide +kernel
theorem dG_withBit_0 : decode cG_withBit 0 = .ok (.lconst 1, 1) := by decide +kernel
theorem dG_withBit_1 : decode cG_withBit 1 = .ok (.iload_n 2, 1) := by decide +kernel
theorem dG_withBit_2 : decode cG_withBit 2 = .ok (.lshl, 1) := by decide +kernel
theorem dG_withBit_3 : decode cG_withBit 3 = .ok (.lstore 4, 2) := by decide +kernel
theorem dG_withBit_5 : decode cG_withBit 5 = .ok (.iload_n 3, 1) := by decide +kernel
theorem dG_withBit_6 : decode cG_withBit 6 = .ok (.ifCond .eq 10, 3) := by decide +kernel
theorem dG_withBit_9 : decode cG_withBit 9 = .ok (.lload_n 0, 1) := by decide +kernel
theorem dG_withBit_10 : decode cG_withBit 10 = .ok (.lload 4, 2) := by decide +kernel
theorem dG_withBit_12 : decode cG_withBit 12 = .ok (.lor, 1) := by decide +kernel
theorem dG_withBit_13 : decode cG_withBit 13 = .ok (.goto 11, 3) := by decide +kernel
theorem dG_withBit_16 : decode cG_withBit 16 = .ok (.lload_n 0, 1) := by decide +kernel
theorem dG_withBit_17 : decode cG_withBit 17 = .ok (.lload 4, 2) := by decide +kernel
theorem dG_withBit_19 : decode cG_withBit 19 = .ok (.ldc2_w 179, 3) := by decide +kernel
theorem dG_withBit_22 : decode cG_withBit 22 = .ok (.lxor, 1) := by decide +kernel
theorem dG_withBit_23 : decode cG_withBit 23 = .ok (.land, 1) := by decide +kernel
theorem dG_withBit_24 : decode cG_withBit 24 = .ok (.lreturn, 1) := by decide +kernel
theorem dW_turn_0 : decode cW_turn 0 = .ok (.aload 4, 2) := by decide +kernel
theorem dW_turn_2 : decode cW_turn 2 = .ok (.iconst 0, 1) := by decide +kernel
theorem dW_turn_3 : decode cW_turn 3 = .ok (.aload_n 0, 1) := by decide +kernel
theorem dW_turn_4 : decode cW_turn 4 = .ok (.iload_n 1, 1) := by decide +kernel
theorem dW_turn_5 : decode cW_turn 5 = .ok (.iload_n 2, 1) := by decide +kernel
theorem dW_turn_6 : decode cW_turn 6 = .ok (.iload_n 3, 1) := by decide +kernel
theorem dW_turn_7 : decode cW_turn 7 = .ok (.invokevirtual 39, 3) := by decide +kernel
theorem dW_turn_10 : decode cW_turn 10 = .ok (.i2l, 1) := by decide +kernel
theorem dW_turn_11 : decode cW_turn 11 = .ok (.lastore, 1) := by decide +kernel
theorem dW_turn_12 : decode cW_turn 12 = .ok (.goto 7, 3) := by decide +kernel
theorem dW_turn_15 : decode cW_turn 15 = .ok (.astore 5, 2) := by decide +kernel
theorem dW_turn_17 : decode cW_turn 17 = .ok (.iconst 1, 1) := by decide +kernel
theorem dW_turn_18 : decode cW_turn 18 = .ok (.ireturn, 1) := by decide +kernel
theorem dW_turn_19 : decode cW_turn 19 = .ok (.iconst 0, 1) := by decide +kernel
theorem dW_turn_20 : decode cW_turn 20 = .ok (.ireturn, 1) := by decide +kernel
theorem dG_turn_0 : decode cG_turn 0 = .ok (.aload_n 0, 1) := by decide +kernel
theorem dG_turn_1 : decode cG_turn 1 = .ok (.getfield 16, 3) := by decide +kernel
theorem dG_turn_4 : decode cG_turn 4 = .ok (.iload_n 1, 1) := by decide +kernel
theorem dG_turn_5 : decode cG_turn 5 = .ok (.invokevirtual 103, 3) := by decide +kernel
theorem dG_turn_8 : decode cG_turn 8 = .ok (.ifCond .eq 35, 3) := by decide +kernel
theorem dG_turn_11 : decode cG_turn 11 = .ok (.aload_n 0, 1) := by decide +kernel
theorem dG_turn_12 : decode cG_turn 12 = .ok (.getfield 16, 3) := by decide +kernel
theorem dG_turn_15 : decode cG_turn 15 = .ok (.iload_n 2, 1) := by decide +kernel
theorem dG_turn_16 : decode cG_turn 16 = .ok (.invokevirtual 103, 3) := by decide +kernel
theorem dG_turn_19 : decode cG_turn 19 = .ok (.ifCond .eq 24, 3) := by decide +kernel
theorem dG_turn_22 : decode cG_turn 22 = .ok (.aload_n 0, 1) := by decide +kernel
theorem dG_turn_23 : decode cG_turn 23 = .ok (.getfield 16, 3) := by decide +kernel
theorem dG_turn_26 : decode cG_turn 26 = .ok (.getfield 145, 3) := by decide +kernel
theorem dG_turn_29 : decode cG_turn 29 = .ok (.iload_n 2, 1) := by decide +kernel
theorem dG_turn_30 : decode cG_turn 30 = .ok (.iaload, 1) := by decide +kernel
theorem dG_turn_31 : decode cG_turn 31 = .ok (.aload_n 0, 1) := by decide +kernel
theorem dG_turn_32 : decode cG_turn 32 = .ok (.getfield 16, 3) := by decide +kernel
theorem dG_turn_35 : decode cG_turn 35 = .ok (.getfield 148, 3) := by decide +kernel
theorem dG_turn_38 : decode cG_turn 38 = .ok (.iload_n 1, 1) := by decide +kernel
theorem dG_turn_39 : decode cG_turn 39 = .ok (.iaload, 1) := by decide +kernel
theorem dG_turn_40 : decode cG_turn 40 = .ok (.if_icmp .eq 13, 3) := by decide +kernel
theorem dG_turn_43 : decode cG_turn 43 = .ok (.new 57, 3) := by decide +kernel
theorem dG_turn_46 : decode cG_turn 46 = .ok (.dup, 1) := by decide +kernel
theorem dG_turn_47 : decode cG_turn 47 = .ok (.ldc 151, 2) := by decide +kernel
theorem dG_turn_49 : decode cG_turn 49 = .ok (.invokespecial 61, 3) := by decide +kernel
theorem dG_turn_52 : decode cG_turn 52 = .ok (.athrow, 1) := by decide +kernel
theorem dG_turn_53 : decode cG_turn 53 = .ok (.aload_n 0, 1) := by decide +kernel
theorem dG_turn_54 : decode cG_turn 54 = .ok (.getfield 16, 3) := by decide +kernel
theorem dG_turn_57 : decode cG_turn 57 = .ok (.getfield 153, 3) := by decide +kernel
theorem dG_turn_60 : decode cG_turn 60 = .ok (.iload_n 1, 1) := by decide +kernel
theorem dG_turn_61 : decode cG_turn 61 = .ok (.aload_n 0, 1) := by decide +kernel
theorem dG_turn_62 : decode cG_turn 62 = .ok (.getfield 16, 3) := by decide +kernel
theorem dG_turn_65 : decode cG_turn 65 = .ok (.getfield 153, 3) := by decide +kernel
theorem dG_turn_68 : decode cG_turn 68 = .ok (.iload_n 1, 1) := by decide +kernel
theorem dG_turn_69 : decode cG_turn 69 = .ok (.laload, 1) := by decide +kernel
theorem dG_turn_70 : decode cG_turn 70 = .ok (.iload_n 2, 1) := by decide +kernel
theorem dG_turn_71 : decode cG_turn 71 = .ok (.iload_n 3, 1) := by decide +kernel
theorem dG_turn_72 : decode cG_turn 72 = .ok (.invokestatic 135, 3) := by decide +kernel
theorem dG_turn_75 : decode cG_turn 75 = .ok (.lastore, 1) := by decide +kernel
theorem dG_turn_76 : decode cG_turn 76 = .ok (.aload_n 0, 1) := by decide +kernel
theorem dG_turn_77 : decode cG_turn 77 = .ok (.getfield 16, 3) := by decide +kernel
theorem dG_turn_80 : decode cG_turn 80 = .ok (.iload_n 2, 1) := by decide +kernel
theorem dG_turn_81 : decode cG_turn 81 = .ok (.iload_n 1, 1) := by decide +kernel
theorem dG_turn_82 : decode cG_turn 82 = .ok (.invokevirtual 156, 3) := by decide +kernel
theorem dG_turn_85 : decode cG_turn 85 = .ok (.ifCond .eq 7, 3) := by decide +kernel
theorem dG_turn_88 : decode cG_turn 88 = .ok (.iconst 1, 1) := by decide +kernel
theorem dG_turn_89 : decode cG_turn 89 = .ok (.goto 4, 3) := by decide +kernel
theorem dG_turn_92 : decode cG_turn 92 = .ok (.iconst 0, 1) := by decide +kernel
theorem dG_turn_93 : decode cG_turn 93 = .ok (.istore 4, 2) := by decide +kernel
theorem dG_turn_95 : decode cG_turn 95 = .ok (.iload_n 3, 1) := by decide +kernel
theorem dG_turn_96 : decode cG_turn 96 = .ok (.ifCond .eq 10, 3) := by decide +kernel
theorem dG_turn_99 : decode cG_turn 99 = .ok (.iload 4, 2) := by decide +kernel
theorem dG_turn_101 : decode cG_turn 101 = .ok (.iconst 1, 1) := by decide +kernel
theorem dG_turn_102 : decode cG_turn 102 = .ok (.iadd, 1) := by decide +kernel
theorem dG_turn_103 : decode cG_turn 103 = .ok (.goto 5, 3) := by decide +kernel
theorem dG_turn_106 : decode cG_turn 106 = .ok (.iload 4, 2) := by decide +kernel
theorem dG_turn_108 : decode cG_turn 108 = .ok (.ireturn, 1) := by decide +kernel
theorem dP_isBarred_0 : decode cP_isBarred 0 = .ok (.aload_n 0, 1) := by decide +kernel
theorem dP_isBarred_1 : decode cP_isBarred 1 = .ok (.getfield 31, 3) := by decide +kernel
theorem dP_isBarred_4 : decode cP_isBarred 4 = .ok (.iload_n 1, 1) := by decide +kernel
theorem dP_isBarred_5 : decode cP_isBarred 5 = .ok (.laload, 1) := by decide +kernel
theorem dP_isBarred_6 : decode cP_isBarred 6 = .ok (.iload_n 2, 1) := by decide +kernel
theorem dP_isBarred_7 : decode cP_isBarred 7 = .ok (.invokestatic 42, 3) := by decide +kernel
theorem dP_isBarred_10 : decode cP_isBarred 10 = .ok (.ireturn, 1) := by decide +kernel
theorem dG_hasBit_0 : decode cG_hasBit 0 = .ok (.lload_n 0, 1) := by decide +kernel
theorem dG_hasBit_1 : decode cG_hasBit 1 = .ok (.iload_n 2, 1) := by decide +kernel
theorem dG_hasBit_2 : decode cG_hasBit 2 = .ok (.lshr, 1) := by decide +kernel
theorem dG_hasBit_3 : decode cG_hasBit 3 = .ok (.lconst 1, 1) := by decide +kernel
theorem dG_hasBit_4 : decode cG_hasBit 4 = .ok (.land, 1) := by decide +kernel
theorem dG_hasBit_5 : decode cG_hasBit 5 = .ok (.lconst 0, 1) := by decide +kernel
theorem dG_hasBit_6 : decode cG_hasBit 6 = .ok (.lcmp, 1) := by decide +kernel
theorem dG_hasBit_7 : decode cG_hasBit 7 = .ok (.ifCond .eq 7, 3) := by decide +kernel
theorem dG_hasBit_10 : decode cG_hasBit 10 = .ok (.iconst 1, 1) := by decide +kernel
theorem dG_hasBit_11 : decode cG_hasBit 11 = .ok (.goto 4, 3) := by decide +kernel
theorem dG_hasBit_14 : decode cG_hasBit 14 = .ok (.iconst 0, 1) := by decide +kernel
theorem dG_hasBit_15 : decode cG_hasBit 15 = .ok (.ireturn, 1) := by decide +kernel
theorem dW_door_0 : decode cW_door 0 = .ok (.aload 4, 2) := by decide +kernel
theorem dW_door_2 : decode cW_door 2 = .ok (.iconst 0, 1) := by decide +kernel
theorem dW_door_3 : decode cW_door 3 = .ok (.aload_n 0, 1) := by decide +kernel
theorem dW_door_4 : decode cW_door 4 = .ok (.iload_n 1, 1) := by decide +kernel
theorem dW_door_5 : decode cW_door 5 = .ok (.iload_n 2, 1) := by decide +kernel
theorem dW_door_6 : decode cW_door 6 = .ok (.iload_n 3, 1) := by decide +kernel
theorem dW_door_7 : decode cW_door 7 = .ok (.invokevirtual 43, 3) := by decide +kernel
theorem dW_door_10 : decode cW_door 10 = .ok (.i2l, 1) := by decide +kernel
theorem dW_door_11 : decode cW_door 11 = .ok (.lastore, 1) := by decide +kernel
theorem dW_door_12 : decode cW_door 12 = .ok (.goto 7, 3) := by decide +kernel
theorem dW_door_15 : decode cW_door 15 = .ok (.astore 5, 2) := by decide +kernel
theorem dW_door_17 : decode cW_door 17 = .ok (.iconst 1, 1) := by decide +kernel
theorem dW_door_18 : decode cW_door 18 = .ok (.ireturn, 1) := by decide +kernel
theorem dW_door_19 : decode cW_door 19 = .ok (.iconst 0, 1) := by decide +kernel
theorem dW_door_20 : decode cW_door 20 = .ok (.ireturn, 1) := by decide +kernel
theorem dG_door_0 : decode cG_door 0 = .ok (.aload_n 0, 1) := by decide +kernel
theorem dG_door_1 : decode cG_door 1 = .ok (.getfield 16, 3) := by decide +kernel
theorem dG_door_4 : decode cG_door 4 = .ok (.iload_n 1, 1) := by decide +kernel
theorem dG_door_5 : decode cG_door 5 = .ok (.invokevirtual 103, 3) := by decide +kernel
theorem dG_door_8 : decode cG_door 8 = .ok (.ifCond .eq 15, 3) := by decide +kernel
theorem dG_door_11 : decode cG_door 11 = .ok (.iload_n 2, 1) := by decide +kernel
theorem dG_door_12 : decode cG_door 12 = .ok (.i2l, 1) := by decide +kernel
theorem dG_door_13 : decode cG_door 13 = .ok (.lconst 0, 1) := by decide +kernel
theorem dG_door_14 : decode cG_door 14 = .ok (.ldc2_w 160, 3) := by decide +kernel
theorem dG_door_17 : decode cG_door 17 = .ok (.invokestatic 53, 3) := by decide +kernel
theorem dG_door_20 : decode cG_door 20 = .ok (.ifCond .ne 13, 3) := by decide +kernel
theorem dG_door_23 : decode cG_door 23 = .ok (.new 57, 3) := by decide +kernel
theorem dG_door_26 : decode cG_door 26 = .ok (.dup, 1) := by decide +kernel
theorem dG_door_27 : decode cG_door 27 = .ok (.ldc 162, 2) := by decide +kernel
theorem dG_door_29 : decode cG_door 29 = .ok (.invokespecial 61, 3) := by decide +kernel
theorem dG_door_32 : decode cG_door 32 = .ok (.athrow, 1) := by decide +kernel
theorem dG_door_33 : decode cG_door 33 = .ok (.aload_n 0, 1) := by decide +kernel
theorem dG_door_34 : decode cG_door 34 = .ok (.getfield 16, 3) := by decide +kernel
theorem dG_door_37 : decode cG_door 37 = .ok (.getfield 164, 3) := by decide +kernel
theorem dG_door_40 : decode cG_door 40 = .ok (.iload_n 1, 1) := by decide +kernel
theorem dG_door_41 : decode cG_door 41 = .ok (.aload_n 0, 1) := by decide +kernel
theorem dG_door_42 : decode cG_door 42 = .ok (.getfield 16, 3) := by decide +kernel
theorem dG_door_45 : decode cG_door 45 = .ok (.getfield 164, 3) := by decide +kernel
theorem dG_door_48 : decode cG_door 48 = .ok (.iload_n 1, 1) := by decide +kernel
theorem dG_door_49 : decode cG_door 49 = .ok (.laload, 1) := by decide +kernel
theorem dG_door_50 : decode cG_door 50 = .ok (.iload_n 2, 1) := by decide +kernel
theorem dG_door_51 : decode cG_door 51 = .ok (.iload_n 3, 1) := by decide +kernel
theorem dG_door_52 : decode cG_door 52 = .ok (.invokestatic 135, 3) := by decide +kernel
theorem dG_door_55 : decode cG_door 55 = .ok (.lastore, 1) := by decide +kernel
theorem dG_door_56 : decode cG_door 56 = .ok (.aload_n 0, 1) := by decide +kernel
theorem dG_door_57 : decode cG_door 57 = .ok (.getfield 16, 3) := by decide +kernel
theorem dG_door_60 : decode cG_door 60 = .ok (.getfield 164, 3) := by decide +kernel
theorem dG_door_63 : decode cG_door 63 = .ok (.iload_n 1, 1) := by decide +kernel
theorem dG_door_64 : decode cG_door 64 = .ok (.laload, 1) := by decide +kernel
theorem dG_door_65 : decode cG_door 65 = .ok (.invokestatic 139, 3) := by decide +kernel
theorem dG_door_68 : decode cG_door 68 = .ok (.ireturn, 1) := by decide +kernel
theorem dW_way_0 : decode cW_way 0 = .ok (.aload 6, 2) := by decide +kernel
theorem dW_way_2 : decode cW_way 2 = .ok (.iconst 0, 1) := by decide +kernel
theorem dW_way_3 : decode cW_way 3 = .ok (.aload_n 0, 1) := by decide +kernel
theorem dW_way_4 : decode cW_way 4 = .ok (.iload_n 1, 1) := by decide +kernel
theorem dW_way_5 : decode cW_way 5 = .ok (.iload_n 2, 1) := by decide +kernel
theorem dW_way_6 : decode cW_way 6 = .ok (.iload_n 3, 1) := by decide +kernel
theorem dW_way_7 : decode cW_way 7 = .ok (.lload 4, 2) := by decide +kernel
theorem dW_way_9 : decode cW_way 9 = .ok (.invokevirtual 46, 3) := by decide +kernel
theorem dW_way_12 : decode cW_way 12 = .ok (.lastore, 1) := by decide +kernel
theorem dW_way_13 : decode cW_way 13 = .ok (.goto 7, 3) := by decide +kernel
theorem dW_way_16 : decode cW_way 16 = .ok (.astore 7, 2) := by decide +kernel
theorem dW_way_18 : decode cW_way 18 = .ok (.iconst 1, 1) := by decide +kernel
theorem dW_way_19 : decode cW_way 19 = .ok (.ireturn, 1) := by decide +kernel
theorem dW_way_20 : decode cW_way 20 = .ok (.iconst 0, 1) := by decide +kernel
theorem dW_way_21 : decode cW_way 21 = .ok (.ireturn, 1) := by decide +kernel
theorem dG_way_0 : decode cG_way 0 = .ok (.aload_n 0, 1) := by decide +kernel
theorem dG_way_1 : decode cG_way 1 = .ok (.iload_n 1, 1) := by decide +kernel
theorem dG_way_2 : decode cG_way 2 = .ok (.invokevirtual 167, 3) := by decide +kernel
theorem dG_way_5 : decode cG_way 5 = .ok (.ifCond .eq 31, 3) := by decide +kernel
theorem dG_way_8 : decode cG_way 8 = .ok (.aload_n 0, 1) := by decide +kernel
theorem dG_way_9 : decode cG_way 9 = .ok (.iload_n 2, 1) := by decide +kernel
theorem dG_way_10 : decode cG_way 10 = .ok (.invokevirtual 73, 3) := by decide +kernel
theorem dG_way_13 : decode cG_way 13 = .ok (.ifCond .eq 23, 3) := by decide +kernel
theorem dG_way_16 : decode cG_way 16 = .ok (.aload_n 0, 1) := by decide +kernel
theorem dG_way_17 : decode cG_way 17 = .ok (.iload_n 3, 1) := by decide +kernel
theorem dG_way_18 : decode cG_way 18 = .ok (.invokevirtual 73, 3) := by decide +kernel
theorem dG_way_21 : decode cG_way 21 = .ok (.ifCond .eq 15, 3) := by decide +kernel
theorem dG_way_24 : decode cG_way 24 = .ok (.lload 4, 2) := by decide +kernel
theorem dG_way_26 : decode cG_way 26 = .ok (.lconst 0, 1) := by decide +kernel
theorem dG_way_27 : decode cG_way 27 = .ok (.ldc2_w 79, 3) := by decide +kernel
theorem dG_way_30 : decode cG_way 30 = .ok (.invokestatic 53, 3) := by decide +kernel
theorem dG_way_33 : decode cG_way 33 = .ok (.ifCond .ne 13, 3) := by decide +kernel
theorem dG_way_36 : decode cG_way 36 = .ok (.new 57, 3) := by decide +kernel
theorem dG_way_39 : decode cG_way 39 = .ok (.dup, 1) := by decide +kernel
theorem dG_way_40 : decode cG_way 40 = .ok (.ldc 170, 2) := by decide +kernel
theorem dG_way_42 : decode cG_way 42 = .ok (.invokespecial 61, 3) := by decide +kernel
theorem dG_way_45 : decode cG_way 45 = .ok (.athrow, 1) := by decide +kernel
theorem dG_way_46 : decode cG_way 46 = .ok (.aload_n 0, 1) := by decide +kernel
theorem dG_way_47 : decode cG_way 47 = .ok (.iload_n 1, 1) := by decide +kernel
theorem dG_way_48 : decode cG_way 48 = .ok (.iload_n 2, 1) := by decide +kernel
theorem dG_way_49 : decode cG_way 49 = .ok (.iload_n 3, 1) := by decide +kernel
theorem dG_way_50 : decode cG_way 50 = .ok (.lload 4, 2) := by decide +kernel
theorem dG_way_52 : decode cG_way 52 = .ok (.invokevirtual 172, 3) := by decide +kernel
theorem dG_way_55 : decode cG_way 55 = .ok (.lstore 6, 2) := by decide +kernel
theorem dG_way_57 : decode cG_way 57 = .ok (.aload_n 0, 1) := by decide +kernel
theorem dG_way_58 : decode cG_way 58 = .ok (.getfield 47, 3) := by decide +kernel
theorem dG_way_61 : decode cG_way 61 = .ok (.invokevirtual 176, 3) := by decide +kernel
theorem dG_way_64 : decode cG_way 64 = .ok (.iload_n 2, 1) := by decide +kernel
theorem dG_way_65 : decode cG_way 65 = .ok (.iload_n 3, 1) := by decide +kernel
theorem dG_way_66 : decode cG_way 66 = .ok (.if_icmp .eq 28, 3) := by decide +kernel
theorem dG_way_69 : decode cG_way 69 = .ok (.lload 6, 2) := by decide +kernel
theorem dG_way_71 : decode cG_way 71 = .ok (.ldc2_w 179, 3) := by decide +kernel
theorem dG_way_74 : decode cG_way 74 = .ok (.lcmp, 1) := by decide +kernel
theorem dG_way_75 : decode cG_way 75 = .ok (.ifCond .eq 19, 3) := by decide +kernel
theorem dG_way_78 : decode cG_way 78 = .ok (.aload_n 0, 1) := by decide +kernel
theorem dG_way_79 : decode cG_way 79 = .ok (.getfield 33, 3) := by decide +kernel
theorem dG_way_82 : decode cG_way 82 = .ok (.aload_n 0, 1) := by decide +kernel
theorem dG_way_83 : decode cG_way 83 = .ok (.getfield 16, 3) := by decide +kernel
theorem dG_way_86 : decode cG_way 86 = .ok (.iload_n 3, 1) := by decide +kernel
theorem dG_way_87 : decode cG_way 87 = .ok (.aload_n 0, 1) := by decide +kernel
theorem dG_way_88 : decode cG_way 88 = .ok (.getfield 47, 3) := by decide +kernel
theorem dG_way_91 : decode cG_way 91 = .ok (.invokevirtual 181, 3) := by decide +kernel
theorem dG_way_94 : decode cG_way 94 = .ok (.lload 6, 2) := by decide +kernel
theorem dG_way_96 : decode cG_way 96 = .ok (.lreturn, 1) := by decide +kernel
theorem dG_hasMover_0 : decode cG_hasMover 0 = .ok (.iload_n 1, 1) := by decide +kernel
theorem dG_hasMover_1 : decode cG_hasMover 1 = .ok (.ifCond .lt 15, 3) := by decide +kernel
theorem dG_hasMover_4 : decode cG_hasMover 4 = .ok (.iload_n 1, 1) := by decide +kernel
theorem dG_hasMover_5 : decode cG_hasMover 5 = .ok (.aload_n 0, 1) := by decide +kernel
theorem dG_hasMover_6 : decode cG_hasMover 6 = .ok (.getfield 120, 3) := by decide +kernel
theorem dG_hasMover_9 : decode cG_hasMover 9 = .ok (.if_icmp .ge 7, 3) := by decide +kernel
theorem dG_hasMover_12 : decode cG_hasMover 12 = .ok (.iconst 1, 1) := by decide +kernel
theorem dG_hasMover_13 : decode cG_hasMover 13 = .ok (.goto 4, 3) := by decide +kernel
theorem dG_hasMover_16 : decode cG_hasMover 16 = .ok (.iconst 0, 1) := by decide +kernel
theorem dG_hasMover_17 : decode cG_hasMover 17 = .ok (.ireturn, 1) := by decide +kernel
theorem dG_leastSeconds_0 : decode cG_leastSeconds 0 = .ok (.iload_n 2, 1) := by decide +kernel
theorem dG_leastSeconds_1 : decode cG_leastSeconds 1 = .ok (.iload_n 3, 1) := by decide +kernel
theorem dG_leastSeconds_2 : decode cG_leastSeconds 2 = .ok (.if_icmp .ne 5, 3) := by decide +kernel
theorem dG_leastSeconds_5 : decode cG_leastSeconds 5 = .ok (.lconst 0, 1) := by decide +kernel
theorem dG_leastSeconds_6 : decode cG_leastSeconds 6 = .ok (.lreturn, 1) := by decide +kernel
theorem dG_leastSeconds_7 : decode cG_leastSeconds 7 = .ok (.aload_n 0, 1) := by decide +kernel
theorem dG_leastSeconds_8 : decode cG_leastSeconds 8 = .ok (.getfield 16, 3) := by decide +kernel
theorem dG_leastSeconds_11 : decode cG_leastSeconds 11 = .ok (.aload_n 0, 1) := by decide +kernel
theorem dG_leastSeconds_12 : decode cG_leastSeconds 12 = .ok (.getfield 20, 3) := by decide +kernel
theorem dG_leastSeconds_15 : decode cG_leastSeconds 15 = .ok (.iload_n 1, 1) := by decide +kernel
theorem dG_leastSeconds_16 : decode cG_leastSeconds 16 = .ok (.iaload, 1) := by decide +kernel
theorem dG_leastSeconds_17 : decode cG_leastSeconds 17 = .ok (.aload_n 0, 1) := by decide +kernel
theorem dG_leastSeconds_18 : decode cG_leastSeconds 18 = .ok (.getfield 23, 3) := by decide +kernel
theorem dG_leastSeconds_21 : decode cG_leastSeconds 21 = .ok (.iload_n 1, 1) := by decide +kernel
theorem dG_leastSeconds_22 : decode cG_leastSeconds 22 = .ok (.laload, 1) := by decide +kernel
theorem dG_leastSeconds_23 : decode cG_leastSeconds 23 = .ok (.invokevirtual 214, 3) := by decide +kernel
theorem dG_leastSeconds_26 : decode cG_leastSeconds 26 = .ok (.lstore 6, 2) := by decide +kernel
theorem dG_leastSeconds_28 : decode cG_leastSeconds 28 = .ok (.aload_n 0, 1) := by decide +kernel
theorem dG_leastSeconds_29 : decode cG_leastSeconds 29 = .ok (.getfield 33, 3) := by decide +kernel
theorem dG_leastSeconds_32 : decode cG_leastSeconds 32 = .ok (.aload_n 0, 1) := by decide +kernel
theorem dG_leastSeconds_33 : decode cG_leastSeconds 33 = .ok (.getfield 16, 3) := by decide +kernel
theorem dG_leastSeconds_36 : decode cG_leastSeconds 36 = .ok (.lload 6, 2) := by decide +kernel
theorem dG_leastSeconds_38 : decode cG_leastSeconds 38 = .ok (.iload_n 2, 1) := by decide +kernel
theorem dG_leastSeconds_39 : decode cG_leastSeconds 39 = .ok (.lload 4, 2) := by decide +kernel
theorem dG_leastSeconds_41 : decode cG_leastSeconds 41 = .ok (.invokevirtual 245, 3) := by decide +kernel
theorem dG_leastSeconds_44 : decode cG_leastSeconds 44 = .ok (.aload_n 0, 1) := by decide +kernel
theorem dG_leastSeconds_45 : decode cG_leastSeconds 45 = .ok (.getfield 33, 3) := by decide +kernel
theorem dG_leastSeconds_48 : decode cG_leastSeconds 48 = .ok (.aload_n 0, 1) := by decide +kernel
theorem dG_leastSeconds_49 : decode cG_leastSeconds 49 = .ok (.getfield 16, 3) := by decide +kernel
theorem dG_leastSeconds_52 : decode cG_leastSeconds 52 = .ok (.iload_n 3, 1) := by decide +kernel
theorem dG_leastSeconds_53 : decode cG_leastSeconds 53 = .ok (.invokevirtual 248, 3) := by decide +kernel
theorem dG_leastSeconds_56 : decode cG_leastSeconds 56 = .ok (.istore 8, 2) := by decide +kernel
theorem dG_leastSeconds_58 : decode cG_leastSeconds 58 = .ok (.iload 8, 2) := by decide +kernel
theorem dG_leastSeconds_60 : decode cG_leastSeconds 60 = .ok (.iconst (-1), 1) := by decide +kernel
theorem dG_leastSeconds_61 : decode cG_leastSeconds 61 = .ok (.if_icmp .ne 9, 3) := by decide +kernel
theorem dG_leastSeconds_64 : decode cG_leastSeconds 64 = .ok (.ldc2_w 179, 3) := by decide +kernel
theorem dG_leastSeconds_67 : decode cG_leastSeconds 67 = .ok (.goto 16, 3) := by decide +kernel
theorem dG_leastSeconds_70 : decode cG_leastSeconds 70 = .ok (.aload_n 0, 1) := by decide +kernel
theorem dG_leastSeconds_71 : decode cG_leastSeconds 71 = .ok (.getfield 33, 3) := by decide +kernel
theorem dG_leastSeconds_74 : decode cG_leastSeconds 74 = .ok (.getfield 252, 3) := by decide +kernel
theorem dG_leastSeconds_77 : decode cG_leastSeconds 77 = .ok (.iload 8, 2) := by decide +kernel
theorem dG_leastSeconds_79 : decode cG_leastSeconds 79 = .ok (.laload, 1) := by decide +kernel
theorem dG_leastSeconds_80 : decode cG_leastSeconds 80 = .ok (.lload 4, 2) := by decide +kernel
theorem dG_leastSeconds_82 : decode cG_leastSeconds 82 = .ok (.lsub, 1) := by decide +kernel
theorem dG_leastSeconds_83 : decode cG_leastSeconds 83 = .ok (.lreturn, 1) := by decide +kernel
theorem dP_usableBy_0 : decode cP_usableBy 0 = .ok (.lconst 0, 1) := by decide +kernel
theorem dP_usableBy_1 : decode cP_usableBy 1 = .ok (.lstore 4, 2) := by decide +kernel
theorem dP_usableBy_3 : decode cP_usableBy 3 = .ok (.iconst 0, 1) := by decide +kernel
theorem dP_usableBy_4 : decode cP_usableBy 4 = .ok (.istore 6, 2) := by decide +kernel
theorem dP_usableBy_6 : decode cP_usableBy 6 = .ok (.iload 6, 2) := by decide +kernel
theorem dP_usableBy_8 : decode cP_usableBy 8 = .ok (.aload_n 0, 1) := by decide +kernel
theorem dP_usableBy_9 : decode cP_usableBy 9 = .ok (.getfield 34, 3) := by decide +kernel
theorem dP_usableBy_12 : decode cP_usableBy 12 = .ok (.if_icmp .ge 70, 3) := by decide +kernel
theorem dP_usableBy_15 : decode cP_usableBy 15 = .ok (.aload_n 0, 1) := by decide +kernel
theorem dP_usableBy_16 : decode cP_usableBy 16 = .ok (.getfield 28, 3) := by decide +kernel
theorem dP_usableBy_19 : decode cP_usableBy 19 = .ok (.iload 6, 2) := by decide +kernel
theorem dP_usableBy_21 : decode cP_usableBy 21 = .ok (.laload, 1) := by decide +kernel
theorem dP_usableBy_22 : decode cP_usableBy 22 = .ok (.lconst 0, 1) := by decide +kernel
theorem dP_usableBy_23 : decode cP_usableBy 23 = .ok (.lcmp, 1) := by decide +kernel
theorem dP_usableBy_24 : decode cP_usableBy 24 = .ok (.ifCond .eq 19, 3) := by decide +kernel
theorem dP_usableBy_27 : decode cP_usableBy 27 = .ok (.aload_n 0, 1) := by decide +kernel
theorem dP_usableBy_28 : decode cP_usableBy 28 = .ok (.getfield 56, 3) := by decide +kernel
theorem dP_usableBy_31 : decode cP_usableBy 31 = .ok (.iload 6, 2) := by decide +kernel
theorem dP_usableBy_33 : decode cP_usableBy 33 = .ok (.invokestatic 42, 3) := by decide +kernel
theorem dP_usableBy_36 : decode cP_usableBy 36 = .ok (.ifCond .ne 7, 3) := by decide +kernel
theorem dP_usableBy_39 : decode cP_usableBy 39 = .ok (.iconst 1, 1) := by decide +kernel
theorem dP_usableBy_40 : decode cP_usableBy 40 = .ok (.goto 4, 3) := by decide +kernel
theorem dP_usableBy_43 : decode cP_usableBy 43 = .ok (.iconst 0, 1) := by decide +kernel
theorem dP_usableBy_44 : decode cP_usableBy 44 = .ok (.istore 7, 2) := by decide +kernel
theorem dP_usableBy_46 : decode cP_usableBy 46 = .ok (.lload 4, 2) := by decide +kernel
theorem dP_usableBy_48 : decode cP_usableBy 48 = .ok (.iload 6, 2) := by decide +kernel
theorem dP_usableBy_50 : decode cP_usableBy 50 = .ok (.iload 7, 2) := by decide +kernel
theorem dP_usableBy_52 : decode cP_usableBy 52 = .ok (.ifCond .eq 18, 3) := by decide +kernel
theorem dP_usableBy_55 : decode cP_usableBy 55 = .ok (.aload_n 0, 1) := by decide +kernel
theorem dP_usableBy_56 : decode cP_usableBy 56 = .ok (.iload 6, 2) := by decide +kernel
theorem dP_usableBy_58 : decode cP_usableBy 58 = .ok (.iload_n 1, 1) := by decide +kernel
theorem dP_usableBy_59 : decode cP_usableBy 59 = .ok (.lload_n 2, 1) := by decide +kernel
theorem dP_usableBy_60 : decode cP_usableBy 60 = .ok (.invokevirtual 52, 3) := by decide +kernel
theorem dP_usableBy_63 : decode cP_usableBy 63 = .ok (.ifCond .eq 7, 3) := by decide +kernel
theorem dP_usableBy_66 : decode cP_usableBy 66 = .ok (.iconst 1, 1) := by decide +kernel
theorem dP_usableBy_67 : decode cP_usableBy 67 = .ok (.goto 4, 3) := by decide +kernel
theorem dP_usableBy_70 : decode cP_usableBy 70 = .ok (.iconst 0, 1) := by decide +kernel
theorem dP_usableBy_71 : decode cP_usableBy 71 = .ok (.invokestatic 60, 3) := by decide +kernel
theorem dP_usableBy_74 : decode cP_usableBy 74 = .ok (.lstore 4, 2) := by decide +kernel
theorem dP_usableBy_76 : decode cP_usableBy 76 = .ok (.iinc 6 1, 3) := by decide +kernel
theorem dP_usableBy_79 : decode cP_usableBy 79 = .ok (.goto (-73), 3) := by decide +kernel
theorem dP_usableBy_82 : decode cP_usableBy 82 = .ok (.lload 4, 2) := by decide +kernel
theorem dP_usableBy_84 : decode cP_usableBy 84 = .ok (.lreturn, 1) := by decide +kernel
theorem dL_search_0 : decode cL_search 0 = .ok (.aload_n 0, 1) := by decide +kernel
theorem dL_search_1 : decode cL_search 1 = .ok (.iload 4, 2) := by decide +kernel
theorem dL_search_3 : decode cL_search 3 = .ok (.putfield 15, 3) := by decide +kernel
theorem dL_search_6 : decode cL_search 6 = .ok (.aload_n 0, 1) := by decide +kernel
theorem dL_search_7 : decode cL_search 7 = .ok (.lload 5, 2) := by decide +kernel
theorem dL_search_9 : decode cL_search 9 = .ok (.putfield 19, 3) := by decide +kernel
theorem dL_search_12 : decode cL_search 12 = .ok (.iconst 0, 1) := by decide +kernel
theorem dL_search_13 : decode cL_search 13 = .ok (.istore 7, 2) := by decide +kernel
theorem dL_search_15 : decode cL_search 15 = .ok (.iload 7, 2) := by decide +kernel
theorem dL_search_17 : decode cL_search 17 = .ok (.aload_n 1, 1) := by decide +kernel
theorem dL_search_18 : decode cL_search 18 = .ok (.getfield 23, 3) := by decide +kernel
theorem dL_search_21 : decode cL_search 21 = .ok (.if_icmp .ge 63, 3) := by decide +kernel
theorem dL_search_24 : decode cL_search 24 = .ok (.lload_n 2, 1) := by decide +kernel
theorem dL_search_25 : decode cL_search 25 = .ok (.iload 7, 2) := by decide +kernel
theorem dL_search_27 : decode cL_search 27 = .ok (.invokestatic 28, 3) := by decide +kernel
theorem dL_search_30 : decode cL_search 30 = .ok (.ifCond .eq 19, 3) := by decide +kernel
theorem dL_search_33 : decode cL_search 33 = .ok (.aload_n 1, 1) := by decide +kernel
theorem dL_search_34 : decode cL_search 34 = .ok (.getfield 32, 3) := by decide +kernel
theorem dL_search_37 : decode cL_search 37 = .ok (.iload 7, 2) := by decide +kernel
theorem dL_search_39 : decode cL_search 39 = .ok (.iaload, 1) := by decide +kernel
theorem dL_search_40 : decode cL_search 40 = .ok (.iload 4, 2) := by decide +kernel
theorem dL_search_42 : decode cL_search 42 = .ok (.if_icmp .ne 7, 3) := by decide +kernel
theorem dL_search_45 : decode cL_search 45 = .ok (.iconst 1, 1) := by decide +kernel
theorem dL_search_46 : decode cL_search 46 = .ok (.goto 4, 3) := by decide +kernel
theorem dL_search_49 : decode cL_search 49 = .ok (.iconst 0, 1) := by decide +kernel
theorem dL_search_50 : decode cL_search 50 = .ok (.istore 8, 2) := by decide +kernel
theorem dL_search_52 : decode cL_search 52 = .ok (.aload_n 0, 1) := by decide +kernel
theorem dL_search_53 : decode cL_search 53 = .ok (.getfield 9, 3) := by decide +kernel
theorem dL_search_56 : decode cL_search 56 = .ok (.iload 7, 2) := by decide +kernel
theorem dL_search_58 : decode cL_search 58 = .ok (.iload 8, 2) := by decide +kernel
theorem dL_search_60 : decode cL_search 60 = .ok (.ifCond .eq 14, 3) := by decide +kernel
theorem dL_search_63 : decode cL_search 63 = .ok (.aload_n 1, 1) := by decide +kernel
theorem dL_search_64 : decode cL_search 64 = .ok (.iload 7, 2) := by decide +kernel
theorem dL_search_66 : decode cL_search 66 = .ok (.lload 5, 2) := by decide +kernel
theorem dL_search_68 : decode cL_search 68 = .ok (.invokevirtual 36, 3) := by decide +kernel
theorem dL_search_71 : decode cL_search 71 = .ok (.goto 6, 3) := by decide +kernel
theorem dL_search_74 : decode cL_search 74 = .ok (.ldc2_w 40, 3) := by decide +kernel
theorem dL_search_77 : decode cL_search 77 = .ok (.lastore, 1) := by decide +kernel
theorem dL_search_78 : decode cL_search 78 = .ok (.iinc 7 1, 3) := by decide +kernel
theorem dL_search_81 : decode cL_search 81 = .ok (.goto (-66), 3) := by decide +kernel
theorem dL_search_84 : decode cL_search 84 = .ok (.lload_n 2, 1) := by decide +kernel
theorem dL_search_85 : decode cL_search 85 = .ok (.lstore 7, 2) := by decide +kernel
theorem dL_search_87 : decode cL_search 87 = .ok (.iconst 0, 1) := by decide +kernel
theorem dL_search_88 : decode cL_search 88 = .ok (.istore 9, 2) := by decide +kernel
theorem dL_search_90 : decode cL_search 90 = .ok (.iload 9, 2) := by decide +kernel
theorem dL_search_92 : decode cL_search 92 = .ok (.aload_n 1, 1) := by decide +kernel
theorem dL_search_93 : decode cL_search 93 = .ok (.getfield 23, 3) := by decide +kernel
theorem dL_search_96 : decode cL_search 96 = .ok (.if_icmp .ge 44, 3) := by decide +kernel
theorem dL_search_99 : decode cL_search 99 = .ok (.aload_n 0, 1) := by decide +kernel
theorem dL_search_100 : decode cL_search 100 = .ok (.aload_n 1, 1) := by decide +kernel
theorem dL_search_101 : decode cL_search 101 = .ok (.lload 7, 2) := by decide +kernel
theorem dL_search_103 : decode cL_search 103 = .ok (.invokevirtual 42, 3) := by decide +kernel
theorem dL_search_106 : decode cL_search 106 = .ok (.istore 10, 2) := by decide +kernel
theorem dL_search_108 : decode cL_search 108 = .ok (.iload 10, 2) := by decide +kernel
theorem dL_search_110 : decode cL_search 110 = .ok (.iconst (-1), 1) := by decide +kernel
theorem dL_search_111 : decode cL_search 111 = .ok (.if_icmp .ne 4, 3) := by decide +kernel
theorem dL_search_114 : decode cL_search 114 = .ok (.return_, 1) := by decide +kernel
theorem dL_search_115 : decode cL_search 115 = .ok (.lload 7, 2) := by decide +kernel
theorem dL_search_117 : decode cL_search 117 = .ok (.iload 10, 2) := by decide +kernel
theorem dL_search_119 : decode cL_search 119 = .ok (.iconst 0, 1) := by decide +kernel
theorem dL_search_120 : decode cL_search 120 = .ok (.invokestatic 46, 3) := by decide +kernel
theorem dL_search_123 : decode cL_search 123 = .ok (.lstore 7, 2) := by decide +kernel
theorem dL_search_125 : decode cL_search 125 = .ok (.aload_n 0, 1) := by decide +kernel
theorem dL_search_126 : decode cL_search 126 = .ok (.aload_n 1, 1) := by decide +kernel
theorem dL_search_127 : decode cL_search 127 = .ok (.iload 10, 2) := by decide +kernel
theorem dL_search_129 : decode cL_search 129 = .ok (.lload 7, 2) := by decide +kernel
theorem dL_search_131 : decode cL_search 131 = .ok (.invokevirtual 50, 3) := by decide +kernel
theorem dL_search_134 : decode cL_search 134 = .ok (.iinc 9 1, 3) := by decide +kernel
theorem dL_search_137 : decode cL_search 137 = .ok (.goto (-47), 3) := by decide +kernel
theorem dL_search_140 : decode cL_search 140 = .ok (.return_, 1) := by decide +kernel
theorem dP_endWhenUsedFrom_0 : decode cP_endWhenUsedFrom 0 = .ok (.lload_n 2, 1) := by decide +kernel
theorem dP_endWhenUsedFrom_1 : decode cP_endWhenUsedFrom 1 = .ok (.ldc2_w 68, 3) := by decide +kernel
theorem dP_endWhenUsedFrom_4 : decode cP_endWhenUsedFrom 4 = .ok (.ldiv, 1) := by decide +kernel
theorem dP_endWhenUsedFrom_5 : decode cP_endWhenUsedFrom 5 = .ok (.lstore 4, 2) := by decide +kernel
theorem dP_endWhenUsedFrom_7 : decode cP_endWhenUsedFrom 7 = .ok (.lload 4, 2) := by decide +kernel
theorem dP_endWhenUsedFrom_9 : decode cP_endWhenUsedFrom 9 = .ok (.lstore 6, 2) := by decide +kernel
theorem dP_endWhenUsedFrom_11 : decode cP_endWhenUsedFrom 11 = .ok (.lload 6, 2) := by decide +kernel
theorem dP_endWhenUsedFrom_13 : decode cP_endWhenUsedFrom 13 = .ok (.lload 4, 2) := by decide +kernel
theorem dP_endWhenUsedFrom_15 : decode cP_endWhenUsedFrom 15 = .ok (.ldc2_w 70, 3) := by decide +kernel
theorem dP_endWhenUsedFrom_18 : decode cP_endWhenUsedFrom 18 = .ok (.ladd, 1) := by decide +kernel
theorem dP_endWhenUsedFrom_19 : decode cP_endWhenUsedFrom 19 = .ok (.lcmp, 1) := by decide +kernel
theorem dP_endWhenUsedFrom_20 : decode cP_endWhenUsedFrom 20 = .ok (.ifCond .ge 49, 3) := by decide +kernel
theorem dP_endWhenUsedFrom_23 : decode cP_endWhenUsedFrom 23 = .ok (.aload_n 0, 1) := by decide +kernel
theorem dP_endWhenUsedFrom_24 : decode cP_endWhenUsedFrom 24 = .ok (.getfield 28, 3) := by decide +kernel
theorem dP_endWhenUsedFrom_27 : decode cP_endWhenUsedFrom 27 = .ok (.iload_n 1, 1) := by decide +kernel
theorem dP_endWhenUsedFrom_28 : decode cP_endWhenUsedFrom 28 = .ok (.laload, 1) := by decide +kernel
theorem dP_endWhenUsedFrom_29 : decode cP_endWhenUsedFrom 29 = .ok (.lload 6, 2) := by decide +kernel
theorem dP_endWhenUsedFrom_31 : decode cP_endWhenUsedFrom 31 = .ok (.ldc2_w 70, 3) := by decide +kernel
theorem dP_endWhenUsedFrom_34 : decode cP_endWhenUsedFrom 34 = .ok (.lrem, 1) := by decide +kernel
theorem dP_endWhenUsedFrom_35 : decode cP_endWhenUsedFrom 35 = .ok (.l2i, 1) := by decide +kernel
theorem dP_endWhenUsedFrom_36 : decode cP_endWhenUsedFrom 36 = .ok (.invokestatic 42, 3) := by decide +kernel
theorem dP_endWhenUsedFrom_39 : decode cP_endWhenUsedFrom 39 = .ok (.ifCond .eq 21, 3) := by decide +kernel
theorem dP_endWhenUsedFrom_42 : decode cP_endWhenUsedFrom 42 = .ok (.lload_n 2, 1) := by decide +kernel
theorem dP_endWhenUsedFrom_43 : decode cP_endWhenUsedFrom 43 = .ok (.lload 6, 2) := by decide +kernel
theorem dP_endWhenUsedFrom_45 : decode cP_endWhenUsedFrom 45 = .ok (.ldc2_w 68, 3) := by decide +kernel
theorem dP_endWhenUsedFrom_48 : decode cP_endWhenUsedFrom 48 = .ok (.lmul, 1) := by decide +kernel
theorem dP_endWhenUsedFrom_49 : decode cP_endWhenUsedFrom 49 = .ok (.invokestatic 72, 3) := by decide +kernel
theorem dP_endWhenUsedFrom_52 : decode cP_endWhenUsedFrom 52 = .ok (.aload_n 0, 1) := by decide +kernel
theorem dP_endWhenUsedFrom_53 : decode cP_endWhenUsedFrom 53 = .ok (.getfield 18, 3) := by decide +kernel
theorem dP_endWhenUsedFrom_56 : decode cP_endWhenUsedFrom 56 = .ok (.iload_n 1, 1) := by decide +kernel
theorem dP_endWhenUsedFrom_57 : decode cP_endWhenUsedFrom 57 = .ok (.laload, 1) := by decide +kernel
theorem dP_endWhenUsedFrom_58 : decode cP_endWhenUsedFrom 58 = .ok (.ladd, 1) := by decide +kernel
theorem dP_endWhenUsedFrom_59 : decode cP_endWhenUsedFrom 59 = .ok (.lreturn, 1) := by decide +kernel
theorem dP_endWhenUsedFrom_60 : decode cP_endWhenUsedFrom 60 = .ok (.lload 6, 2) := by decide +kernel
theorem dP_endWhenUsedFrom_62 : decode cP_endWhenUsedFrom 62 = .ok (.lconst 1, 1) := by decide +kernel
theorem dP_endWhenUsedFrom_63 : decode cP_endWhenUsedFrom 63 = .ok (.ladd, 1) := by decide +kernel
theorem dP_endWhenUsedFrom_64 : decode cP_endWhenUsedFrom 64 = .ok (.lstore 6, 2) := by decide +kernel
theorem dP_endWhenUsedFrom_66 : decode cP_endWhenUsedFrom 66 = .ok (.goto (-55), 3) := by decide +kernel
theorem dP_endWhenUsedFrom_69 : decode cP_endWhenUsedFrom 69 = .ok (.ldc2_w 78, 3) := by decide +kernel
theorem dP_endWhenUsedFrom_72 : decode cP_endWhenUsedFrom 72 = .ok (.lreturn, 1) := by decide +kernel
theorem dJM_max_J_0 : decode cJM_max_J 0 = .ok (.lload_n 0, 1) := by decide +kernel
theorem dJM_max_J_1 : decode cJM_max_J 1 = .ok (.lload_n 2, 1) := by decide +kernel
theorem dJM_max_J_2 : decode cJM_max_J 2 = .ok (.lcmp, 1) := by decide +kernel
theorem dJM_max_J_3 : decode cJM_max_J 3 = .ok (.ifCond .lt 7, 3) := by decide +kernel
theorem dJM_max_J_6 : decode cJM_max_J 6 = .ok (.lload_n 0, 1) := by decide +kernel
theorem dJM_max_J_7 : decode cJM_max_J 7 = .ok (.goto 4, 3) := by decide +kernel
theorem dJM_max_J_10 : decode cJM_max_J 10 = .ok (.lload_n 2, 1) := by decide +kernel
theorem dJM_max_J_11 : decode cJM_max_J 11 = .ok (.lreturn, 1) := by decide +kernel
theorem dL_earliestOf_0 : decode cL_earliestOf 0 = .ok (.iconst (-1), 1) := by decide +kernel
theorem dL_earliestOf_1 : decode cL_earliestOf 1 = .ok (.istore 4, 2) := by decide +kernel
theorem dL_earliestOf_3 : decode cL_earliestOf 3 = .ok (.ldc2_w 40, 3) := by decide +kernel
theorem dL_earliestOf_6 : decode cL_earliestOf 6 = .ok (.lstore 5, 2) := by decide +kernel
theorem dL_earliestOf_8 : decode cL_earliestOf 8 = .ok (.iconst 0, 1) := by decide +kernel
theorem dL_earliestOf_9 : decode cL_earliestOf 9 = .ok (.istore 7, 2) := by decide +kernel
theorem dL_earliestOf_11 : decode cL_earliestOf 11 = .ok (.iload 7, 2) := by decide +kernel
theorem dL_earliestOf_13 : decode cL_earliestOf 13 = .ok (.aload_n 1, 1) := by decide +kernel
theorem dL_earliestOf_14 : decode cL_earliestOf 14 = .ok (.getfield 23, 3) := by decide +kernel
theorem dL_earliestOf_17 : decode cL_earliestOf 17 = .ok (.if_icmp .ge 44, 3) := by decide +kernel
theorem dL_earliestOf_20 : decode cL_earliestOf 20 = .ok (.lload_n 2, 1) := by decide +kernel
theorem dL_earliestOf_21 : decode cL_earliestOf 21 = .ok (.iload 7, 2) := by decide +kernel
theorem dL_earliestOf_23 : decode cL_earliestOf 23 = .ok (.invokestatic 28, 3) := by decide +kernel
theorem dL_earliestOf_26 : decode cL_earliestOf 26 = .ok (.ifCond .eq 29, 3) := by decide +kernel
theorem dL_earliestOf_29 : decode cL_earliestOf 29 = .ok (.aload_n 0, 1) := by decide +kernel
theorem dL_earliestOf_30 : decode cL_earliestOf 30 = .ok (.getfield 9, 3) := by decide +kernel
theorem dL_earliestOf_33 : decode cL_earliestOf 33 = .ok (.iload 7, 2) := by decide +kernel
theorem dL_earliestOf_35 : decode cL_earliestOf 35 = .ok (.laload, 1) := by decide +kernel
theorem dL_earliestOf_36 : decode cL_earliestOf 36 = .ok (.lload 5, 2) := by decide +kernel
theorem dL_earliestOf_38 : decode cL_earliestOf 38 = .ok (.lcmp, 1) := by decide +kernel
theorem dL_earliestOf_39 : decode cL_earliestOf 39 = .ok (.ifCond .ge 16, 3) := by decide +kernel
theorem dL_earliestOf_42 : decode cL_earliestOf 42 = .ok (.iload 7, 2) := by decide +kernel
theorem dL_earliestOf_44 : decode cL_earliestOf 44 = .ok (.istore 4, 2) := by decide +kernel
theorem dL_earliestOf_46 : decode cL_earliestOf 46 = .ok (.aload_n 0, 1) := by decide +kernel
theorem dL_earliestOf_47 : decode cL_earliestOf 47 = .ok (.getfield 9, 3) := by decide +kernel
theorem dL_earliestOf_50 : decode cL_earliestOf 50 = .ok (.iload 7, 2) := by decide +kernel
theorem dL_earliestOf_52 : decode cL_earliestOf 52 = .ok (.laload, 1) := by decide +kernel
theorem dL_earliestOf_53 : decode cL_earliestOf 53 = .ok (.lstore 5, 2) := by decide +kernel
theorem dL_earliestOf_55 : decode cL_earliestOf 55 = .ok (.iinc 7 1, 3) := by decide +kernel
theorem dL_earliestOf_58 : decode cL_earliestOf 58 = .ok (.goto (-47), 3) := by decide +kernel
theorem dL_earliestOf_61 : decode cL_earliestOf 61 = .ok (.iload 4, 2) := by decide +kernel
theorem dL_earliestOf_63 : decode cL_earliestOf 63 = .ok (.ireturn, 1) := by decide +kernel
theorem dL_goOnFrom_0 : decode cL_goOnFrom 0 = .ok (.iconst 0, 1) := by decide +kernel
theorem dL_goOnFrom_1 : decode cL_goOnFrom 1 = .ok (.istore 5, 2) := by decide +kernel
theorem dL_goOnFrom_3 : decode cL_goOnFrom 3 = .ok (.iload 5, 2) := by decide +kernel
theorem dL_goOnFrom_5 : decode cL_goOnFrom 5 = .ok (.aload_n 1, 1) := by decide +kernel
theorem dL_goOnFrom_6 : decode cL_goOnFrom 6 = .ok (.getfield 23, 3) := by decide +kernel
theorem dL_goOnFrom_9 : decode cL_goOnFrom 9 = .ok (.if_icmp .ge 61, 3) := by decide +kernel
theorem dL_goOnFrom_12 : decode cL_goOnFrom 12 = .ok (.lload_n 3, 1) := by decide +kernel
theorem dL_goOnFrom_13 : decode cL_goOnFrom 13 = .ok (.iload 5, 2) := by decide +kernel
theorem dL_goOnFrom_15 : decode cL_goOnFrom 15 = .ok (.invokestatic 28, 3) := by decide +kernel
theorem dL_goOnFrom_18 : decode cL_goOnFrom 18 = .ok (.ifCond .eq 46, 3) := by decide +kernel
theorem dL_goOnFrom_21 : decode cL_goOnFrom 21 = .ok (.aload_n 1, 1) := by decide +kernel
theorem dL_goOnFrom_22 : decode cL_goOnFrom 22 = .ok (.iload_n 2, 1) := by decide +kernel
theorem dL_goOnFrom_23 : decode cL_goOnFrom 23 = .ok (.iload 5, 2) := by decide +kernel
theorem dL_goOnFrom_25 : decode cL_goOnFrom 25 = .ok (.invokevirtual 54, 3) := by decide +kernel
theorem dL_goOnFrom_28 : decode cL_goOnFrom 28 = .ok (.ifCond .eq 36, 3) := by decide +kernel
theorem dL_goOnFrom_31 : decode cL_goOnFrom 31 = .ok (.aload_n 1, 1) := by decide +kernel
theorem dL_goOnFrom_32 : decode cL_goOnFrom 32 = .ok (.iload 5, 2) := by decide +kernel
theorem dL_goOnFrom_34 : decode cL_goOnFrom 34 = .ok (.aload_n 0, 1) := by decide +kernel
theorem dL_goOnFrom_35 : decode cL_goOnFrom 35 = .ok (.getfield 9, 3) := by decide +kernel
theorem dL_goOnFrom_38 : decode cL_goOnFrom 38 = .ok (.iload_n 2, 1) := by decide +kernel
theorem dL_goOnFrom_39 : decode cL_goOnFrom 39 = .ok (.laload, 1) := by decide +kernel
theorem dL_goOnFrom_40 : decode cL_goOnFrom 40 = .ok (.invokevirtual 36, 3) := by decide +kernel
theorem dL_goOnFrom_43 : decode cL_goOnFrom 43 = .ok (.lstore 6, 2) := by decide +kernel
theorem dL_goOnFrom_45 : decode cL_goOnFrom 45 = .ok (.aload_n 0, 1) := by decide +kernel
theorem dL_goOnFrom_46 : decode cL_goOnFrom 46 = .ok (.getfield 9, 3) := by decide +kernel
theorem dL_goOnFrom_49 : decode cL_goOnFrom 49 = .ok (.iload 5, 2) := by decide +kernel
theorem dL_goOnFrom_51 : decode cL_goOnFrom 51 = .ok (.aload_n 0, 1) := by decide +kernel
theorem dL_goOnFrom_52 : decode cL_goOnFrom 52 = .ok (.getfield 9, 3) := by decide +kernel
theorem dL_goOnFrom_55 : decode cL_goOnFrom 55 = .ok (.iload 5, 2) := by decide +kernel
theorem dL_goOnFrom_57 : decode cL_goOnFrom 57 = .ok (.laload, 1) := by decide +kernel
theorem dL_goOnFrom_58 : decode cL_goOnFrom 58 = .ok (.lload 6, 2) := by decide +kernel
theorem dL_goOnFrom_60 : decode cL_goOnFrom 60 = .ok (.invokestatic 58, 3) := by decide +kernel
theorem dL_goOnFrom_63 : decode cL_goOnFrom 63 = .ok (.lastore, 1) := by decide +kernel
theorem dL_goOnFrom_64 : decode cL_goOnFrom 64 = .ok (.iinc 5 1, 3) := by decide +kernel
theorem dL_goOnFrom_67 : decode cL_goOnFrom 67 = .ok (.goto (-64), 3) := by decide +kernel
theorem dL_goOnFrom_70 : decode cL_goOnFrom 70 = .ok (.return_, 1) := by decide +kernel
theorem dP_canFollow_0 : decode cP_canFollow 0 = .ok (.aload_n 0, 1) := by decide +kernel
theorem dP_canFollow_1 : decode cP_canFollow 1 = .ok (.getfield 9, 3) := by decide +kernel
theorem dP_canFollow_4 : decode cP_canFollow 4 = .ok (.iload_n 2, 1) := by decide +kernel
theorem dP_canFollow_5 : decode cP_canFollow 5 = .ok (.iaload, 1) := by decide +kernel
theorem dP_canFollow_6 : decode cP_canFollow 6 = .ok (.aload_n 0, 1) := by decide +kernel
theorem dP_canFollow_7 : decode cP_canFollow 7 = .ok (.getfield 15, 3) := by decide +kernel
theorem dP_canFollow_10 : decode cP_canFollow 10 = .ok (.iload_n 1, 1) := by decide +kernel
theorem dP_canFollow_11 : decode cP_canFollow 11 = .ok (.iaload, 1) := by decide +kernel
theorem dP_canFollow_12 : decode cP_canFollow 12 = .ok (.if_icmp .ne 16, 3) := by decide +kernel
theorem dP_canFollow_15 : decode cP_canFollow 15 = .ok (.aload_n 0, 1) := by decide +kernel
theorem dP_canFollow_16 : decode cP_canFollow 16 = .ok (.iload_n 1, 1) := by decide +kernel
theorem dP_canFollow_17 : decode cP_canFollow 17 = .ok (.iload_n 2, 1) := by decide +kernel
theorem dP_canFollow_18 : decode cP_canFollow 18 = .ok (.invokevirtual 64, 3) := by decide +kernel
theorem dP_canFollow_21 : decode cP_canFollow 21 = .ok (.ifCond .ne 7, 3) := by decide +kernel
theorem dP_canFollow_24 : decode cP_canFollow 24 = .ok (.iconst 1, 1) := by decide +kernel
theorem dP_canFollow_25 : decode cP_canFollow 25 = .ok (.goto 4, 3) := by decide +kernel
theorem dP_canFollow_28 : decode cP_canFollow 28 = .ok (.iconst 0, 1) := by decide +kernel
theorem dP_canFollow_29 : decode cP_canFollow 29 = .ok (.ireturn, 1) := by decide +kernel
theorem dJM_min_J_0 : decode cJM_min_J 0 = .ok (.lload_n 0, 1) := by decide +kernel
theorem dJM_min_J_1 : decode cJM_min_J 1 = .ok (.lload_n 2, 1) := by decide +kernel
theorem dJM_min_J_2 : decode cJM_min_J 2 = .ok (.lcmp, 1) := by decide +kernel
theorem dJM_min_J_3 : decode cJM_min_J 3 = .ok (.ifCond .gt 7, 3) := by decide +kernel
theorem dJM_min_J_6 : decode cJM_min_J 6 = .ok (.lload_n 0, 1) := by decide +kernel
theorem dJM_min_J_7 : decode cJM_min_J 7 = .ok (.goto 4, 3) := by decide +kernel
theorem dJM_min_J_10 : decode cJM_min_J 10 = .ok (.lload_n 2, 1) := by decide +kernel
theorem dJM_min_J_11 : decode cJM_min_J 11 = .ok (.lreturn, 1) := by decide +kernel
theorem dL_lastPieceTo_0 : decode cL_lastPieceTo 0 = .ok (.iconst (-1), 1) := by decide +kernel
theorem dL_lastPieceTo_1 : decode cL_lastPieceTo 1 = .ok (.istore_n 3, 1) := by decide +kernel
theorem dL_lastPieceTo_2 : decode cL_lastPieceTo 2 = .ok (.ldc2_w 40, 3) := by decide +kernel
theorem dL_lastPieceTo_5 : decode cL_lastPieceTo 5 = .ok (.lstore 4, 2) := by decide +kernel
theorem dL_lastPieceTo_7 : decode cL_lastPieceTo 7 = .ok (.iconst 0, 1) := by decide +kernel
theorem dL_lastPieceTo_8 : decode cL_lastPieceTo 8 = .ok (.istore 6, 2) := by decide +kernel
theorem dL_lastPieceTo_10 : decode cL_lastPieceTo 10 = .ok (.iload 6, 2) := by decide +kernel
theorem dL_lastPieceTo_12 : decode cL_lastPieceTo 12 = .ok (.aload_n 1, 1) := by decide +kernel
theorem dL_lastPieceTo_13 : decode cL_lastPieceTo 13 = .ok (.getfield 23, 3) := by decide +kernel
theorem dL_lastPieceTo_16 : decode cL_lastPieceTo 16 = .ok (.if_icmp .ge 45, 3) := by decide +kernel
theorem dL_lastPieceTo_19 : decode cL_lastPieceTo 19 = .ok (.aload_n 1, 1) := by decide +kernel
theorem dL_lastPieceTo_20 : decode cL_lastPieceTo 20 = .ok (.getfield 64, 3) := by decide +kernel
theorem dL_lastPieceTo_23 : decode cL_lastPieceTo 23 = .ok (.iload 6, 2) := by decide +kernel
theorem dL_lastPieceTo_25 : decode cL_lastPieceTo 25 = .ok (.iaload, 1) := by decide +kernel
theorem dL_lastPieceTo_26 : decode cL_lastPieceTo 26 = .ok (.iload_n 2, 1) := by decide +kernel
theorem dL_lastPieceTo_27 : decode cL_lastPieceTo 27 = .ok (.if_icmp .ne 28, 3) := by decide +kernel
theorem dL_lastPieceTo_30 : decode cL_lastPieceTo 30 = .ok (.aload_n 0, 1) := by decide +kernel
theorem dL_lastPieceTo_31 : decode cL_lastPieceTo 31 = .ok (.getfield 9, 3) := by decide +kernel
theorem dL_lastPieceTo_34 : decode cL_lastPieceTo 34 = .ok (.iload 6, 2) := by decide +kernel
theorem dL_lastPieceTo_36 : decode cL_lastPieceTo 36 = .ok (.laload, 1) := by decide +kernel
theorem dL_lastPieceTo_37 : decode cL_lastPieceTo 37 = .ok (.lload 4, 2) := by decide +kernel
theorem dL_lastPieceTo_39 : decode cL_lastPieceTo 39 = .ok (.lcmp, 1) := by decide +kernel
theorem dL_lastPieceTo_40 : decode cL_lastPieceTo 40 = .ok (.ifCond .ge 15, 3) := by decide +kernel
theorem dL_lastPieceTo_43 : decode cL_lastPieceTo 43 = .ok (.iload 6, 2) := by decide +kernel
theorem dL_lastPieceTo_45 : decode cL_lastPieceTo 45 = .ok (.istore_n 3, 1) := by decide +kernel
theorem dL_lastPieceTo_46 : decode cL_lastPieceTo 46 = .ok (.aload_n 0, 1) := by decide +kernel
theorem dL_lastPieceTo_47 : decode cL_lastPieceTo 47 = .ok (.getfield 9, 3) := by decide +kernel
theorem dL_lastPieceTo_50 : decode cL_lastPieceTo 50 = .ok (.iload 6, 2) := by decide +kernel
theorem dL_lastPieceTo_52 : decode cL_lastPieceTo 52 = .ok (.laload, 1) := by decide +kernel
theorem dL_lastPieceTo_53 : decode cL_lastPieceTo 53 = .ok (.lstore 4, 2) := by decide +kernel
theorem dL_lastPieceTo_55 : decode cL_lastPieceTo 55 = .ok (.iinc 6 1, 3) := by decide +kernel
theorem dL_lastPieceTo_58 : decode cL_lastPieceTo 58 = .ok (.goto (-48), 3) := by decide +kernel
theorem dL_lastPieceTo_61 : decode cL_lastPieceTo 61 = .ok (.iload_n 3, 1) := by decide +kernel
theorem dL_lastPieceTo_62 : decode cL_lastPieceTo 62 = .ok (.ireturn, 1) := by decide +kernel
theorem dR_clear_0 : decode cR_clear 0 = .ok (.aload_n 0, 1) := by decide +kernel
theorem dR_clear_1 : decode cR_clear 1 = .ok (.iconst 0, 1) := by decide +kernel
theorem dR_clear_2 : decode cR_clear 2 = .ok (.putfield 15, 3) := by decide +kernel
theorem dR_clear_5 : decode cR_clear 5 = .ok (.return_, 1) := by decide +kernel
theorem dL_writeWayTo_0 : decode cL_writeWayTo 0 = .ok (.aload_n 0, 1) := by decide +kernel
theorem dL_writeWayTo_1 : decode cL_writeWayTo 1 = .ok (.aload_n 1, 1) := by decide +kernel
theorem dL_writeWayTo_2 : decode cL_writeWayTo 2 = .ok (.iload_n 2, 1) := by decide +kernel
theorem dL_writeWayTo_3 : decode cL_writeWayTo 3 = .ok (.invokevirtual 67, 3) := by decide +kernel
theorem dL_writeWayTo_6 : decode cL_writeWayTo 6 = .ok (.istore 4, 2) := by decide +kernel
theorem dL_writeWayTo_8 : decode cL_writeWayTo 8 = .ok (.iconst 0, 1) := by decide +kernel
theorem dL_writeWayTo_9 : decode cL_writeWayTo 9 = .ok (.istore 5, 2) := by decide +kernel
theorem dL_writeWayTo_11 : decode cL_writeWayTo 11 = .ok (.iload 5, 2) := by decide +kernel
theorem dL_writeWayTo_13 : decode cL_writeWayTo 13 = .ok (.bipush 40, 2) := by decide +kernel
theorem dL_writeWayTo_15 : decode cL_writeWayTo 15 = .ok (.if_icmp .ge 30, 3) := by decide +kernel
theorem dL_writeWayTo_18 : decode cL_writeWayTo 18 = .ok (.iload 4, 2) := by decide +kernel
theorem dL_writeWayTo_20 : decode cL_writeWayTo 20 = .ok (.iconst (-1), 1) := by decide +kernel
theorem dL_writeWayTo_21 : decode cL_writeWayTo 21 = .ok (.if_icmp .eq 24, 3) := by decide +kernel
theorem dL_writeWayTo_24 : decode cL_writeWayTo 24 = .ok (.aload_n 3, 1) := by decide +kernel
theorem dL_writeWayTo_25 : decode cL_writeWayTo 25 = .ok (.iload 4, 2) := by decide +kernel
theorem dL_writeWayTo_27 : decode cL_writeWayTo 27 = .ok (.invokevirtual 71, 3) := by decide +kernel
theorem dL_writeWayTo_30 : decode cL_writeWayTo 30 = .ok (.aload_n 0, 1) := by decide +kernel
theorem dL_writeWayTo_31 : decode cL_writeWayTo 31 = .ok (.aload_n 1, 1) := by decide +kernel
theorem dL_writeWayTo_32 : decode cL_writeWayTo 32 = .ok (.iload 4, 2) := by decide +kernel
theorem dL_writeWayTo_34 : decode cL_writeWayTo 34 = .ok (.invokevirtual 77, 3) := by decide +kernel
theorem dL_writeWayTo_37 : decode cL_writeWayTo 37 = .ok (.istore 4, 2) := by decide +kernel
theorem dL_writeWayTo_39 : decode cL_writeWayTo 39 = .ok (.iinc 5 1, 3) := by decide +kernel
theorem dL_writeWayTo_42 : decode cL_writeWayTo 42 = .ok (.goto (-31), 3) := by decide +kernel
theorem dL_writeWayTo_45 : decode cL_writeWayTo 45 = .ok (.aload_n 3, 1) := by decide +kernel
theorem dL_writeWayTo_46 : decode cL_writeWayTo 46 = .ok (.invokevirtual 80, 3) := by decide +kernel
theorem dL_writeWayTo_49 : decode cL_writeWayTo 49 = .ok (.return_, 1) := by decide +kernel
theorem dR_append_0 : decode cR_append 0 = .ok (.aload_n 0, 1) := by decide +kernel
theorem dR_append_1 : decode cR_append 1 = .ok (.getfield 15, 3) := by decide +kernel
theorem dR_append_4 : decode cR_append 4 = .ok (.bipush 40, 2) := by decide +kernel
theorem dR_append_6 : decode cR_append 6 = .ok (.if_icmp .ge 23, 3) := by decide +kernel
theorem dR_append_9 : decode cR_append 9 = .ok (.aload_n 0, 1) := by decide +kernel
theorem dR_append_10 : decode cR_append 10 = .ok (.getfield 9, 3) := by decide +kernel
theorem dR_append_13 : decode cR_append 13 = .ok (.aload_n 0, 1) := by decide +kernel
theorem dR_append_14 : decode cR_append 14 = .ok (.getfield 15, 3) := by decide +kernel
theorem dR_append_17 : decode cR_append 17 = .ok (.iload_n 1, 1) := by decide +kernel
theorem dR_append_18 : decode cR_append 18 = .ok (.iastore, 1) := by decide +kernel
theorem dR_append_19 : decode cR_append 19 = .ok (.aload_n 0, 1) := by decide +kernel
theorem dR_append_20 : decode cR_append 20 = .ok (.dup, 1) := by decide +kernel
theorem dR_append_21 : decode cR_append 21 = .ok (.getfield 15, 3) := by decide +kernel
theorem dR_append_24 : decode cR_append 24 = .ok (.iconst 1, 1) := by decide +kernel
theorem dR_append_25 : decode cR_append 25 = .ok (.iadd, 1) := by decide +kernel
theorem dR_append_26 : decode cR_append 26 = .ok (.putfield 15, 3) := by decide +kernel
theorem dR_append_29 : decode cR_append 29 = .ok (.return_, 1) := by decide +kernel
theorem dL_pieceBefore_0 : decode cL_pieceBefore 0 = .ok (.aload_n 1, 1) := by decide +kernel
theorem dL_pieceBefore_1 : decode cL_pieceBefore 1 = .ok (.getfield 32, 3) := by decide +kernel
theorem dL_pieceBefore_4 : decode cL_pieceBefore 4 = .ok (.iload_n 2, 1) := by decide +kernel
theorem dL_pieceBefore_5 : decode cL_pieceBefore 5 = .ok (.iaload, 1) := by decide +kernel
theorem dL_pieceBefore_6 : decode cL_pieceBefore 6 = .ok (.aload_n 0, 1) := by decide +kernel
theorem dL_pieceBefore_7 : decode cL_pieceBefore 7 = .ok (.getfield 15, 3) := by decide +kernel
theorem dL_pieceBefore_10 : decode cL_pieceBefore 10 = .ok (.if_icmp .ne 24, 3) := by decide +kernel
theorem dL_pieceBefore_13 : decode cL_pieceBefore 13 = .ok (.aload_n 1, 1) := by decide +kernel
theorem dL_pieceBefore_14 : decode cL_pieceBefore 14 = .ok (.iload_n 2, 1) := by decide +kernel
theorem dL_pieceBefore_15 : decode cL_pieceBefore 15 = .ok (.aload_n 0, 1) := by decide +kernel
theorem dL_pieceBefore_16 : decode cL_pieceBefore 16 = .ok (.getfield 19, 3) := by decide +kernel
theorem dL_pieceBefore_19 : decode cL_pieceBefore 19 = .ok (.invokevirtual 36, 3) := by decide +kernel
theorem dL_pieceBefore_22 : decode cL_pieceBefore 22 = .ok (.aload_n 0, 1) := by decide +kernel
theorem dL_pieceBefore_23 : decode cL_pieceBefore 23 = .ok (.getfield 9, 3) := by decide +kernel
theorem dL_pieceBefore_26 : decode cL_pieceBefore 26 = .ok (.iload_n 2, 1) := by decide +kernel
theorem dL_pieceBefore_27 : decode cL_pieceBefore 27 = .ok (.laload, 1) := by decide +kernel
theorem dL_pieceBefore_28 : decode cL_pieceBefore 28 = .ok (.lcmp, 1) := by decide +kernel
theorem dL_pieceBefore_29 : decode cL_pieceBefore 29 = .ok (.ifCond .ne 5, 3) := by decide +kernel
theorem dL_pieceBefore_32 : decode cL_pieceBefore 32 = .ok (.iconst (-1), 1) := by decide +kernel
theorem dL_pieceBefore_33 : decode cL_pieceBefore 33 = .ok (.ireturn, 1) := by decide +kernel
theorem dL_pieceBefore_34 : decode cL_pieceBefore 34 = .ok (.iconst 0, 1) := by decide +kernel
theorem dL_pieceBefore_35 : decode cL_pieceBefore 35 = .ok (.istore_n 3, 1) := by decide +kernel
theorem dL_pieceBefore_36 : decode cL_pieceBefore 36 = .ok (.iload_n 3, 1) := by decide +kernel
theorem dL_pieceBefore_37 : decode cL_pieceBefore 37 = .ok (.aload_n 1, 1) := by decide +kernel
theorem dL_pieceBefore_38 : decode cL_pieceBefore 38 = .ok (.getfield 23, 3) := by decide +kernel
theorem dL_pieceBefore_41 : decode cL_pieceBefore 41 = .ok (.if_icmp .ge 57, 3) := by decide +kernel
theorem dL_pieceBefore_44 : decode cL_pieceBefore 44 = .ok (.aload_n 0, 1) := by decide +kernel
theorem dL_pieceBefore_45 : decode cL_pieceBefore 45 = .ok (.getfield 9, 3) := by decide +kernel
theorem dL_pieceBefore_48 : decode cL_pieceBefore 48 = .ok (.iload_n 3, 1) := by decide +kernel
theorem dL_pieceBefore_49 : decode cL_pieceBefore 49 = .ok (.laload, 1) := by decide +kernel
theorem dL_pieceBefore_50 : decode cL_pieceBefore 50 = .ok (.aload_n 0, 1) := by decide +kernel
theorem dL_pieceBefore_51 : decode cL_pieceBefore 51 = .ok (.getfield 9, 3) := by decide +kernel
theorem dL_pieceBefore_54 : decode cL_pieceBefore 54 = .ok (.iload_n 2, 1) := by decide +kernel
theorem dL_pieceBefore_55 : decode cL_pieceBefore 55 = .ok (.laload, 1) := by decide +kernel
theorem dL_pieceBefore_56 : decode cL_pieceBefore 56 = .ok (.lcmp, 1) := by decide +kernel
theorem dL_pieceBefore_57 : decode cL_pieceBefore 57 = .ok (.ifCond .ge 35, 3) := by decide +kernel
theorem dL_pieceBefore_60 : decode cL_pieceBefore 60 = .ok (.aload_n 1, 1) := by decide +kernel
theorem dL_pieceBefore_61 : decode cL_pieceBefore 61 = .ok (.iload_n 3, 1) := by decide +kernel
theorem dL_pieceBefore_62 : decode cL_pieceBefore 62 = .ok (.iload_n 2, 1) := by decide +kernel
theorem dL_pieceBefore_63 : decode cL_pieceBefore 63 = .ok (.invokevirtual 54, 3) := by decide +kernel
theorem dL_pieceBefore_66 : decode cL_pieceBefore 66 = .ok (.ifCond .eq 26, 3) := by decide +kernel
theorem dL_pieceBefore_69 : decode cL_pieceBefore 69 = .ok (.aload_n 1, 1) := by decide +kernel
theorem dL_pieceBefore_70 : decode cL_pieceBefore 70 = .ok (.iload_n 2, 1) := by decide +kernel
theorem dL_pieceBefore_71 : decode cL_pieceBefore 71 = .ok (.aload_n 0, 1) := by decide +kernel
theorem dL_pieceBefore_72 : decode cL_pieceBefore 72 = .ok (.getfield 9, 3) := by decide +kernel
theorem dL_pieceBefore_75 : decode cL_pieceBefore 75 = .ok (.iload_n 3, 1) := by decide +kernel
theorem dL_pieceBefore_76 : decode cL_pieceBefore 76 = .ok (.laload, 1) := by decide +kernel
theorem dL_pieceBefore_77 : decode cL_pieceBefore 77 = .ok (.invokevirtual 36, 3) := by decide +kernel
theorem dL_pieceBefore_80 : decode cL_pieceBefore 80 = .ok (.aload_n 0, 1) := by decide +kernel
theorem dL_pieceBefore_81 : decode cL_pieceBefore 81 = .ok (.getfield 9, 3) := by decide +kernel
theorem dL_pieceBefore_84 : decode cL_pieceBefore 84 = .ok (.iload_n 2, 1) := by decide +kernel
theorem dL_pieceBefore_85 : decode cL_pieceBefore 85 = .ok (.laload, 1) := by decide +kernel
theorem dL_pieceBefore_86 : decode cL_pieceBefore 86 = .ok (.lcmp, 1) := by decide +kernel
theorem dL_pieceBefore_87 : decode cL_pieceBefore 87 = .ok (.ifCond .ne 5, 3) := by decide +kernel
theorem dL_pieceBefore_90 : decode cL_pieceBefore 90 = .ok (.iload_n 3, 1) := by decide +kernel
theorem dL_pieceBefore_91 : decode cL_pieceBefore 91 = .ok (.ireturn, 1) := by decide +kernel
theorem dL_pieceBefore_92 : decode cL_pieceBefore 92 = .ok (.iinc 3 1, 3) := by decide +kernel
theorem dL_pieceBefore_95 : decode cL_pieceBefore 95 = .ok (.goto (-59), 3) := by decide +kernel
theorem dL_pieceBefore_98 : decode cL_pieceBefore 98 = .ok (.iconst (-1), 1) := by decide +kernel
theorem dL_pieceBefore_99 : decode cL_pieceBefore 99 = .ok (.ireturn, 1) := by decide +kernel
theorem dR_turnRound_0 : decode cR_turnRound 0 = .ok (.iconst 0, 1) := by decide +kernel
theorem dR_turnRound_1 : decode cR_turnRound 1 = .ok (.istore_n 1, 1) := by decide +kernel
theorem dR_turnRound_2 : decode cR_turnRound 2 = .ok (.aload_n 0, 1) := by decide +kernel
theorem dR_turnRound_3 : decode cR_turnRound 3 = .ok (.getfield 15, 3) := by decide +kernel
theorem dR_turnRound_6 : decode cR_turnRound 6 = .ok (.iconst 1, 1) := by decide +kernel
theorem dR_turnRound_7 : decode cR_turnRound 7 = .ok (.isub, 1) := by decide +kernel
theorem dR_turnRound_8 : decode cR_turnRound 8 = .ok (.istore_n 2, 1) := by decide +kernel
theorem dR_turnRound_9 : decode cR_turnRound 9 = .ok (.iload_n 1, 1) := by decide +kernel
theorem dR_turnRound_10 : decode cR_turnRound 10 = .ok (.iload_n 2, 1) := by decide +kernel
theorem dR_turnRound_11 : decode cR_turnRound 11 = .ok (.if_icmp .ge 38, 3) := by decide +kernel
theorem dR_turnRound_14 : decode cR_turnRound 14 = .ok (.aload_n 0, 1) := by decide +kernel
theorem dR_turnRound_15 : decode cR_turnRound 15 = .ok (.getfield 9, 3) := by decide +kernel
theorem dR_turnRound_18 : decode cR_turnRound 18 = .ok (.iload_n 1, 1) := by decide +kernel
theorem dR_turnRound_19 : decode cR_turnRound 19 = .ok (.iaload, 1) := by decide +kernel
theorem dR_turnRound_20 : decode cR_turnRound 20 = .ok (.istore_n 3, 1) := by decide +kernel

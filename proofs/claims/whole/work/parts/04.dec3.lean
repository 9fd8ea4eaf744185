theorem dR_turnRound_21 : decode cR_turnRound 21 = .ok (.aload_n 0, 1) := by decide +kernel
theorem dR_turnRound_22 : decode cR_turnRound 22 = .ok (.getfield 9, 3) := by decide +kernel
theorem dR_turnRound_25 : decode cR_turnRound 25 = .ok (.iload_n 1, 1) := by decide +kernel
theorem dR_turnRound_26 : decode cR_turnRound 26 = .ok (.aload_n 0, 1) := by decide +kernel
theorem dR_turnRound_27 : decode cR_turnRound 27 = .ok (.getfield 9, 3) := by decide +kernel
theorem dR_turnRound_30 : decode cR_turnRound 30 = .ok (.iload_n 2, 1) := by decide +kernel
theorem dR_turnRound_31 : decode cR_turnRound 31 = .ok (.iaload, 1) := by decide +kernel
theorem dR_turnRound_32 : decode cR_turnRound 32 = .ok (.iastore, 1) := by decide +kernel
theorem dR_turnRound_33 : decode cR_turnRound 33 = .ok (.aload_n 0, 1) := by decide +kernel
theorem dR_turnRound_34 : decode cR_turnRound 34 = .ok (.getfield 9, 3) := by decide +kernel
theorem dR_turnRound_37 : decode cR_turnRound 37 = .ok (.iload_n 2, 1) := by decide +kernel
theorem dR_turnRound_38 : decode cR_turnRound 38 = .ok (.iload_n 3, 1) := by decide +kernel
theorem dR_turnRound_39 : decode cR_turnRound 39 = .ok (.iastore, 1) := by decide +kernel
theorem dR_turnRound_40 : decode cR_turnRound 40 = .ok (.iinc 1 1, 3) := by decide +kernel
theorem dR_turnRound_43 : decode cR_turnRound 43 = .ok (.iinc 2 (-1), 3) := by decide +kernel
theorem dR_turnRound_46 : decode cR_turnRound 46 = .ok (.goto (-37), 3) := by decide +kernel
theorem dR_turnRound_49 : decode cR_turnRound 49 = .ok (.return_, 1) := by decide +kernel
theorem dW_reaches_0 : decode cW_reaches 0 = .ok (.aload 4, 2) := by decide +kernel
theorem dW_reaches_2 : decode cW_reaches 2 = .ok (.iconst 0, 1) := by decide +kernel
theorem dW_reaches_3 : decode cW_reaches 3 = .ok (.aload_n 0, 1) := by decide +kernel
theorem dW_reaches_4 : decode cW_reaches 4 = .ok (.iload_n 1, 1) := by decide +kernel
theorem dW_reaches_5 : decode cW_reaches 5 = .ok (.iload_n 2, 1) := by decide +kernel
theorem dW_reaches_6 : decode cW_reaches 6 = .ok (.iload_n 3, 1) := by decide +kernel
theorem dW_reaches_7 : decode cW_reaches 7 = .ok (.invokevirtual 50, 3) := by decide +kernel
theorem dW_reaches_10 : decode cW_reaches 10 = .ok (.ifCond .eq 7, 3) := by decide +kernel
theorem dW_reaches_13 : decode cW_reaches 13 = .ok (.lconst 1, 1) := by decide +kernel
theorem dW_reaches_14 : decode cW_reaches 14 = .ok (.goto 4, 3) := by decide +kernel
theorem dW_reaches_17 : decode cW_reaches 17 = .ok (.lconst 0, 1) := by decide +kernel
theorem dW_reaches_18 : decode cW_reaches 18 = .ok (.lastore, 1) := by decide +kernel
theorem dW_reaches_19 : decode cW_reaches 19 = .ok (.goto 7, 3) := by decide +kernel
theorem dW_reaches_22 : decode cW_reaches 22 = .ok (.astore 5, 2) := by decide +kernel
theorem dW_reaches_24 : decode cW_reaches 24 = .ok (.iconst 1, 1) := by decide +kernel
theorem dW_reaches_25 : decode cW_reaches 25 = .ok (.ireturn, 1) := by decide +kernel
theorem dW_reaches_26 : decode cW_reaches 26 = .ok (.iconst 0, 1) := by decide +kernel
theorem dW_reaches_27 : decode cW_reaches 27 = .ok (.ireturn, 1) := by decide +kernel
theorem dG_reaches_0 : decode cG_reaches 0 = .ok (.aload_n 0, 1) := by decide +kernel
theorem dG_reaches_1 : decode cG_reaches 1 = .ok (.iload_n 1, 1) := by decide +kernel
theorem dG_reaches_2 : decode cG_reaches 2 = .ok (.invokevirtual 167, 3) := by decide +kernel
theorem dG_reaches_5 : decode cG_reaches 5 = .ok (.ifCond .eq 19, 3) := by decide +kernel
theorem dG_reaches_8 : decode cG_reaches 8 = .ok (.aload_n 0, 1) := by decide +kernel
theorem dG_reaches_9 : decode cG_reaches 9 = .ok (.iload_n 2, 1) := by decide +kernel
theorem dG_reaches_10 : decode cG_reaches 10 = .ok (.invokevirtual 73, 3) := by decide +kernel
theorem dG_reaches_13 : decode cG_reaches 13 = .ok (.ifCond .eq 11, 3) := by decide +kernel
theorem dG_reaches_16 : decode cG_reaches 16 = .ok (.aload_n 0, 1) := by decide +kernel
theorem dG_reaches_17 : decode cG_reaches 17 = .ok (.iload_n 3, 1) := by decide +kernel
theorem dG_reaches_18 : decode cG_reaches 18 = .ok (.invokevirtual 73, 3) := by decide +kernel
theorem dG_reaches_21 : decode cG_reaches 21 = .ok (.ifCond .ne 13, 3) := by decide +kernel
theorem dG_reaches_24 : decode cG_reaches 24 = .ok (.new 57, 3) := by decide +kernel
theorem dG_reaches_27 : decode cG_reaches 27 = .ok (.dup, 1) := by decide +kernel
theorem dG_reaches_28 : decode cG_reaches 28 = .ok (.ldc 189, 2) := by decide +kernel
theorem dG_reaches_30 : decode cG_reaches 30 = .ok (.invokespecial 61, 3) := by decide +kernel
theorem dG_reaches_33 : decode cG_reaches 33 = .ok (.athrow, 1) := by decide +kernel
theorem dG_reaches_34 : decode cG_reaches 34 = .ok (.aload_n 0, 1) := by decide +kernel
theorem dG_reaches_35 : decode cG_reaches 35 = .ok (.iload_n 1, 1) := by decide +kernel
theorem dG_reaches_36 : decode cG_reaches 36 = .ok (.iload_n 2, 1) := by decide +kernel
theorem dG_reaches_37 : decode cG_reaches 37 = .ok (.iload_n 3, 1) := by decide +kernel
theorem dG_reaches_38 : decode cG_reaches 38 = .ok (.lconst 0, 1) := by decide +kernel
theorem dG_reaches_39 : decode cG_reaches 39 = .ok (.invokevirtual 172, 3) := by decide +kernel
theorem dG_reaches_42 : decode cG_reaches 42 = .ok (.ldc2_w 179, 3) := by decide +kernel
theorem dG_reaches_45 : decode cG_reaches 45 = .ok (.lcmp, 1) := by decide +kernel
theorem dG_reaches_46 : decode cG_reaches 46 = .ok (.ifCond .eq 7, 3) := by decide +kernel
theorem dG_reaches_49 : decode cG_reaches 49 = .ok (.iconst 1, 1) := by decide +kernel
theorem dG_reaches_50 : decode cG_reaches 50 = .ok (.goto 4, 3) := by decide +kernel
theorem dG_reaches_53 : decode cG_reaches 53 = .ok (.iconst 0, 1) := by decide +kernel
theorem dG_reaches_54 : decode cG_reaches 54 = .ok (.ireturn, 1) := by decide +kernel
theorem dW_mark_0 : decode cW_mark 0 = .ok (.aload_n 2, 1) := by decide +kernel
theorem dW_mark_1 : decode cW_mark 1 = .ok (.iconst 0, 1) := by decide +kernel
theorem dW_mark_2 : decode cW_mark 2 = .ok (.aload_n 0, 1) := by decide +kernel
theorem dW_mark_3 : decode cW_mark 3 = .ok (.iload_n 1, 1) := by decide +kernel
theorem dW_mark_4 : decode cW_mark 4 = .ok (.invokevirtual 54, 3) := by decide +kernel
theorem dW_mark_7 : decode cW_mark 7 = .ok (.i2l, 1) := by decide +kernel
theorem dW_mark_8 : decode cW_mark 8 = .ok (.lastore, 1) := by decide +kernel
theorem dW_mark_9 : decode cW_mark 9 = .ok (.goto 12, 3) := by decide +kernel
theorem dW_mark_12 : decode cW_mark 12 = .ok (.astore_n 3, 1) := by decide +kernel
theorem dW_mark_13 : decode cW_mark 13 = .ok (.iconst 1, 1) := by decide +kernel
theorem dW_mark_14 : decode cW_mark 14 = .ok (.ireturn, 1) := by decide +kernel
theorem dW_mark_15 : decode cW_mark 15 = .ok (.astore_n 3, 1) := by decide +kernel
theorem dW_mark_16 : decode cW_mark 16 = .ok (.iconst 2, 1) := by decide +kernel
theorem dW_mark_17 : decode cW_mark 17 = .ok (.ireturn, 1) := by decide +kernel
theorem dW_mark_18 : decode cW_mark 18 = .ok (.astore_n 3, 1) := by decide +kernel
theorem dW_mark_19 : decode cW_mark 19 = .ok (.iconst 3, 1) := by decide +kernel
theorem dW_mark_20 : decode cW_mark 20 = .ok (.ireturn, 1) := by decide +kernel
theorem dW_mark_21 : decode cW_mark 21 = .ok (.iconst 0, 1) := by decide +kernel
theorem dW_mark_22 : decode cW_mark 22 = .ok (.ireturn, 1) := by decide +kernel
theorem dG_mark_0 : decode cG_mark 0 = .ok (.aload_n 0, 1) := by decide +kernel
theorem dG_mark_1 : decode cG_mark 1 = .ok (.iload_n 1, 1) := by decide +kernel
theorem dG_mark_2 : decode cG_mark 2 = .ok (.invokevirtual 73, 3) := by decide +kernel
theorem dG_mark_5 : decode cG_mark 5 = .ok (.ifCond .ne 13, 3) := by decide +kernel
theorem dG_mark_8 : decode cG_mark 8 = .ok (.new 57, 3) := by decide +kernel
theorem dG_mark_11 : decode cG_mark 11 = .ok (.dup, 1) := by decide +kernel
theorem dG_mark_12 : decode cG_mark 12 = .ok (.ldc 191, 2) := by decide +kernel
theorem dG_mark_14 : decode cG_mark 14 = .ok (.invokespecial 61, 3) := by decide +kernel
theorem dG_mark_17 : decode cG_mark 17 = .ok (.athrow, 1) := by decide +kernel
theorem dG_mark_18 : decode cG_mark 18 = .ok (.aload_n 0, 1) := by decide +kernel
theorem dG_mark_19 : decode cG_mark 19 = .ok (.iload_n 1, 1) := by decide +kernel
theorem dG_mark_20 : decode cG_mark 20 = .ok (.invokevirtual 193, 3) := by decide +kernel
theorem dG_mark_23 : decode cG_mark 23 = .ok (.ifCond .eq 13, 3) := by decide +kernel
theorem dG_mark_26 : decode cG_mark 26 = .ok (.new 196, 3) := by decide +kernel
theorem dG_mark_29 : decode cG_mark 29 = .ok (.dup, 1) := by decide +kernel
theorem dG_mark_30 : decode cG_mark 30 = .ok (.ldc 198, 2) := by decide +kernel
theorem dG_mark_32 : decode cG_mark 32 = .ok (.invokespecial 200, 3) := by decide +kernel
theorem dG_mark_35 : decode cG_mark 35 = .ok (.athrow, 1) := by decide +kernel
theorem dG_mark_36 : decode cG_mark 36 = .ok (.aload_n 0, 1) := by decide +kernel
theorem dG_mark_37 : decode cG_mark 37 = .ok (.getfield 201, 3) := by decide +kernel
theorem dG_mark_40 : decode cG_mark 40 = .ok (.bipush 8, 2) := by decide +kernel
theorem dG_mark_42 : decode cG_mark 42 = .ok (.if_icmp .lt 13, 3) := by decide +kernel
theorem dG_mark_45 : decode cG_mark 45 = .ok (.new 68, 3) := by decide +kernel
theorem dG_mark_48 : decode cG_mark 48 = .ok (.dup, 1) := by decide +kernel
theorem dG_mark_49 : decode cG_mark 49 = .ok (.ldc 204, 2) := by decide +kernel
theorem dG_mark_51 : decode cG_mark 51 = .ok (.invokespecial 72, 3) := by decide +kernel
theorem dG_mark_54 : decode cG_mark 54 = .ok (.athrow, 1) := by decide +kernel
theorem dG_mark_55 : decode cG_mark 55 = .ok (.aload_n 0, 1) := by decide +kernel
theorem dG_mark_56 : decode cG_mark 56 = .ok (.getfield 27, 3) := by decide +kernel
theorem dG_mark_59 : decode cG_mark 59 = .ok (.aload_n 0, 1) := by decide +kernel
theorem dG_mark_60 : decode cG_mark 60 = .ok (.getfield 201, 3) := by decide +kernel
theorem dG_mark_63 : decode cG_mark 63 = .ok (.iload_n 1, 1) := by decide +kernel
theorem dG_mark_64 : decode cG_mark 64 = .ok (.iastore, 1) := by decide +kernel
theorem dG_mark_65 : decode cG_mark 65 = .ok (.aload_n 0, 1) := by decide +kernel
theorem dG_mark_66 : decode cG_mark 66 = .ok (.dup, 1) := by decide +kernel
theorem dG_mark_67 : decode cG_mark 67 = .ok (.getfield 201, 3) := by decide +kernel
theorem dG_mark_70 : decode cG_mark 70 = .ok (.iconst 1, 1) := by decide +kernel
theorem dG_mark_71 : decode cG_mark 71 = .ok (.iadd, 1) := by decide +kernel
theorem dG_mark_72 : decode cG_mark 72 = .ok (.putfield 201, 3) := by decide +kernel
theorem dG_mark_75 : decode cG_mark 75 = .ok (.aload_n 0, 1) := by decide +kernel
theorem dG_mark_76 : decode cG_mark 76 = .ok (.getfield 201, 3) := by decide +kernel
theorem dG_mark_79 : decode cG_mark 79 = .ok (.ireturn, 1) := by decide +kernel
theorem dG_isMarked_0 : decode cG_isMarked 0 = .ok (.iconst 0, 1) := by decide +kernel
theorem dG_isMarked_1 : decode cG_isMarked 1 = .ok (.istore_n 2, 1) := by decide +kernel
theorem dG_isMarked_2 : decode cG_isMarked 2 = .ok (.iload_n 2, 1) := by decide +kernel
theorem dG_isMarked_3 : decode cG_isMarked 3 = .ok (.aload_n 0, 1) := by decide +kernel
theorem dG_isMarked_4 : decode cG_isMarked 4 = .ok (.getfield 201, 3) := by decide +kernel
theorem dG_isMarked_7 : decode cG_isMarked 7 = .ok (.if_icmp .ge 21, 3) := by decide +kernel
theorem dG_isMarked_10 : decode cG_isMarked 10 = .ok (.aload_n 0, 1) := by decide +kernel
theorem dG_isMarked_11 : decode cG_isMarked 11 = .ok (.getfield 27, 3) := by decide +kernel
theorem dG_isMarked_14 : decode cG_isMarked 14 = .ok (.iload_n 2, 1) := by decide +kernel
theorem dG_isMarked_15 : decode cG_isMarked 15 = .ok (.iaload, 1) := by decide +kernel
theorem dG_isMarked_16 : decode cG_isMarked 16 = .ok (.iload_n 1, 1) := by decide +kernel
theorem dG_isMarked_17 : decode cG_isMarked 17 = .ok (.if_icmp .ne 5, 3) := by decide +kernel
theorem dG_isMarked_20 : decode cG_isMarked 20 = .ok (.iconst 1, 1) := by decide +kernel
theorem dG_isMarked_21 : decode cG_isMarked 21 = .ok (.ireturn, 1) := by decide +kernel
theorem dG_isMarked_22 : decode cG_isMarked 22 = .ok (.iinc 2 1, 3) := by decide +kernel
theorem dG_isMarked_25 : decode cG_isMarked 25 = .ok (.goto (-23), 3) := by decide +kernel
theorem dG_isMarked_28 : decode cG_isMarked 28 = .ok (.iconst 0, 1) := by decide +kernel
theorem dG_isMarked_29 : decode cG_isMarked 29 = .ok (.ireturn, 1) := by decide +kernel
theorem dW_table_0 : decode cW_table 0 = .ok (.aload_n 3, 1) := by decide +kernel
theorem dW_table_1 : decode cW_table 1 = .ok (.iconst 0, 1) := by decide +kernel
theorem dW_table_2 : decode cW_table 2 = .ok (.aload_n 0, 1) := by decide +kernel
theorem dW_table_3 : decode cW_table 3 = .ok (.iload_n 1, 1) := by decide +kernel
theorem dW_table_4 : decode cW_table 4 = .ok (.iload_n 2, 1) := by decide +kernel
theorem dW_table_5 : decode cW_table 5 = .ok (.invokevirtual 59, 3) := by decide +kernel
theorem dW_table_8 : decode cW_table 8 = .ok (.lastore, 1) := by decide +kernel
theorem dW_table_9 : decode cW_table 9 = .ok (.goto 11, 3) := by decide +kernel
theorem dW_table_12 : decode cW_table 12 = .ok (.astore 4, 2) := by decide +kernel
theorem dW_table_14 : decode cW_table 14 = .ok (.iconst 1, 1) := by decide +kernel
theorem dW_table_15 : decode cW_table 15 = .ok (.ireturn, 1) := by decide +kernel
theorem dW_table_16 : decode cW_table 16 = .ok (.astore 4, 2) := by decide +kernel
theorem dW_table_18 : decode cW_table 18 = .ok (.iconst 2, 1) := by decide +kernel
theorem dW_table_19 : decode cW_table 19 = .ok (.ireturn, 1) := by decide +kernel
theorem dW_table_20 : decode cW_table 20 = .ok (.iconst 0, 1) := by decide +kernel
theorem dW_table_21 : decode cW_table 21 = .ok (.ireturn, 1) := by decide +kernel
theorem dG_table_0 : decode cG_table 0 = .ok (.iload_n 1, 1) := by decide +kernel
theorem dG_table_1 : decode cG_table 1 = .ok (.i2l, 1) := by decide +kernel
theorem dG_table_2 : decode cG_table 2 = .ok (.lconst 0, 1) := by decide +kernel
theorem dG_table_3 : decode cG_table 3 = .ok (.aload_n 0, 1) := by decide +kernel
theorem dG_table_4 : decode cG_table 4 = .ok (.getfield 201, 3) := by decide +kernel
theorem dG_table_7 : decode cG_table 7 = .ok (.iconst 1, 1) := by decide +kernel
theorem dG_table_8 : decode cG_table 8 = .ok (.isub, 1) := by decide +kernel
theorem dG_table_9 : decode cG_table 9 = .ok (.i2l, 1) := by decide +kernel
theorem dG_table_10 : decode cG_table 10 = .ok (.invokestatic 53, 3) := by decide +kernel
theorem dG_table_13 : decode cG_table 13 = .ok (.ifCond .eq 19, 3) := by decide +kernel
theorem dG_table_16 : decode cG_table 16 = .ok (.iload_n 2, 1) := by decide +kernel
theorem dG_table_17 : decode cG_table 17 = .ok (.i2l, 1) := by decide +kernel
theorem dG_table_18 : decode cG_table 18 = .ok (.lconst 0, 1) := by decide +kernel
theorem dG_table_19 : decode cG_table 19 = .ok (.aload_n 0, 1) := by decide +kernel
theorem dG_table_20 : decode cG_table 20 = .ok (.getfield 201, 3) := by decide +kernel
theorem dG_table_23 : decode cG_table 23 = .ok (.iconst 1, 1) := by decide +kernel
theorem dG_table_24 : decode cG_table 24 = .ok (.isub, 1) := by decide +kernel
theorem dG_table_25 : decode cG_table 25 = .ok (.i2l, 1) := by decide +kernel
theorem dG_table_26 : decode cG_table 26 = .ok (.invokestatic 53, 3) := by decide +kernel
theorem dG_table_29 : decode cG_table 29 = .ok (.ifCond .ne 13, 3) := by decide +kernel
theorem dG_table_32 : decode cG_table 32 = .ok (.new 57, 3) := by decide +kernel
theorem dG_table_35 : decode cG_table 35 = .ok (.dup, 1) := by decide +kernel
theorem dG_table_36 : decode cG_table 36 = .ok (.ldc 206, 2) := by decide +kernel
theorem dG_table_38 : decode cG_table 38 = .ok (.invokespecial 61, 3) := by decide +kernel
theorem dG_table_41 : decode cG_table 41 = .ok (.athrow, 1) := by decide +kernel
theorem dG_table_42 : decode cG_table 42 = .ok (.aload_n 0, 1) := by decide +kernel
theorem dG_table_43 : decode cG_table 43 = .ok (.getfield 120, 3) := by decide +kernel
theorem dG_table_46 : decode cG_table 46 = .ok (.ifCond .ne 13, 3) := by decide +kernel
theorem dG_table_49 : decode cG_table 49 = .ok (.new 196, 3) := by decide +kernel
theorem dG_table_52 : decode cG_table 52 = .ok (.dup, 1) := by decide +kernel
theorem dG_table_53 : decode cG_table 53 = .ok (.ldc 208, 2) := by decide +kernel
theorem dG_table_55 : decode cG_table 55 = .ok (.invokespecial 200, 3) := by decide +kernel
theorem dG_table_58 : decode cG_table 58 = .ok (.athrow, 1) := by decide +kernel
theorem dG_table_59 : decode cG_table 59 = .ok (.aload_n 0, 1) := by decide +kernel
theorem dG_table_60 : decode cG_table 60 = .ok (.iconst 0, 1) := by decide +kernel
theorem dG_table_61 : decode cG_table 61 = .ok (.aload_n 0, 1) := by decide +kernel
theorem dG_table_62 : decode cG_table 62 = .ok (.getfield 27, 3) := by decide +kernel
theorem dG_table_65 : decode cG_table 65 = .ok (.iload_n 1, 1) := by decide +kernel
theorem dG_table_66 : decode cG_table 66 = .ok (.iaload, 1) := by decide +kernel
theorem dG_table_67 : decode cG_table 67 = .ok (.aload_n 0, 1) := by decide +kernel
theorem dG_table_68 : decode cG_table 68 = .ok (.getfield 27, 3) := by decide +kernel
theorem dG_table_71 : decode cG_table 71 = .ok (.iload_n 2, 1) := by decide +kernel
theorem dG_table_72 : decode cG_table 72 = .ok (.iaload, 1) := by decide +kernel
theorem dG_table_73 : decode cG_table 73 = .ok (.lconst 0, 1) := by decide +kernel
theorem dG_table_74 : decode cG_table 74 = .ok (.invokevirtual 172, 3) := by decide +kernel
theorem dG_table_77 : decode cG_table 77 = .ok (.lreturn, 1) := by decide +kernel
theorem dW_k_0 : decode cW_k 0 = .ok (.aload 4, 2) := by decide +kernel
theorem dW_k_2 : decode cW_k 2 = .ok (.iconst 0, 1) := by decide +kernel
theorem dW_k_3 : decode cW_k 3 = .ok (.aload_n 0, 1) := by decide +kernel
theorem dW_k_4 : decode cW_k 4 = .ok (.iload_n 1, 1) := by decide +kernel
theorem dW_k_5 : decode cW_k 5 = .ok (.iload_n 2, 1) := by decide +kernel
theorem dW_k_6 : decode cW_k 6 = .ok (.iload_n 3, 1) := by decide +kernel
theorem dW_k_7 : decode cW_k 7 = .ok (.invokevirtual 63, 3) := by decide +kernel
theorem dW_k_10 : decode cW_k 10 = .ok (.lastore, 1) := by decide +kernel
theorem dW_k_11 : decode cW_k 11 = .ok (.goto 11, 3) := by decide +kernel
theorem dW_k_14 : decode cW_k 14 = .ok (.astore 5, 2) := by decide +kernel
theorem dW_k_16 : decode cW_k 16 = .ok (.iconst 1, 1) := by decide +kernel
theorem dW_k_17 : decode cW_k 17 = .ok (.ireturn, 1) := by decide +kernel
theorem dW_k_18 : decode cW_k 18 = .ok (.astore 5, 2) := by decide +kernel
theorem dW_k_20 : decode cW_k 20 = .ok (.iconst 2, 1) := by decide +kernel
theorem dW_k_21 : decode cW_k 21 = .ok (.ireturn, 1) := by decide +kernel
theorem dW_k_22 : decode cW_k 22 = .ok (.iconst 0, 1) := by decide +kernel
theorem dW_k_23 : decode cW_k 23 = .ok (.ireturn, 1) := by decide +kernel
theorem dG_k_0 : decode cG_k 0 = .ok (.aload_n 0, 1) := by decide +kernel
theorem dG_k_1 : decode cG_k 1 = .ok (.iload_n 1, 1) := by decide +kernel
theorem dG_k_2 : decode cG_k 2 = .ok (.invokevirtual 73, 3) := by decide +kernel
theorem dG_k_5 : decode cG_k 5 = .ok (.ifCond .eq 28, 3) := by decide +kernel
theorem dG_k_8 : decode cG_k 8 = .ok (.aload_n 0, 1) := by decide +kernel
theorem dG_k_9 : decode cG_k 9 = .ok (.iload_n 2, 1) := by decide +kernel
theorem dG_k_10 : decode cG_k 10 = .ok (.invokevirtual 73, 3) := by decide +kernel
theorem dG_k_13 : decode cG_k 13 = .ok (.ifCond .eq 20, 3) := by decide +kernel
theorem dG_k_16 : decode cG_k 16 = .ok (.iload_n 1, 1) := by decide +kernel
theorem dG_k_17 : decode cG_k 17 = .ok (.iload_n 2, 1) := by decide +kernel
theorem dG_k_18 : decode cG_k 18 = .ok (.if_icmp .eq 15, 3) := by decide +kernel
theorem dG_k_21 : decode cG_k 21 = .ok (.iload_n 3, 1) := by decide +kernel
theorem dG_k_22 : decode cG_k 22 = .ok (.i2l, 1) := by decide +kernel
theorem dG_k_23 : decode cG_k 23 = .ok (.lconst 0, 1) := by decide +kernel
theorem dG_k_24 : decode cG_k 24 = .ok (.ldc2_w 210, 3) := by decide +kernel
theorem dG_k_27 : decode cG_k 27 = .ok (.invokestatic 53, 3) := by decide +kernel
theorem dG_k_30 : decode cG_k 30 = .ok (.ifCond .ne 13, 3) := by decide +kernel
theorem dG_k_33 : decode cG_k 33 = .ok (.new 57, 3) := by decide +kernel
theorem dG_k_36 : decode cG_k 36 = .ok (.dup, 1) := by decide +kernel
theorem dG_k_37 : decode cG_k 37 = .ok (.ldc 212, 2) := by decide +kernel
theorem dG_k_39 : decode cG_k 39 = .ok (.invokespecial 61, 3) := by decide +kernel
theorem dG_k_42 : decode cG_k 42 = .ok (.athrow, 1) := by decide +kernel
theorem dG_k_43 : decode cG_k 43 = .ok (.aload_n 0, 1) := by decide +kernel
theorem dG_k_44 : decode cG_k 44 = .ok (.getfield 120, 3) := by decide +kernel
theorem dG_k_47 : decode cG_k 47 = .ok (.ifCond .ne 13, 3) := by decide +kernel
theorem dG_k_50 : decode cG_k 50 = .ok (.new 196, 3) := by decide +kernel
theorem dG_k_53 : decode cG_k 53 = .ok (.dup, 1) := by decide +kernel
theorem dG_k_54 : decode cG_k 54 = .ok (.ldc 208, 2) := by decide +kernel
theorem dG_k_56 : decode cG_k 56 = .ok (.invokespecial 200, 3) := by decide +kernel
theorem dG_k_59 : decode cG_k 59 = .ok (.athrow, 1) := by decide +kernel
theorem dG_k_60 : decode cG_k 60 = .ok (.aload_n 0, 1) := by decide +kernel
theorem dG_k_61 : decode cG_k 61 = .ok (.getfield 40, 3) := by decide +kernel
theorem dG_k_64 : decode cG_k 64 = .ok (.aload_n 0, 1) := by decide +kernel
theorem dG_k_65 : decode cG_k 65 = .ok (.getfield 16, 3) := by decide +kernel
theorem dG_k_68 : decode cG_k 68 = .ok (.aload_n 0, 1) := by decide +kernel
theorem dG_k_69 : decode cG_k 69 = .ok (.getfield 16, 3) := by decide +kernel
theorem dG_k_72 : decode cG_k 72 = .ok (.aload_n 0, 1) := by decide +kernel
theorem dG_k_73 : decode cG_k 73 = .ok (.getfield 20, 3) := by decide +kernel
theorem dG_k_76 : decode cG_k 76 = .ok (.iconst 0, 1) := by decide +kernel
theorem dG_k_77 : decode cG_k 77 = .ok (.iaload, 1) := by decide +kernel
theorem dG_k_78 : decode cG_k 78 = .ok (.aload_n 0, 1) := by decide +kernel
theorem dG_k_79 : decode cG_k 79 = .ok (.getfield 23, 3) := by decide +kernel
theorem dG_k_82 : decode cG_k 82 = .ok (.iconst 0, 1) := by decide +kernel
theorem dG_k_83 : decode cG_k 83 = .ok (.laload, 1) := by decide +kernel
theorem dG_k_84 : decode cG_k 84 = .ok (.invokevirtual 214, 3) := by decide +kernel
theorem dG_k_87 : decode cG_k 87 = .ok (.iload_n 1, 1) := by decide +kernel
theorem dG_k_88 : decode cG_k 88 = .ok (.iload_n 2, 1) := by decide +kernel
theorem dG_k_89 : decode cG_k 89 = .ok (.invokevirtual 218, 3) := by decide +kernel
theorem dG_k_92 : decode cG_k 92 = .ok (.aload_n 0, 1) := by decide +kernel
theorem dG_k_93 : decode cG_k 93 = .ok (.getfield 47, 3) := by decide +kernel
theorem dG_k_96 : decode cG_k 96 = .ok (.invokevirtual 176, 3) := by decide +kernel
theorem dG_k_99 : decode cG_k 99 = .ok (.iload_n 3, 1) := by decide +kernel
theorem dG_k_100 : decode cG_k 100 = .ok (.aload_n 0, 1) := by decide +kernel
theorem dG_k_101 : decode cG_k 101 = .ok (.getfield 40, 3) := by decide +kernel
theorem dG_k_104 : decode cG_k 104 = .ok (.getfield 222, 3) := by decide +kernel
theorem dG_k_107 : decode cG_k 107 = .ok (.if_icmp .lt 7, 3) := by decide +kernel
theorem dG_k_110 : decode cG_k 110 = .ok (.ldc2_w 179, 3) := by decide +kernel
theorem dG_k_113 : decode cG_k 113 = .ok (.lreturn, 1) := by decide +kernel
theorem dG_k_114 : decode cG_k 114 = .ok (.aload_n 0, 1) := by decide +kernel
theorem dG_k_115 : decode cG_k 115 = .ok (.getfield 40, 3) := by decide +kernel
theorem dG_k_118 : decode cG_k 118 = .ok (.iload_n 3, 1) := by decide +kernel
theorem dG_k_119 : decode cG_k 119 = .ok (.aload_n 0, 1) := by decide +kernel
theorem dG_k_120 : decode cG_k 120 = .ok (.getfield 47, 3) := by decide +kernel
theorem dG_k_123 : decode cG_k 123 = .ok (.invokevirtual 225, 3) := by decide +kernel
theorem dG_k_126 : decode cG_k 126 = .ok (.aload_n 0, 1) := by decide +kernel
theorem dG_k_127 : decode cG_k 127 = .ok (.getfield 40, 3) := by decide +kernel
theorem dG_k_130 : decode cG_k 130 = .ok (.getfield 229, 3) := by decide +kernel
theorem dG_k_133 : decode cG_k 133 = .ok (.iload_n 3, 1) := by decide +kernel
theorem dG_k_134 : decode cG_k 134 = .ok (.laload, 1) := by decide +kernel
theorem dG_k_135 : decode cG_k 135 = .ok (.lreturn, 1) := by decide +kernel
theorem dS_search_0 : decode cS_search 0 = .ok (.aload_n 0, 1) := by decide +kernel
theorem dS_search_1 : decode cS_search 1 = .ok (.lload_n 2, 1) := by decide +kernel
theorem dS_search_2 : decode cS_search 2 = .ok (.putfield 25, 3) := by decide +kernel
theorem dS_search_5 : decode cS_search 5 = .ok (.aload_n 0, 1) := by decide +kernel
theorem dS_search_6 : decode cS_search 6 = .ok (.iload 5, 2) := by decide +kernel
theorem dS_search_8 : decode cS_search 8 = .ok (.putfield 29, 3) := by decide +kernel
theorem dS_search_11 : decode cS_search 11 = .ok (.aload_n 0, 1) := by decide +kernel
theorem dS_search_12 : decode cS_search 12 = .ok (.iconst 0, 1) := by decide +kernel
theorem dS_search_13 : decode cS_search 13 = .ok (.putfield 33, 3) := by decide +kernel
theorem dS_search_16 : decode cS_search 16 = .ok (.aload_n 0, 1) := by decide +kernel
theorem dS_search_17 : decode cS_search 17 = .ok (.aload_n 1, 1) := by decide +kernel
theorem dS_search_18 : decode cS_search 18 = .ok (.iload 4, 2) := by decide +kernel
theorem dS_search_20 : decode cS_search 20 = .ok (.iconst 0, 1) := by decide +kernel
theorem dS_search_21 : decode cS_search 21 = .ok (.lconst 0, 1) := by decide +kernel
theorem dS_search_22 : decode cS_search 22 = .ok (.lconst 0, 1) := by decide +kernel
theorem dS_search_23 : decode cS_search 23 = .ok (.iload 4, 2) := by decide +kernel
theorem dS_search_25 : decode cS_search 25 = .ok (.iconst 1, 1) := by decide +kernel
theorem dS_search_26 : decode cS_search 26 = .ok (.invokestatic 36, 3) := by decide +kernel
theorem dS_search_29 : decode cS_search 29 = .ok (.invokevirtual 40, 3) := by decide +kernel
theorem dS_search_32 : decode cS_search 32 = .ok (.return_, 1) := by decide +kernel
theorem dS_extend_0 : decode cS_extend 0 = .ok (.iload_n 3, 1) := by decide +kernel
theorem dS_extend_1 : decode cS_extend 1 = .ok (.iconst 5, 1) := by decide +kernel
theorem dS_extend_2 : decode cS_extend 2 = .ok (.if_icmp .lt 4, 3) := by decide +kernel
theorem dS_extend_5 : decode cS_extend 5 = .ok (.return_, 1) := by decide +kernel
theorem dS_extend_6 : decode cS_extend 6 = .ok (.iconst 0, 1) := by decide +kernel
theorem dS_extend_7 : decode cS_extend 7 = .ok (.istore 8, 2) := by decide +kernel
theorem dS_extend_9 : decode cS_extend 9 = .ok (.iload 8, 2) := by decide +kernel
theorem dS_extend_11 : decode cS_extend 11 = .ok (.aload_n 1, 1) := by decide +kernel
theorem dS_extend_12 : decode cS_extend 12 = .ok (.getfield 44, 3) := by decide +kernel
theorem dS_extend_15 : decode cS_extend 15 = .ok (.if_icmp .ge 48, 3) := by decide +kernel
theorem dS_extend_18 : decode cS_extend 18 = .ok (.aload_n 0, 1) := by decide +kernel
theorem dS_extend_19 : decode cS_extend 19 = .ok (.aload_n 1, 1) := by decide +kernel
theorem dS_extend_20 : decode cS_extend 20 = .ok (.iload 8, 2) := by decide +kernel
theorem dS_extend_22 : decode cS_extend 22 = .ok (.iload_n 2, 1) := by decide +kernel
theorem dS_extend_23 : decode cS_extend 23 = .ok (.iload_n 3, 1) := by decide +kernel
theorem dS_extend_24 : decode cS_extend 24 = .ok (.invokevirtual 49, 3) := by decide +kernel
theorem dS_extend_27 : decode cS_extend 27 = .ok (.ifCond .eq 30, 3) := by decide +kernel
theorem dS_extend_30 : decode cS_extend 30 = .ok (.lload 6, 2) := by decide +kernel
theorem dS_extend_32 : decode cS_extend 32 = .ok (.aload_n 1, 1) := by decide +kernel
theorem dS_extend_33 : decode cS_extend 33 = .ok (.getfield 53, 3) := by decide +kernel
theorem dS_extend_36 : decode cS_extend 36 = .ok (.iload 8, 2) := by decide +kernel
theorem dS_extend_38 : decode cS_extend 38 = .ok (.iaload, 1) := by decide +kernel
theorem dS_extend_39 : decode cS_extend 39 = .ok (.invokestatic 56, 3) := by decide +kernel
theorem dS_extend_42 : decode cS_extend 42 = .ok (.ifCond .ne 15, 3) := by decide +kernel
theorem dS_extend_45 : decode cS_extend 45 = .ok (.aload_n 0, 1) := by decide +kernel
theorem dS_extend_46 : decode cS_extend 46 = .ok (.aload_n 1, 1) := by decide +kernel
theorem dS_extend_47 : decode cS_extend 47 = .ok (.iload 8, 2) := by decide +kernel
theorem dS_extend_49 : decode cS_extend 49 = .ok (.iload_n 3, 1) := by decide +kernel
theorem dS_extend_50 : decode cS_extend 50 = .ok (.lload 4, 2) := by decide +kernel
theorem dS_extend_52 : decode cS_extend 52 = .ok (.lload 6, 2) := by decide +kernel
theorem dS_extend_54 : decode cS_extend 54 = .ok (.invokevirtual 60, 3) := by decide +kernel
theorem dS_extend_57 : decode cS_extend 57 = .ok (.iinc 8 1, 3) := by decide +kernel
theorem dS_extend_60 : decode cS_extend 60 = .ok (.goto (-51), 3) := by decide +kernel
theorem dS_extend_63 : decode cS_extend 63 = .ok (.return_, 1) := by decide +kernel
theorem dS_canBeNext_0 : decode cS_canBeNext 0 = .ok (.aload_n 0, 1) := by decide +kernel
theorem dS_canBeNext_1 : decode cS_canBeNext 1 = .ok (.getfield 25, 3) := by decide +kernel
theorem dS_canBeNext_4 : decode cS_canBeNext 4 = .ok (.iload_n 2, 1) := by decide +kernel
theorem dS_canBeNext_5 : decode cS_canBeNext 5 = .ok (.invokestatic 56, 3) := by decide +kernel
theorem dS_canBeNext_8 : decode cS_canBeNext 8 = .ok (.ifCond .eq 39, 3) := by decide +kernel
theorem dS_canBeNext_11 : decode cS_canBeNext 11 = .ok (.aload_n 1, 1) := by decide +kernel
theorem dS_canBeNext_12 : decode cS_canBeNext 12 = .ok (.getfield 75, 3) := by decide +kernel
theorem dS_canBeNext_15 : decode cS_canBeNext 15 = .ok (.iload_n 2, 1) := by decide +kernel
theorem dS_canBeNext_16 : decode cS_canBeNext 16 = .ok (.iaload, 1) := by decide +kernel
theorem dS_canBeNext_17 : decode cS_canBeNext 17 = .ok (.iload_n 3, 1) := by decide +kernel
theorem dS_canBeNext_18 : decode cS_canBeNext 18 = .ok (.if_icmp .ne 29, 3) := by decide +kernel
theorem dS_canBeNext_21 : decode cS_canBeNext 21 = .ok (.iload 4, 2) := by decide +kernel
theorem dS_canBeNext_23 : decode cS_canBeNext 23 = .ok (.ifCond .eq 20, 3) := by decide +kernel
theorem dS_canBeNext_26 : decode cS_canBeNext 26 = .ok (.aload_n 1, 1) := by decide +kernel
theorem dS_canBeNext_27 : decode cS_canBeNext 27 = .ok (.aload_n 0, 1) := by decide +kernel
theorem dS_canBeNext_28 : decode cS_canBeNext 28 = .ok (.getfield 9, 3) := by decide +kernel
theorem dS_canBeNext_31 : decode cS_canBeNext 31 = .ok (.iload 4, 2) := by decide +kernel
theorem dS_canBeNext_33 : decode cS_canBeNext 33 = .ok (.iconst 1, 1) := by decide +kernel
theorem dS_canBeNext_34 : decode cS_canBeNext 34 = .ok (.isub, 1) := by decide +kernel
theorem dS_canBeNext_35 : decode cS_canBeNext 35 = .ok (.iaload, 1) := by decide +kernel
theorem dS_canBeNext_36 : decode cS_canBeNext 36 = .ok (.iload_n 2, 1) := by decide +kernel
theorem dS_canBeNext_37 : decode cS_canBeNext 37 = .ok (.invokevirtual 78, 3) := by decide +kernel
theorem dS_canBeNext_40 : decode cS_canBeNext 40 = .ok (.ifCond .ne 7, 3) := by decide +kernel
theorem dS_canBeNext_43 : decode cS_canBeNext 43 = .ok (.iconst 1, 1) := by decide +kernel
theorem dS_canBeNext_44 : decode cS_canBeNext 44 = .ok (.goto 4, 3) := by decide +kernel
theorem dS_canBeNext_47 : decode cS_canBeNext 47 = .ok (.iconst 0, 1) := by decide +kernel
theorem dS_canBeNext_48 : decode cS_canBeNext 48 = .ok (.ireturn, 1) := by decide +kernel
theorem dS_goBy_0 : decode cS_goBy 0 = .ok (.aload_n 1, 1) := by decide +kernel
theorem dS_goBy_1 : decode cS_goBy 1 = .ok (.getfield 53, 3) := by decide +kernel
theorem dS_goBy_4 : decode cS_goBy 4 = .ok (.iload_n 2, 1) := by decide +kernel
theorem dS_goBy_5 : decode cS_goBy 5 = .ok (.iaload, 1) := by decide +kernel
theorem dS_goBy_6 : decode cS_goBy 6 = .ok (.istore 8, 2) := by decide +kernel
theorem dS_goBy_8 : decode cS_goBy 8 = .ok (.aload_n 1, 1) := by decide +kernel
theorem dS_goBy_9 : decode cS_goBy 9 = .ok (.iload_n 2, 1) := by decide +kernel
theorem dS_goBy_10 : decode cS_goBy 10 = .ok (.lload 4, 2) := by decide +kernel
theorem dS_goBy_12 : decode cS_goBy 12 = .ok (.invokevirtual 63, 3) := by decide +kernel
theorem dS_goBy_15 : decode cS_goBy 15 = .ok (.lstore 9, 2) := by decide +kernel
theorem dS_goBy_17 : decode cS_goBy 17 = .ok (.aload_n 0, 1) := by decide +kernel
theorem dS_goBy_18 : decode cS_goBy 18 = .ok (.getfield 9, 3) := by decide +kernel
theorem dS_goBy_21 : decode cS_goBy 21 = .ok (.iload_n 3, 1) := by decide +kernel
theorem dS_goBy_22 : decode cS_goBy 22 = .ok (.iload_n 2, 1) := by decide +kernel
theorem dS_goBy_23 : decode cS_goBy 23 = .ok (.iastore, 1) := by decide +kernel
theorem dS_goBy_24 : decode cS_goBy 24 = .ok (.iload 8, 2) := by decide +kernel
theorem dS_goBy_26 : decode cS_goBy 26 = .ok (.aload_n 0, 1) := by decide +kernel
theorem dS_goBy_27 : decode cS_goBy 27 = .ok (.getfield 29, 3) := by decide +kernel
theorem dS_goBy_30 : decode cS_goBy 30 = .ok (.if_icmp .ne 15, 3) := by decide +kernel
theorem dS_goBy_33 : decode cS_goBy 33 = .ok (.aload_n 0, 1) := by decide +kernel
theorem dS_goBy_34 : decode cS_goBy 34 = .ok (.iload_n 3, 1) := by decide +kernel
theorem dS_goBy_35 : decode cS_goBy 35 = .ok (.iconst 1, 1) := by decide +kernel
theorem dS_goBy_36 : decode cS_goBy 36 = .ok (.iadd, 1) := by decide +kernel
theorem dS_goBy_37 : decode cS_goBy 37 = .ok (.lload 9, 2) := by decide +kernel
theorem dS_goBy_39 : decode cS_goBy 39 = .ok (.invokevirtual 67, 3) := by decide +kernel
theorem dS_goBy_42 : decode cS_goBy 42 = .ok (.goto 33, 3) := by decide +kernel
theorem dS_goBy_45 : decode cS_goBy 45 = .ok (.aload_n 0, 1) := by decide +kernel
theorem dS_goBy_46 : decode cS_goBy 46 = .ok (.lload 9, 2) := by decide +kernel
theorem dS_goBy_48 : decode cS_goBy 48 = .ok (.invokevirtual 71, 3) := by decide +kernel
theorem dS_goBy_51 : decode cS_goBy 51 = .ok (.iconst 5, 1) := by decide +kernel
theorem dS_goBy_52 : decode cS_goBy 52 = .ok (.if_icmp .ge 23, 3) := by decide +kernel
theorem dS_goBy_55 : decode cS_goBy 55 = .ok (.aload_n 0, 1) := by decide +kernel
theorem dS_goBy_56 : decode cS_goBy 56 = .ok (.aload_n 1, 1) := by decide +kernel
theorem dS_goBy_57 : decode cS_goBy 57 = .ok (.iload 8, 2) := by decide +kernel
theorem dS_goBy_59 : decode cS_goBy 59 = .ok (.iload_n 3, 1) := by decide +kernel
theorem dS_goBy_60 : decode cS_goBy 60 = .ok (.iconst 1, 1) := by decide +kernel
theorem dS_goBy_61 : decode cS_goBy 61 = .ok (.iadd, 1) := by decide +kernel
theorem dS_goBy_62 : decode cS_goBy 62 = .ok (.lload 9, 2) := by decide +kernel
theorem dS_goBy_64 : decode cS_goBy 64 = .ok (.lload 6, 2) := by decide +kernel
theorem dS_goBy_66 : decode cS_goBy 66 = .ok (.iload 8, 2) := by decide +kernel
theorem dS_goBy_68 : decode cS_goBy 68 = .ok (.iconst 1, 1) := by decide +kernel
theorem dS_goBy_69 : decode cS_goBy 69 = .ok (.invokestatic 36, 3) := by decide +kernel
theorem dS_goBy_72 : decode cS_goBy 72 = .ok (.invokevirtual 40, 3) := by decide +kernel
theorem dS_goBy_75 : decode cS_goBy 75 = .ok (.return_, 1) := by decide +kernel
theorem dS_keep_0 : decode cS_keep 0 = .ok (.aload_n 0, 1) := by decide +kernel
theorem dS_keep_1 : decode cS_keep 1 = .ok (.lload_n 2, 1) := by decide +kernel
theorem dS_keep_2 : decode cS_keep 2 = .ok (.invokevirtual 71, 3) := by decide +kernel
theorem dS_keep_5 : decode cS_keep 5 = .ok (.istore 4, 2) := by decide +kernel
theorem dS_keep_7 : decode cS_keep 7 = .ok (.iload 4, 2) := by decide +kernel
theorem dS_keep_9 : decode cS_keep 9 = .ok (.iconst 5, 1) := by decide +kernel
theorem dS_keep_10 : decode cS_keep 10 = .ok (.if_icmp .lt 4, 3) := by decide +kernel
theorem dS_keep_13 : decode cS_keep 13 = .ok (.return_, 1) := by decide +kernel
theorem dS_keep_14 : decode cS_keep 14 = .ok (.iconst 4, 1) := by decide +kernel
theorem dS_keep_15 : decode cS_keep 15 = .ok (.istore 5, 2) := by decide +kernel
theorem dS_keep_17 : decode cS_keep 17 = .ok (.iload 5, 2) := by decide +kernel
theorem dS_keep_19 : decode cS_keep 19 = .ok (.iload 4, 2) := by decide +kernel
theorem dS_keep_21 : decode cS_keep 21 = .ok (.if_icmp .le 63, 3) := by decide +kernel
theorem dS_keep_24 : decode cS_keep 24 = .ok (.aload_n 0, 1) := by decide +kernel
theorem dS_keep_25 : decode cS_keep 25 = .ok (.getfield 21, 3) := by decide +kernel
theorem dS_keep_28 : decode cS_keep 28 = .ok (.iload 5, 2) := by decide +kernel
theorem dS_keep_30 : decode cS_keep 30 = .ok (.aload_n 0, 1) := by decide +kernel
theorem dS_keep_31 : decode cS_keep 31 = .ok (.getfield 21, 3) := by decide +kernel
theorem dS_keep_34 : decode cS_keep 34 = .ok (.iload 5, 2) := by decide +kernel
theorem dS_keep_36 : decode cS_keep 36 = .ok (.iconst 1, 1) := by decide +kernel
theorem dS_keep_37 : decode cS_keep 37 = .ok (.isub, 1) := by decide +kernel
theorem dS_keep_38 : decode cS_keep 38 = .ok (.laload, 1) := by decide +kernel
theorem dS_keep_39 : decode cS_keep 39 = .ok (.lastore, 1) := by decide +kernel
theorem dS_keep_40 : decode cS_keep 40 = .ok (.aload_n 0, 1) := by decide +kernel
theorem dS_keep_41 : decode cS_keep 41 = .ok (.getfield 18, 3) := by decide +kernel
theorem dS_keep_44 : decode cS_keep 44 = .ok (.iload 5, 2) := by decide +kernel
theorem dS_keep_46 : decode cS_keep 46 = .ok (.aload_n 0, 1) := by decide +kernel
theorem dS_keep_47 : decode cS_keep 47 = .ok (.getfield 18, 3) := by decide +kernel
theorem dS_keep_50 : decode cS_keep 50 = .ok (.iload 5, 2) := by decide +kernel
theorem dS_keep_52 : decode cS_keep 52 = .ok (.iconst 1, 1) := by decide +kernel
theorem dS_keep_53 : decode cS_keep 53 = .ok (.isub, 1) := by decide +kernel
theorem dS_keep_54 : decode cS_keep 54 = .ok (.iaload, 1) := by decide +kernel
theorem dS_keep_55 : decode cS_keep 55 = .ok (.iastore, 1) := by decide +kernel
theorem dS_keep_56 : decode cS_keep 56 = .ok (.aload_n 0, 1) := by decide +kernel
theorem dS_keep_57 : decode cS_keep 57 = .ok (.getfield 15, 3) := by decide +kernel
theorem dS_keep_60 : decode cS_keep 60 = .ok (.iload 5, 2) := by decide +kernel
theorem dS_keep_62 : decode cS_keep 62 = .ok (.iconst 1, 1) := by decide +kernel
theorem dS_keep_63 : decode cS_keep 63 = .ok (.isub, 1) := by decide +kernel
theorem dS_keep_64 : decode cS_keep 64 = .ok (.iconst 5, 1) := by decide +kernel
theorem dS_keep_65 : decode cS_keep 65 = .ok (.imul, 1) := by decide +kernel
theorem dS_keep_66 : decode cS_keep 66 = .ok (.aload_n 0, 1) := by decide +kernel
theorem dS_keep_67 : decode cS_keep 67 = .ok (.getfield 15, 3) := by decide +kernel
theorem dS_keep_70 : decode cS_keep 70 = .ok (.iload 5, 2) := by decide +kernel
theorem dS_keep_72 : decode cS_keep 72 = .ok (.iconst 5, 1) := by decide +kernel
theorem dS_keep_73 : decode cS_keep 73 = .ok (.imul, 1) := by decide +kernel
theorem dS_keep_74 : decode cS_keep 74 = .ok (.iconst 5, 1) := by decide +kernel
theorem dS_keep_75 : decode cS_keep 75 = .ok (.invokestatic 82, 3) := by decide +kernel
theorem dS_keep_78 : decode cS_keep 78 = .ok (.iinc 5 (-1), 3) := by decide +kernel
theorem dS_keep_81 : decode cS_keep 81 = .ok (.goto (-64), 3) := by decide +kernel
theorem dS_keep_84 : decode cS_keep 84 = .ok (.aload_n 0, 1) := by decide +kernel
theorem dS_keep_85 : decode cS_keep 85 = .ok (.getfield 21, 3) := by decide +kernel
theorem dS_keep_88 : decode cS_keep 88 = .ok (.iload 4, 2) := by decide +kernel
theorem dS_keep_90 : decode cS_keep 90 = .ok (.lload_n 2, 1) := by decide +kernel
theorem dS_keep_91 : decode cS_keep 91 = .ok (.lastore, 1) := by decide +kernel
theorem dS_keep_92 : decode cS_keep 92 = .ok (.aload_n 0, 1) := by decide +kernel
theorem dS_keep_93 : decode cS_keep 93 = .ok (.getfield 18, 3) := by decide +kernel
theorem dS_keep_96 : decode cS_keep 96 = .ok (.iload 4, 2) := by decide +kernel
theorem dS_keep_98 : decode cS_keep 98 = .ok (.iload_n 1, 1) := by decide +kernel
theorem dS_keep_99 : decode cS_keep 99 = .ok (.iastore, 1) := by decide +kernel
theorem dS_keep_100 : decode cS_keep 100 = .ok (.aload_n 0, 1) := by decide +kernel
theorem dS_keep_101 : decode cS_keep 101 = .ok (.getfield 9, 3) := by decide +kernel
theorem dS_keep_104 : decode cS_keep 104 = .ok (.iconst 0, 1) := by decide +kernel
theorem dS_keep_105 : decode cS_keep 105 = .ok (.aload_n 0, 1) := by decide +kernel
theorem dS_keep_106 : decode cS_keep 106 = .ok (.getfield 15, 3) := by decide +kernel
theorem dS_keep_109 : decode cS_keep 109 = .ok (.iload 4, 2) := by decide +kernel
theorem dS_keep_111 : decode cS_keep 111 = .ok (.iconst 5, 1) := by decide +kernel
theorem dS_keep_112 : decode cS_keep 112 = .ok (.imul, 1) := by decide +kernel
theorem dS_keep_113 : decode cS_keep 113 = .ok (.iload_n 1, 1) := by decide +kernel
theorem dS_keep_114 : decode cS_keep 114 = .ok (.invokestatic 82, 3) := by decide +kernel
theorem dS_keep_117 : decode cS_keep 117 = .ok (.aload_n 0, 1) := by decide +kernel
theorem dS_keep_118 : decode cS_keep 118 = .ok (.aload_n 0, 1) := by decide +kernel
theorem dS_keep_119 : decode cS_keep 119 = .ok (.getfield 33, 3) := by decide +kernel
theorem dS_keep_122 : decode cS_keep 122 = .ok (.iconst 1, 1) := by decide +kernel
theorem dS_keep_123 : decode cS_keep 123 = .ok (.iadd, 1) := by decide +kernel
theorem dS_keep_124 : decode cS_keep 124 = .ok (.iconst 5, 1) := by decide +kernel
theorem dS_keep_125 : decode cS_keep 125 = .ok (.invokestatic 88, 3) := by decide +kernel
theorem dS_keep_128 : decode cS_keep 128 = .ok (.putfield 33, 3) := by decide +kernel
theorem dS_keep_131 : decode cS_keep 131 = .ok (.return_, 1) := by decide +kernel
theorem dS_rankOf_0 : decode cS_rankOf 0 = .ok (.iconst 0, 1) := by decide +kernel
theorem dS_rankOf_1 : decode cS_rankOf 1 = .ok (.istore_n 3, 1) := by decide +kernel
theorem dS_rankOf_2 : decode cS_rankOf 2 = .ok (.iload_n 3, 1) := by decide +kernel
theorem dS_rankOf_3 : decode cS_rankOf 3 = .ok (.aload_n 0, 1) := by decide +kernel
theorem dS_rankOf_4 : decode cS_rankOf 4 = .ok (.getfield 33, 3) := by decide +kernel
theorem dS_rankOf_7 : decode cS_rankOf 7 = .ok (.if_icmp .ge 20, 3) := by decide +kernel
theorem dS_rankOf_10 : decode cS_rankOf 10 = .ok (.aload_n 0, 1) := by decide +kernel
theorem dS_rankOf_11 : decode cS_rankOf 11 = .ok (.getfield 21, 3) := by decide +kernel
theorem dS_rankOf_14 : decode cS_rankOf 14 = .ok (.iload_n 3, 1) := by decide +kernel
theorem dS_rankOf_15 : decode cS_rankOf 15 = .ok (.laload, 1) := by decide +kernel
theorem dS_rankOf_16 : decode cS_rankOf 16 = .ok (.lload_n 1, 1) := by decide +kernel
theorem dS_rankOf_17 : decode cS_rankOf 17 = .ok (.lcmp, 1) := by decide +kernel
theorem dS_rankOf_18 : decode cS_rankOf 18 = .ok (.ifCond .gt 9, 3) := by decide +kernel
theorem dS_rankOf_21 : decode cS_rankOf 21 = .ok (.iinc 3 1, 3) := by decide +kernel
theorem dS_rankOf_24 : decode cS_rankOf 24 = .ok (.goto (-22), 3) := by decide +kernel
theorem dS_rankOf_27 : decode cS_rankOf 27 = .ok (.iload_n 3, 1) := by decide +kernel
theorem dS_rankOf_28 : decode cS_rankOf 28 = .ok (.ireturn, 1) := by decide +kernel
theorem dJM_min_I_0 : decode cJM_min_I 0 = .ok (.iload_n 0, 1) := by decide +kernel
theorem dJM_min_I_1 : decode cJM_min_I 1 = .ok (.iload_n 1, 1) := by decide +kernel
theorem dJM_min_I_2 : decode cJM_min_I 2 = .ok (.if_icmp .gt 7, 3) := by decide +kernel
theorem dJM_min_I_5 : decode cJM_min_I 5 = .ok (.iload_n 0, 1) := by decide +kernel
theorem dJM_min_I_6 : decode cJM_min_I 6 = .ok (.goto 4, 3) := by decide +kernel
theorem dJM_min_I_9 : decode cJM_min_I 9 = .ok (.iload_n 1, 1) := by decide +kernel
theorem dJM_min_I_10 : decode cJM_min_I 10 = .ok (.ireturn, 1) := by decide +kernel
theorem dS_writeWay_0 : decode cS_writeWay 0 = .ok (.iconst 0, 1) := by decide +kernel
theorem dS_writeWay_1 : decode cS_writeWay 1 = .ok (.istore_n 3, 1) := by decide +kernel
theorem dS_writeWay_2 : decode cS_writeWay 2 = .ok (.iload_n 3, 1) := by decide +kernel
theorem dS_writeWay_3 : decode cS_writeWay 3 = .ok (.aload_n 0, 1) := by decide +kernel
theorem dS_writeWay_4 : decode cS_writeWay 4 = .ok (.getfield 18, 3) := by decide +kernel
theorem dS_writeWay_7 : decode cS_writeWay 7 = .ok (.iload_n 1, 1) := by decide +kernel
theorem dS_writeWay_8 : decode cS_writeWay 8 = .ok (.iaload, 1) := by decide +kernel
theorem dS_writeWay_9 : decode cS_writeWay 9 = .ok (.if_icmp .ge 23, 3) := by decide +kernel
theorem dS_writeWay_12 : decode cS_writeWay 12 = .ok (.aload_n 2, 1) := by decide +kernel
theorem dS_writeWay_13 : decode cS_writeWay 13 = .ok (.aload_n 0, 1) := by decide +kernel
theorem dS_writeWay_14 : decode cS_writeWay 14 = .ok (.getfield 15, 3) := by decide +kernel
theorem dS_writeWay_17 : decode cS_writeWay 17 = .ok (.iload_n 1, 1) := by decide +kernel
theorem dS_writeWay_18 : decode cS_writeWay 18 = .ok (.iconst 5, 1) := by decide +kernel
theorem dS_writeWay_19 : decode cS_writeWay 19 = .ok (.imul, 1) := by decide +kernel
theorem dS_writeWay_20 : decode cS_writeWay 20 = .ok (.iload_n 3, 1) := by decide +kernel
theorem dS_writeWay_21 : decode cS_writeWay 21 = .ok (.iadd, 1) := by decide +kernel
theorem dS_writeWay_22 : decode cS_writeWay 22 = .ok (.iaload, 1) := by decide +kernel
theorem dS_writeWay_23 : decode cS_writeWay 23 = .ok (.invokevirtual 94, 3) := by decide +kernel
theorem dS_writeWay_26 : decode cS_writeWay 26 = .ok (.iinc 3 1, 3) := by decide +kernel
theorem dS_writeWay_29 : decode cS_writeWay 29 = .ok (.goto (-27), 3) := by decide +kernel
theorem dS_writeWay_32 : decode cS_writeWay 32 = .ok (.return_, 1) := by decide +kernel
theorem dW_told_0 : decode cW_told 0 = .ok (.aload_n 3, 1) := by decide +kernel
theorem dW_told_1 : decode cW_told 1 = .ok (.iconst 0, 1) := by decide +kernel
theorem dW_told_2 : decode cW_told 2 = .ok (.aload_n 0, 1) := by decide +kernel
theorem dW_told_3 : decode cW_told 3 = .ok (.iload_n 1, 1) := by decide +kernel
theorem dW_told_4 : decode cW_told 4 = .ok (.iload_n 2, 1) := by decide +kernel
theorem dW_told_5 : decode cW_told 5 = .ok (.invokevirtual 67, 3) := by decide +kernel
theorem dW_told_8 : decode cW_told 8 = .ok (.lastore, 1) := by decide +kernel
theorem dW_told_9 : decode cW_told 9 = .ok (.goto 7, 3) := by decide +kernel
theorem dW_told_12 : decode cW_told 12 = .ok (.astore 4, 2) := by decide +kernel
theorem dW_told_14 : decode cW_told 14 = .ok (.iconst 1, 1) := by decide +kernel
theorem dW_told_15 : decode cW_told 15 = .ok (.ireturn, 1) := by decide +kernel
theorem dW_told_16 : decode cW_told 16 = .ok (.iconst 0, 1) := by decide +kernel
theorem dW_told_17 : decode cW_told 17 = .ok (.ireturn, 1) := by decide +kernel
theorem dG_told_0 : decode cG_told 0 = .ok (.aload_n 0, 1) := by decide +kernel
theorem dG_told_1 : decode cG_told 1 = .ok (.getfield 16, 3) := by decide +kernel
theorem dG_told_4 : decode cG_told 4 = .ok (.iload_n 1, 1) := by decide +kernel
theorem dG_told_5 : decode cG_told 5 = .ok (.invokevirtual 103, 3) := by decide +kernel
theorem dG_told_8 : decode cG_told 8 = .ok (.ifCond .ne 13, 3) := by decide +kernel
theorem dG_told_11 : decode cG_told 11 = .ok (.new 57, 3) := by decide +kernel
theorem dG_told_14 : decode cG_told 14 = .ok (.dup, 1) := by decide +kernel
theorem dG_told_15 : decode cG_told 15 = .ok (.ldc 129, 2) := by decide +kernel
theorem dG_told_17 : decode cG_told 17 = .ok (.invokespecial 61, 3) := by decide +kernel
theorem dG_told_20 : decode cG_told 20 = .ok (.athrow, 1) := by decide +kernel
theorem dG_told_21 : decode cG_told 21 = .ok (.iload_n 2, 1) := by decide +kernel
theorem dG_told_22 : decode cG_told 22 = .ok (.tableswitch 125 0 6 #[42, 53, 64, 74, 94, 104, 115], 42) := by decide +kernel
theorem dG_told_64 : decode cG_told 64 = .ok (.aload_n 0, 1) := by decide +kernel
theorem dG_told_65 : decode cG_told 65 = .ok (.getfield 16, 3) := by decide +kernel
theorem dG_told_68 : decode cG_told 68 = .ok (.getfield 145, 3) := by decide +kernel
theorem dG_told_71 : decode cG_told 71 = .ok (.iload_n 1, 1) := by decide +kernel
theorem dG_told_72 : decode cG_told 72 = .ok (.iaload, 1) := by decide +kernel
theorem dG_told_73 : decode cG_told 73 = .ok (.i2l, 1) := by decide +kernel
theorem dG_told_74 : decode cG_told 74 = .ok (.lreturn, 1) := by decide +kernel
theorem dG_told_75 : decode cG_told 75 = .ok (.aload_n 0, 1) := by decide +kernel
theorem dG_told_76 : decode cG_told 76 = .ok (.getfield 16, 3) := by decide +kernel
theorem dG_told_79 : decode cG_told 79 = .ok (.getfield 148, 3) := by decide +kernel
theorem dG_told_82 : decode cG_told 82 = .ok (.iload_n 1, 1) := by decide +kernel
theorem dG_told_83 : decode cG_told 83 = .ok (.iaload, 1) := by decide +kernel
theorem dG_told_84 : decode cG_told 84 = .ok (.i2l, 1) := by decide +kernel
theorem dG_told_85 : decode cG_told 85 = .ok (.lreturn, 1) := by decide +kernel
theorem dG_told_86 : decode cG_told 86 = .ok (.aload_n 0, 1) := by decide +kernel
theorem dG_told_87 : decode cG_told 87 = .ok (.getfield 16, 3) := by decide +kernel
theorem dG_told_90 : decode cG_told 90 = .ok (.getfield 232, 3) := by decide +kernel
theorem dG_told_93 : decode cG_told 93 = .ok (.iload_n 1, 1) := by decide +kernel
theorem dG_told_94 : decode cG_told 94 = .ok (.laload, 1) := by decide +kernel
theorem dG_told_95 : decode cG_told 95 = .ok (.lreturn, 1) := by decide +kernel
theorem dG_told_96 : decode cG_told 96 = .ok (.aload_n 0, 1) := by decide +kernel
theorem dG_told_97 : decode cG_told 97 = .ok (.getfield 16, 3) := by decide +kernel
theorem dG_told_100 : decode cG_told 100 = .ok (.getfield 131, 3) := by decide +kernel
theorem dG_told_103 : decode cG_told 103 = .ok (.iload_n 1, 1) := by decide +kernel
theorem dG_told_104 : decode cG_told 104 = .ok (.invokestatic 235, 3) := by decide +kernel
theorem dG_told_107 : decode cG_told 107 = .ok (.ifCond .eq 7, 3) := by decide +kernel
theorem dG_told_110 : decode cG_told 110 = .ok (.lconst 1, 1) := by decide +kernel
theorem dG_told_111 : decode cG_told 111 = .ok (.goto 4, 3) := by decide +kernel
theorem dG_told_114 : decode cG_told 114 = .ok (.lconst 0, 1) := by decide +kernel
theorem dG_told_115 : decode cG_told 115 = .ok (.lreturn, 1) := by decide +kernel
theorem dG_told_116 : decode cG_told 116 = .ok (.aload_n 0, 1) := by decide +kernel
theorem dG_told_117 : decode cG_told 117 = .ok (.getfield 16, 3) := by decide +kernel
theorem dG_told_120 : decode cG_told 120 = .ok (.getfield 164, 3) := by decide +kernel
theorem dG_told_123 : decode cG_told 123 = .ok (.iload_n 1, 1) := by decide +kernel
theorem dG_told_124 : decode cG_told 124 = .ok (.laload, 1) := by decide +kernel
theorem dG_told_125 : decode cG_told 125 = .ok (.lreturn, 1) := by decide +kernel
theorem dG_told_126 : decode cG_told 126 = .ok (.aload_n 0, 1) := by decide +kernel
theorem dG_told_127 : decode cG_told 127 = .ok (.getfield 16, 3) := by decide +kernel
theorem dG_told_130 : decode cG_told 130 = .ok (.getfield 112, 3) := by decide +kernel
theorem dG_told_133 : decode cG_told 133 = .ok (.iload_n 1, 1) := by decide +kernel
theorem dG_told_134 : decode cG_told 134 = .ok (.iaload, 1) := by decide +kernel
theorem dG_told_135 : decode cG_told 135 = .ok (.i2l, 1) := by decide +kernel
theorem dG_told_136 : decode cG_told 136 = .ok (.lreturn, 1) := by decide +kernel
theorem dG_told_137 : decode cG_told 137 = .ok (.aload_n 0, 1) := by decide +kernel
theorem dG_told_138 : decode cG_told 138 = .ok (.getfield 16, 3) := by decide +kernel
theorem dG_told_141 : decode cG_told 141 = .ok (.getfield 115, 3) := by decide +kernel
theorem dG_told_144 : decode cG_told 144 = .ok (.iload_n 1, 1) := by decide +kernel
theorem dG_told_145 : decode cG_told 145 = .ok (.laload, 1) := by decide +kernel
theorem dG_told_146 : decode cG_told 146 = .ok (.lreturn, 1) := by decide +kernel
theorem dG_told_147 : decode cG_told 147 = .ok (.new 57, 3) := by decide +kernel
theorem dG_told_150 : decode cG_told 150 = .ok (.dup, 1) := by decide +kernel
theorem dG_told_151 : decode cG_told 151 = .ok (.ldc 239, 2) := by decide +kernel
theorem dG_told_153 : decode cG_told 153 = .ok (.invokespecial 61, 3) := by decide +kernel
theorem dG_told_156 : decode cG_told 156 = .ok (.athrow, 1) := by decide +kernel
theorem dM_init_0 : decode cM_init 0 = .ok (.aload_n 0, 1) := by decide +kernel
theorem dM_init_1 : decode cM_init 1 = .ok (.invokespecial 1, 3) := by decide +kernel
theorem dM_init_4 : decode cM_init 4 = .ok (.aload_n 0, 1) := by decide +kernel
theorem dM_init_5 : decode cM_init 5 = .ok (.bipush 20, 2) := by decide +kernel
theorem dM_init_7 : decode cM_init 7 = .ok (.newarray .int, 2) := by decide +kernel
theorem dM_init_9 : decode cM_init 9 = .ok (.putfield 7, 3) := by decide +kernel
theorem dM_init_12 : decode cM_init 12 = .ok (.aload_n 0, 1) := by decide +kernel
theorem dM_init_13 : decode cM_init 13 = .ok (.bipush 40, 2) := by decide +kernel
theorem dM_init_15 : decode cM_init 15 = .ok (.newarray .int, 2) := by decide +kernel
theorem dM_init_17 : decode cM_init 17 = .ok (.putfield 13, 3) := by decide +kernel
theorem dM_init_20 : decode cM_init 20 = .ok (.aload_n 0, 1) := by decide +kernel
theorem dM_init_21 : decode cM_init 21 = .ok (.bipush 40, 2) := by decide +kernel
theorem dM_init_23 : decode cM_init 23 = .ok (.newarray .int, 2) := by decide +kernel
theorem dM_init_25 : decode cM_init 25 = .ok (.putfield 16, 3) := by decide +kernel
theorem dM_init_28 : decode cM_init 28 = .ok (.aload_n 0, 1) := by decide +kernel
theorem dM_init_29 : decode cM_init 29 = .ok (.bipush 40, 2) := by decide +kernel
theorem dM_init_31 : decode cM_init 31 = .ok (.newarray .long, 2) := by decide +kernel
theorem dM_init_33 : decode cM_init 33 = .ok (.putfield 19, 3) := by decide +kernel
theorem dM_init_36 : decode cM_init 36 = .ok (.aload_n 0, 1) := by decide +kernel
theorem dM_init_37 : decode cM_init 37 = .ok (.bipush 40, 2) := by decide +kernel
theorem dM_init_39 : decode cM_init 39 = .ok (.newarray .int, 2) := by decide +kernel
theorem dM_init_41 : decode cM_init 41 = .ok (.putfield 23, 3) := by decide +kernel
theorem dM_init_44 : decode cM_init 44 = .ok (.aload_n 0, 1) := by decide +kernel
theorem dM_init_45 : decode cM_init 45 = .ok (.bipush 40, 2) := by decide +kernel
theorem dM_init_47 : decode cM_init 47 = .ok (.newarray .int, 2) := by decide +kernel
theorem dM_init_49 : decode cM_init 49 = .ok (.putfield 26, 3) := by decide +kernel
theorem dM_init_52 : decode cM_init 52 = .ok (.aload_n 0, 1) := by decide +kernel
theorem dM_init_53 : decode cM_init 53 = .ok (.bipush 40, 2) := by decide +kernel
theorem dM_init_55 : decode cM_init 55 = .ok (.newarray .boolean, 2) := by decide +kernel
theorem dM_init_57 : decode cM_init 57 = .ok (.putfield 29, 3) := by decide +kernel
theorem dM_init_60 : decode cM_init 60 = .ok (.aload_n 0, 1) := by decide +kernel
theorem dM_init_61 : decode cM_init 61 = .ok (.bipush 40, 2) := by decide +kernel
theorem dM_init_63 : decode cM_init 63 = .ok (.newarray .int, 2) := by decide +kernel
theorem dM_init_65 : decode cM_init 65 = .ok (.putfield 33, 3) := by decide +kernel
theorem dM_init_68 : decode cM_init 68 = .ok (.aload_n 0, 1) := by decide +kernel
theorem dM_init_69 : decode cM_init 69 = .ok (.sipush 1600, 3) := by decide +kernel
theorem dM_init_72 : decode cM_init 72 = .ok (.newarray .boolean, 2) := by decide +kernel
theorem dM_init_74 : decode cM_init 74 = .ok (.putfield 36, 3) := by decide +kernel
theorem dM_init_77 : decode cM_init 77 = .ok (.aload_n 0, 1) := by decide +kernel
theorem dM_init_78 : decode cM_init 78 = .ok (.bipush 6, 2) := by decide +kernel
theorem dM_init_80 : decode cM_init 80 = .ok (.newarray .int, 2) := by decide +kernel
theorem dM_init_82 : decode cM_init 82 = .ok (.putfield 39, 3) := by decide +kernel
theorem dM_init_85 : decode cM_init 85 = .ok (.aload_n 0, 1) := by decide +kernel
theorem dM_init_86 : decode cM_init 86 = .ok (.bipush 6, 2) := by decide +kernel
theorem dM_init_88 : decode cM_init 88 = .ok (.newarray .int, 2) := by decide +kernel
theorem dM_init_90 : decode cM_init 90 = .ok (.putfield 42, 3) := by decide +kernel
theorem dM_init_93 : decode cM_init 93 = .ok (.aload_n 0, 1) := by decide +kernel
theorem dM_init_94 : decode cM_init 94 = .ok (.bipush 8, 2) := by decide +kernel
theorem dM_init_96 : decode cM_init 96 = .ok (.newarray .int, 2) := by decide +kernel
theorem dM_init_98 : decode cM_init 98 = .ok (.putfield 45, 3) := by decide +kernel
theorem dM_init_101 : decode cM_init 101 = .ok (.aload_n 0, 1) := by decide +kernel
theorem dM_init_102 : decode cM_init 102 = .ok (.bipush 40, 2) := by decide +kernel
theorem dM_init_104 : decode cM_init 104 = .ok (.newarray .long, 2) := by decide +kernel
theorem dM_init_106 : decode cM_init 106 = .ok (.putfield 48, 3) := by decide +kernel
theorem dM_init_109 : decode cM_init 109 = .ok (.aload_n 0, 1) := by decide +kernel
theorem dM_init_110 : decode cM_init 110 = .ok (.bipush 40, 2) := by decide +kernel
theorem dM_init_112 : decode cM_init 112 = .ok (.newarray .int, 2) := by decide +kernel
theorem dM_init_114 : decode cM_init 114 = .ok (.putfield 51, 3) := by decide +kernel
theorem dM_init_117 : decode cM_init 117 = .ok (.aload_n 0, 1) := by decide +kernel
theorem dM_init_118 : decode cM_init 118 = .ok (.iconst 5, 1) := by decide +kernel
theorem dM_init_119 : decode cM_init 119 = .ok (.newarray .long, 2) := by decide +kernel
theorem dM_init_121 : decode cM_init 121 = .ok (.putfield 54, 3) := by decide +kernel
theorem dM_init_124 : decode cM_init 124 = .ok (.aload_n 0, 1) := by decide +kernel
theorem dM_init_125 : decode cM_init 125 = .ok (.iconst 5, 1) := by decide +kernel
theorem dM_init_126 : decode cM_init 126 = .ok (.newarray .int, 2) := by decide +kernel
theorem dM_init_128 : decode cM_init 128 = .ok (.putfield 57, 3) := by decide +kernel
theorem dM_init_131 : decode cM_init 131 = .ok (.aload_n 0, 1) := by decide +kernel
theorem dM_init_132 : decode cM_init 132 = .ok (.bipush 25, 2) := by decide +kernel
theorem dM_init_134 : decode cM_init 134 = .ok (.newarray .int, 2) := by decide +kernel
theorem dM_init_136 : decode cM_init 136 = .ok (.putfield 60, 3) := by decide +kernel
theorem dM_init_139 : decode cM_init 139 = .ok (.aload_n 0, 1) := by decide +kernel
theorem dM_init_140 : decode cM_init 140 = .ok (.bipush 6, 2) := by decide +kernel
theorem dM_init_142 : decode cM_init 142 = .ok (.newarray .int, 2) := by decide +kernel
theorem dM_init_144 : decode cM_init 144 = .ok (.putfield 63, 3) := by decide +kernel
theorem dM_init_147 : decode cM_init 147 = .ok (.aload_n 0, 1) := by decide +kernel
theorem dM_init_148 : decode cM_init 148 = .ok (.bipush 6, 2) := by decide +kernel
theorem dM_init_150 : decode cM_init 150 = .ok (.newarray .long, 2) := by decide +kernel
theorem dM_init_152 : decode cM_init 152 = .ok (.putfield 66, 3) := by decide +kernel
theorem dM_init_155 : decode cM_init 155 = .ok (.return_, 1) := by decide +kernel
theorem dM_thrown_0 : decode cM_thrown 0 = .ok (.aload_n 0, 1) := by decide +kernel

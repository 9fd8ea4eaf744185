theorem dG_init_0 : decode cG_init 0 = .ok (.aload_n 0, 1) := by decide +kernel
theorem dG_init_1 : decode cG_init 1 = .ok (.invokespecial 3, 3) := by decide +kernel
theorem dG_init_4 : decode cG_init 4 = .ok (.aload_n 0, 1) := by decide +kernel
theorem dG_init_5 : decode cG_init 5 = .ok (.bipush 20, 2) := by decide +kernel
theorem dG_init_7 : decode cG_init 7 = .ok (.newarray .int, 2) := by decide +kernel
theorem dG_init_9 : decode cG_init 9 = .ok (.putfield 9, 3) := by decide +kernel
theorem dG_init_12 : decode cG_init 12 = .ok (.aload_n 0, 1) := by decide +kernel
theorem dG_init_13 : decode cG_init 13 = .ok (.new 13, 3) := by decide +kernel
theorem dG_init_16 : decode cG_init 16 = .ok (.dup, 1) := by decide +kernel
theorem dG_init_17 : decode cG_init 17 = .ok (.invokespecial 15, 3) := by decide +kernel
theorem dG_init_20 : decode cG_init 20 = .ok (.putfield 16, 3) := by decide +kernel
theorem dG_init_23 : decode cG_init 23 = .ok (.aload_n 0, 1) := by decide +kernel
theorem dG_init_24 : decode cG_init 24 = .ok (.bipush 6, 2) := by decide +kernel
theorem dG_init_26 : decode cG_init 26 = .ok (.newarray .int, 2) := by decide +kernel
theorem dG_init_28 : decode cG_init 28 = .ok (.putfield 20, 3) := by decide +kernel
theorem dG_init_31 : decode cG_init 31 = .ok (.aload_n 0, 1) := by decide +kernel
theorem dG_init_32 : decode cG_init 32 = .ok (.bipush 6, 2) := by decide +kernel
theorem dG_init_34 : decode cG_init 34 = .ok (.newarray .long, 2) := by decide +kernel
theorem dG_init_36 : decode cG_init 36 = .ok (.putfield 23, 3) := by decide +kernel
theorem dG_init_39 : decode cG_init 39 = .ok (.aload_n 0, 1) := by decide +kernel
theorem dG_init_40 : decode cG_init 40 = .ok (.bipush 8, 2) := by decide +kernel
theorem dG_init_42 : decode cG_init 42 = .ok (.newarray .int, 2) := by decide +kernel
theorem dG_init_44 : decode cG_init 44 = .ok (.putfield 27, 3) := by decide +kernel
theorem dG_init_47 : decode cG_init 47 = .ok (.aload_n 0, 1) := by decide +kernel
theorem dG_init_48 : decode cG_init 48 = .ok (.new 30, 3) := by decide +kernel
theorem dG_init_51 : decode cG_init 51 = .ok (.dup, 1) := by decide +kernel
theorem dG_init_52 : decode cG_init 52 = .ok (.invokespecial 32, 3) := by decide +kernel
theorem dG_init_55 : decode cG_init 55 = .ok (.putfield 33, 3) := by decide +kernel
theorem dG_init_58 : decode cG_init 58 = .ok (.aload_n 0, 1) := by decide +kernel
theorem dG_init_59 : decode cG_init 59 = .ok (.new 37, 3) := by decide +kernel
theorem dG_init_62 : decode cG_init 62 = .ok (.dup, 1) := by decide +kernel
theorem dG_init_63 : decode cG_init 63 = .ok (.invokespecial 39, 3) := by decide +kernel
theorem dG_init_66 : decode cG_init 66 = .ok (.putfield 40, 3) := by decide +kernel
theorem dG_init_69 : decode cG_init 69 = .ok (.aload_n 0, 1) := by decide +kernel
theorem dG_init_70 : decode cG_init 70 = .ok (.new 44, 3) := by decide +kernel
theorem dG_init_73 : decode cG_init 73 = .ok (.dup, 1) := by decide +kernel
theorem dG_init_74 : decode cG_init 74 = .ok (.invokespecial 46, 3) := by decide +kernel
theorem dG_init_77 : decode cG_init 77 = .ok (.putfield 47, 3) := by decide +kernel
theorem dG_init_80 : decode cG_init 80 = .ok (.return_, 1) := by decide +kernel
theorem dP_init_0 : decode cP_init 0 = .ok (.aload_n 0, 1) := by decide +kernel
theorem dP_init_1 : decode cP_init 1 = .ok (.invokespecial 3, 3) := by decide +kernel
theorem dP_init_4 : decode cP_init 4 = .ok (.aload_n 0, 1) := by decide +kernel
theorem dP_init_5 : decode cP_init 5 = .ok (.bipush 40, 2) := by decide +kernel
theorem dP_init_7 : decode cP_init 7 = .ok (.newarray .int, 2) := by decide +kernel
theorem dP_init_9 : decode cP_init 9 = .ok (.putfield 9, 3) := by decide +kernel
theorem dP_init_12 : decode cP_init 12 = .ok (.aload_n 0, 1) := by decide +kernel
theorem dP_init_13 : decode cP_init 13 = .ok (.bipush 40, 2) := by decide +kernel
theorem dP_init_15 : decode cP_init 15 = .ok (.newarray .int, 2) := by decide +kernel
theorem dP_init_17 : decode cP_init 17 = .ok (.putfield 15, 3) := by decide +kernel
theorem dP_init_20 : decode cP_init 20 = .ok (.aload_n 0, 1) := by decide +kernel
theorem dP_init_21 : decode cP_init 21 = .ok (.bipush 40, 2) := by decide +kernel
theorem dP_init_23 : decode cP_init 23 = .ok (.newarray .long, 2) := by decide +kernel
theorem dP_init_25 : decode cP_init 25 = .ok (.putfield 18, 3) := by decide +kernel
theorem dP_init_28 : decode cP_init 28 = .ok (.aload_n 0, 1) := by decide +kernel
theorem dP_init_29 : decode cP_init 29 = .ok (.bipush 40, 2) := by decide +kernel
theorem dP_init_31 : decode cP_init 31 = .ok (.newarray .int, 2) := by decide +kernel
theorem dP_init_33 : decode cP_init 33 = .ok (.putfield 22, 3) := by decide +kernel
theorem dP_init_36 : decode cP_init 36 = .ok (.aload_n 0, 1) := by decide +kernel
theorem dP_init_37 : decode cP_init 37 = .ok (.bipush 40, 2) := by decide +kernel
theorem dP_init_39 : decode cP_init 39 = .ok (.newarray .long, 2) := by decide +kernel
theorem dP_init_41 : decode cP_init 41 = .ok (.putfield 25, 3) := by decide +kernel
theorem dP_init_44 : decode cP_init 44 = .ok (.aload_n 0, 1) := by decide +kernel
theorem dP_init_45 : decode cP_init 45 = .ok (.bipush 40, 2) := by decide +kernel
theorem dP_init_47 : decode cP_init 47 = .ok (.newarray .long, 2) := by decide +kernel
theorem dP_init_49 : decode cP_init 49 = .ok (.putfield 28, 3) := by decide +kernel
theorem dP_init_52 : decode cP_init 52 = .ok (.aload_n 0, 1) := by decide +kernel
theorem dP_init_53 : decode cP_init 53 = .ok (.bipush 40, 2) := by decide +kernel
theorem dP_init_55 : decode cP_init 55 = .ok (.newarray .long, 2) := by decide +kernel
theorem dP_init_57 : decode cP_init 57 = .ok (.putfield 31, 3) := by decide +kernel
theorem dP_init_60 : decode cP_init 60 = .ok (.return_, 1) := by decide +kernel
theorem dL_init_0 : decode cL_init 0 = .ok (.aload_n 0, 1) := by decide +kernel
theorem dL_init_1 : decode cL_init 1 = .ok (.invokespecial 3, 3) := by decide +kernel
theorem dL_init_4 : decode cL_init 4 = .ok (.aload_n 0, 1) := by decide +kernel
theorem dL_init_5 : decode cL_init 5 = .ok (.bipush 40, 2) := by decide +kernel
theorem dL_init_7 : decode cL_init 7 = .ok (.newarray .long, 2) := by decide +kernel
theorem dL_init_9 : decode cL_init 9 = .ok (.putfield 9, 3) := by decide +kernel
theorem dL_init_12 : decode cL_init 12 = .ok (.return_, 1) := by decide +kernel
theorem dS_init_0 : decode cS_init 0 = .ok (.aload_n 0, 1) := by decide +kernel
theorem dS_init_1 : decode cS_init 1 = .ok (.invokespecial 3, 3) := by decide +kernel
theorem dS_init_4 : decode cS_init 4 = .ok (.aload_n 0, 1) := by decide +kernel
theorem dS_init_5 : decode cS_init 5 = .ok (.iconst 5, 1) := by decide +kernel
theorem dS_init_6 : decode cS_init 6 = .ok (.newarray .int, 2) := by decide +kernel
theorem dS_init_8 : decode cS_init 8 = .ok (.putfield 9, 3) := by decide +kernel
theorem dS_init_11 : decode cS_init 11 = .ok (.aload_n 0, 1) := by decide +kernel
theorem dS_init_12 : decode cS_init 12 = .ok (.bipush 25, 2) := by decide +kernel
theorem dS_init_14 : decode cS_init 14 = .ok (.newarray .int, 2) := by decide +kernel
theorem dS_init_16 : decode cS_init 16 = .ok (.putfield 15, 3) := by decide +kernel
theorem dS_init_19 : decode cS_init 19 = .ok (.aload_n 0, 1) := by decide +kernel
theorem dS_init_20 : decode cS_init 20 = .ok (.iconst 5, 1) := by decide +kernel
theorem dS_init_21 : decode cS_init 21 = .ok (.newarray .int, 2) := by decide +kernel
theorem dS_init_23 : decode cS_init 23 = .ok (.putfield 18, 3) := by decide +kernel
theorem dS_init_26 : decode cS_init 26 = .ok (.aload_n 0, 1) := by decide +kernel
theorem dS_init_27 : decode cS_init 27 = .ok (.iconst 5, 1) := by decide +kernel
theorem dS_init_28 : decode cS_init 28 = .ok (.newarray .long, 2) := by decide +kernel
theorem dS_init_30 : decode cS_init 30 = .ok (.putfield 21, 3) := by decide +kernel
theorem dS_init_33 : decode cS_init 33 = .ok (.return_, 1) := by decide +kernel
theorem dR_init_0 : decode cR_init 0 = .ok (.aload_n 0, 1) := by decide +kernel
theorem dR_init_1 : decode cR_init 1 = .ok (.invokespecial 3, 3) := by decide +kernel
theorem dR_init_4 : decode cR_init 4 = .ok (.aload_n 0, 1) := by decide +kernel
theorem dR_init_5 : decode cR_init 5 = .ok (.bipush 40, 2) := by decide +kernel
theorem dR_init_7 : decode cR_init 7 = .ok (.newarray .int, 2) := by decide +kernel
theorem dR_init_9 : decode cR_init 9 = .ok (.putfield 9, 3) := by decide +kernel
theorem dR_init_12 : decode cR_init 12 = .ok (.return_, 1) := by decide +kernel
theorem dG_step_0 : decode cG_step 0 = .ok (.aload_n 0, 1) := by decide +kernel
theorem dG_step_1 : decode cG_step 1 = .ok (.getfield 47, 3) := by decide +kernel
theorem dG_step_4 : decode cG_step 4 = .ok (.iload_n 1, 1) := by decide +kernel
theorem dG_step_5 : decode cG_step 5 = .ok (.invokevirtual 185, 3) := by decide +kernel
theorem dG_step_8 : decode cG_step 8 = .ok (.ireturn, 1) := by decide +kernel
theorem dR_at_0 : decode cR_at 0 = .ok (.iload_n 1, 1) := by decide +kernel
theorem dR_at_1 : decode cR_at 1 = .ok (.ifCond .lt 20, 3) := by decide +kernel
theorem dR_at_4 : decode cR_at 4 = .ok (.iload_n 1, 1) := by decide +kernel
theorem dR_at_5 : decode cR_at 5 = .ok (.aload_n 0, 1) := by decide +kernel
theorem dR_at_6 : decode cR_at 6 = .ok (.getfield 15, 3) := by decide +kernel
theorem dR_at_9 : decode cR_at 9 = .ok (.if_icmp .ge 12, 3) := by decide +kernel
theorem dR_at_12 : decode cR_at 12 = .ok (.aload_n 0, 1) := by decide +kernel
theorem dR_at_13 : decode cR_at 13 = .ok (.getfield 9, 3) := by decide +kernel
theorem dR_at_16 : decode cR_at 16 = .ok (.iload_n 1, 1) := by decide +kernel
theorem dR_at_17 : decode cR_at 17 = .ok (.iaload, 1) := by decide +kernel
theorem dR_at_18 : decode cR_at 18 = .ok (.goto 4, 3) := by decide +kernel
theorem dR_at_21 : decode cR_at 21 = .ok (.iconst (-1), 1) := by decide +kernel
theorem dR_at_22 : decode cR_at 22 = .ok (.ireturn, 1) := by decide +kernel
theorem dG_count_0 : decode cG_count 0 = .ok (.iload_n 1, 1) := by decide +kernel
theorem dG_count_1 : decode cG_count 1 = .ok (.tableswitch 66 0 4 #[35, 40, 48, 53, 58], 35) := by decide +kernel
theorem dG_count_36 : decode cG_count 36 = .ok (.aload_n 0, 1) := by decide +kernel
theorem dG_count_37 : decode cG_count 37 = .ok (.getfield 64, 3) := by decide +kernel
theorem dG_count_40 : decode cG_count 40 = .ok (.ireturn, 1) := by decide +kernel
theorem dG_count_41 : decode cG_count 41 = .ok (.aload_n 0, 1) := by decide +kernel
theorem dG_count_42 : decode cG_count 42 = .ok (.getfield 16, 3) := by decide +kernel
theorem dG_count_45 : decode cG_count 45 = .ok (.getfield 90, 3) := by decide +kernel
theorem dG_count_48 : decode cG_count 48 = .ok (.ireturn, 1) := by decide +kernel
theorem dG_count_49 : decode cG_count 49 = .ok (.aload_n 0, 1) := by decide +kernel
theorem dG_count_50 : decode cG_count 50 = .ok (.getfield 120, 3) := by decide +kernel
theorem dG_count_53 : decode cG_count 53 = .ok (.ireturn, 1) := by decide +kernel
theorem dG_count_54 : decode cG_count 54 = .ok (.aload_n 0, 1) := by decide +kernel
theorem dG_count_55 : decode cG_count 55 = .ok (.getfield 201, 3) := by decide +kernel
theorem dG_count_58 : decode cG_count 58 = .ok (.ireturn, 1) := by decide +kernel
theorem dG_count_59 : decode cG_count 59 = .ok (.aload_n 0, 1) := by decide +kernel
theorem dG_count_60 : decode cG_count 60 = .ok (.getfield 16, 3) := by decide +kernel
theorem dG_count_63 : decode cG_count 63 = .ok (.invokevirtual 241, 3) := by decide +kernel
theorem dG_count_66 : decode cG_count 66 = .ok (.ireturn, 1) := by decide +kernel
theorem dG_count_67 : decode cG_count 67 = .ok (.iconst (-1), 1) := by decide +kernel
theorem dG_count_68 : decode cG_count 68 = .ok (.ireturn, 1) := by decide +kernel
theorem dP_countBarredTurns_0 : decode cP_countBarredTurns 0 = .ok (.iconst 0, 1) := by decide +kernel
theorem dP_countBarredTurns_1 : decode cP_countBarredTurns 1 = .ok (.istore_n 1, 1) := by decide +kernel
theorem dP_countBarredTurns_2 : decode cP_countBarredTurns 2 = .ok (.iconst 0, 1) := by decide +kernel
theorem dP_countBarredTurns_3 : decode cP_countBarredTurns 3 = .ok (.istore_n 2, 1) := by decide +kernel
theorem dP_countBarredTurns_4 : decode cP_countBarredTurns 4 = .ok (.iload_n 2, 1) := by decide +kernel
theorem dP_countBarredTurns_5 : decode cP_countBarredTurns 5 = .ok (.aload_n 0, 1) := by decide +kernel
theorem dP_countBarredTurns_6 : decode cP_countBarredTurns 6 = .ok (.getfield 34, 3) := by decide +kernel
theorem dP_countBarredTurns_9 : decode cP_countBarredTurns 9 = .ok (.if_icmp .ge 21, 3) := by decide +kernel
theorem dP_countBarredTurns_12 : decode cP_countBarredTurns 12 = .ok (.iload_n 1, 1) := by decide +kernel
theorem dP_countBarredTurns_13 : decode cP_countBarredTurns 13 = .ok (.aload_n 0, 1) := by decide +kernel
theorem dP_countBarredTurns_14 : decode cP_countBarredTurns 14 = .ok (.getfield 31, 3) := by decide +kernel
theorem dP_countBarredTurns_17 : decode cP_countBarredTurns 17 = .ok (.iload_n 2, 1) := by decide +kernel
theorem dP_countBarredTurns_18 : decode cP_countBarredTurns 18 = .ok (.laload, 1) := by decide +kernel
theorem dP_countBarredTurns_19 : decode cP_countBarredTurns 19 = .ok (.invokestatic 46, 3) := by decide +kernel
theorem dP_countBarredTurns_22 : decode cP_countBarredTurns 22 = .ok (.iadd, 1) := by decide +kernel
theorem dP_countBarredTurns_23 : decode cP_countBarredTurns 23 = .ok (.istore_n 1, 1) := by decide +kernel
theorem dP_countBarredTurns_24 : decode cP_countBarredTurns 24 = .ok (.iinc 2 1, 3) := by decide +kernel
theorem dP_countBarredTurns_27 : decode cP_countBarredTurns 27 = .ok (.goto (-23), 3) := by decide +kernel
theorem dP_countBarredTurns_30 : decode cP_countBarredTurns 30 = .ok (.iload_n 1, 1) := by decide +kernel
theorem dP_countBarredTurns_31 : decode cP_countBarredTurns 31 = .ok (.ireturn, 1) := by decide +kernel
theorem dJL_bitCount_0 : decode cJL_bitCount 0 = .ok (.lload_n 0, 1) := by decide +kernel
theorem dJL_bitCount_1 : decode cJL_bitCount 1 = .ok (.lload_n 0, 1) := by decide +kernel
theorem dJL_bitCount_2 : decode cJL_bitCount 2 = .ok (.iconst 1, 1) := by decide +kernel
theorem dJL_bitCount_3 : decode cJL_bitCount 3 = .ok (.lushr, 1) := by decide +kernel
theorem dJL_bitCount_4 : decode cJL_bitCount 4 = .ok (.ldc2_w 314, 3) := by decide +kernel
theorem dJL_bitCount_7 : decode cJL_bitCount 7 = .ok (.land, 1) := by decide +kernel
theorem dJL_bitCount_8 : decode cJL_bitCount 8 = .ok (.lsub, 1) := by decide +kernel
theorem dJL_bitCount_9 : decode cJL_bitCount 9 = .ok (.lstore_n 0, 1) := by decide +kernel
theorem dJL_bitCount_10 : decode cJL_bitCount 10 = .ok (.lload_n 0, 1) := by decide +kernel
theorem dJL_bitCount_11 : decode cJL_bitCount 11 = .ok (.ldc2_w 316, 3) := by decide +kernel
theorem dJL_bitCount_14 : decode cJL_bitCount 14 = .ok (.land, 1) := by decide +kernel
theorem dJL_bitCount_15 : decode cJL_bitCount 15 = .ok (.lload_n 0, 1) := by decide +kernel
theorem dJL_bitCount_16 : decode cJL_bitCount 16 = .ok (.iconst 2, 1) := by decide +kernel
theorem dJL_bitCount_17 : decode cJL_bitCount 17 = .ok (.lushr, 1) := by decide +kernel
theorem dJL_bitCount_18 : decode cJL_bitCount 18 = .ok (.ldc2_w 316, 3) := by decide +kernel
theorem dJL_bitCount_21 : decode cJL_bitCount 21 = .ok (.land, 1) := by decide +kernel
theorem dJL_bitCount_22 : decode cJL_bitCount 22 = .ok (.ladd, 1) := by decide +kernel
theorem dJL_bitCount_23 : decode cJL_bitCount 23 = .ok (.lstore_n 0, 1) := by decide +kernel
theorem dJL_bitCount_24 : decode cJL_bitCount 24 = .ok (.lload_n 0, 1) := by decide +kernel
theorem dJL_bitCount_25 : decode cJL_bitCount 25 = .ok (.lload_n 0, 1) := by decide +kernel
theorem dJL_bitCount_26 : decode cJL_bitCount 26 = .ok (.iconst 4, 1) := by decide +kernel
theorem dJL_bitCount_27 : decode cJL_bitCount 27 = .ok (.lushr, 1) := by decide +kernel
theorem dJL_bitCount_28 : decode cJL_bitCount 28 = .ok (.ladd, 1) := by decide +kernel
theorem dJL_bitCount_29 : decode cJL_bitCount 29 = .ok (.ldc2_w 318, 3) := by decide +kernel
theorem dJL_bitCount_32 : decode cJL_bitCount 32 = .ok (.land, 1) := by decide +kernel
theorem dJL_bitCount_33 : decode cJL_bitCount 33 = .ok (.lstore_n 0, 1) := by decide +kernel
theorem dJL_bitCount_34 : decode cJL_bitCount 34 = .ok (.lload_n 0, 1) := by decide +kernel
theorem dJL_bitCount_35 : decode cJL_bitCount 35 = .ok (.lload_n 0, 1) := by decide +kernel
theorem dJL_bitCount_36 : decode cJL_bitCount 36 = .ok (.bipush 8, 2) := by decide +kernel
theorem dJL_bitCount_38 : decode cJL_bitCount 38 = .ok (.lushr, 1) := by decide +kernel
theorem dJL_bitCount_39 : decode cJL_bitCount 39 = .ok (.ladd, 1) := by decide +kernel
theorem dJL_bitCount_40 : decode cJL_bitCount 40 = .ok (.lstore_n 0, 1) := by decide +kernel
theorem dJL_bitCount_41 : decode cJL_bitCount 41 = .ok (.lload_n 0, 1) := by decide +kernel
theorem dJL_bitCount_42 : decode cJL_bitCount 42 = .ok (.lload_n 0, 1) := by decide +kernel
theorem dJL_bitCount_43 : decode cJL_bitCount 43 = .ok (.bipush 16, 2) := by decide +kernel
theorem dJL_bitCount_45 : decode cJL_bitCount 45 = .ok (.lushr, 1) := by decide +kernel
theorem dJL_bitCount_46 : decode cJL_bitCount 46 = .ok (.ladd, 1) := by decide +kernel
theorem dJL_bitCount_47 : decode cJL_bitCount 47 = .ok (.lstore_n 0, 1) := by decide +kernel
theorem dJL_bitCount_48 : decode cJL_bitCount 48 = .ok (.lload_n 0, 1) := by decide +kernel
theorem dJL_bitCount_49 : decode cJL_bitCount 49 = .ok (.lload_n 0, 1) := by decide +kernel
theorem dJL_bitCount_50 : decode cJL_bitCount 50 = .ok (.bipush 32, 2) := by decide +kernel
theorem dJL_bitCount_52 : decode cJL_bitCount 52 = .ok (.lushr, 1) := by decide +kernel
theorem dJL_bitCount_53 : decode cJL_bitCount 53 = .ok (.ladd, 1) := by decide +kernel
theorem dJL_bitCount_54 : decode cJL_bitCount 54 = .ok (.lstore_n 0, 1) := by decide +kernel
theorem dJL_bitCount_55 : decode cJL_bitCount 55 = .ok (.lload_n 0, 1) := by decide +kernel
theorem dJL_bitCount_56 : decode cJL_bitCount 56 = .ok (.l2i, 1) := by decide +kernel
theorem dJL_bitCount_57 : decode cJL_bitCount 57 = .ok (.bipush 127, 2) := by decide +kernel
theorem dJL_bitCount_59 : decode cJL_bitCount 59 = .ok (.iand, 1) := by decide +kernel
theorem dJL_bitCount_60 : decode cJL_bitCount 60 = .ok (.ireturn, 1) := by decide +kernel
theorem dW_place_0 : decode cW_place 0 = .ok (.aload_n 2, 1) := by decide +kernel
theorem dW_place_1 : decode cW_place 1 = .ok (.iconst 0, 1) := by decide +kernel
theorem dW_place_2 : decode cW_place 2 = .ok (.aload_n 0, 1) := by decide +kernel
theorem dW_place_3 : decode cW_place 3 = .ok (.iload_n 1, 1) := by decide +kernel
theorem dW_place_4 : decode cW_place 4 = .ok (.invokevirtual 7, 3) := by decide +kernel
theorem dW_place_7 : decode cW_place 7 = .ok (.i2l, 1) := by decide +kernel
theorem dW_place_8 : decode cW_place 8 = .ok (.lastore, 1) := by decide +kernel
theorem dW_place_9 : decode cW_place 9 = .ok (.goto 9, 3) := by decide +kernel
theorem dW_place_12 : decode cW_place 12 = .ok (.astore_n 3, 1) := by decide +kernel
theorem dW_place_13 : decode cW_place 13 = .ok (.iconst 1, 1) := by decide +kernel
theorem dW_place_14 : decode cW_place 14 = .ok (.ireturn, 1) := by decide +kernel
theorem dW_place_15 : decode cW_place 15 = .ok (.astore_n 3, 1) := by decide +kernel
theorem dW_place_16 : decode cW_place 16 = .ok (.iconst 2, 1) := by decide +kernel
theorem dW_place_17 : decode cW_place 17 = .ok (.ireturn, 1) := by decide +kernel
theorem dW_place_18 : decode cW_place 18 = .ok (.iconst 0, 1) := by decide +kernel
theorem dW_place_19 : decode cW_place 19 = .ok (.ireturn, 1) := by decide +kernel
theorem dG_place_0 : decode cG_place 0 = .ok (.iload_n 1, 1) := by decide +kernel
theorem dG_place_1 : decode cG_place 1 = .ok (.i2l, 1) := by decide +kernel
theorem dG_place_2 : decode cG_place 2 = .ok (.lconst 0, 1) := by decide +kernel
theorem dG_place_3 : decode cG_place 3 = .ok (.ldc2_w 51, 3) := by decide +kernel
theorem dG_place_6 : decode cG_place 6 = .ok (.invokestatic 53, 3) := by decide +kernel
theorem dG_place_9 : decode cG_place 9 = .ok (.ifCond .ne 13, 3) := by decide +kernel
theorem dG_place_12 : decode cG_place 12 = .ok (.new 57, 3) := by decide +kernel
theorem dG_place_15 : decode cG_place 15 = .ok (.dup, 1) := by decide +kernel
theorem dG_place_16 : decode cG_place 16 = .ok (.ldc 59, 2) := by decide +kernel
theorem dG_place_18 : decode cG_place 18 = .ok (.invokespecial 61, 3) := by decide +kernel
theorem dG_place_21 : decode cG_place 21 = .ok (.athrow, 1) := by decide +kernel
theorem dG_place_22 : decode cG_place 22 = .ok (.aload_n 0, 1) := by decide +kernel
theorem dG_place_23 : decode cG_place 23 = .ok (.getfield 64, 3) := by decide +kernel
theorem dG_place_26 : decode cG_place 26 = .ok (.bipush 20, 2) := by decide +kernel
theorem dG_place_28 : decode cG_place 28 = .ok (.if_icmp .lt 13, 3) := by decide +kernel
theorem dG_place_31 : decode cG_place 31 = .ok (.new 68, 3) := by decide +kernel
theorem dG_place_34 : decode cG_place 34 = .ok (.dup, 1) := by decide +kernel
theorem dG_place_35 : decode cG_place 35 = .ok (.ldc 70, 2) := by decide +kernel
theorem dG_place_37 : decode cG_place 37 = .ok (.invokespecial 72, 3) := by decide +kernel
theorem dG_place_40 : decode cG_place 40 = .ok (.athrow, 1) := by decide +kernel
theorem dG_place_41 : decode cG_place 41 = .ok (.aload_n 0, 1) := by decide +kernel
theorem dG_place_42 : decode cG_place 42 = .ok (.getfield 9, 3) := by decide +kernel
theorem dG_place_45 : decode cG_place 45 = .ok (.aload_n 0, 1) := by decide +kernel
theorem dG_place_46 : decode cG_place 46 = .ok (.getfield 64, 3) := by decide +kernel
theorem dG_place_49 : decode cG_place 49 = .ok (.iload_n 1, 1) := by decide +kernel
theorem dG_place_50 : decode cG_place 50 = .ok (.iastore, 1) := by decide +kernel
theorem dG_place_51 : decode cG_place 51 = .ok (.aload_n 0, 1) := by decide +kernel
theorem dG_place_52 : decode cG_place 52 = .ok (.dup, 1) := by decide +kernel
theorem dG_place_53 : decode cG_place 53 = .ok (.getfield 64, 3) := by decide +kernel
theorem dG_place_56 : decode cG_place 56 = .ok (.iconst 1, 1) := by decide +kernel
theorem dG_place_57 : decode cG_place 57 = .ok (.iadd, 1) := by decide +kernel
theorem dG_place_58 : decode cG_place 58 = .ok (.putfield 64, 3) := by decide +kernel
theorem dG_place_61 : decode cG_place 61 = .ok (.aload_n 0, 1) := by decide +kernel
theorem dG_place_62 : decode cG_place 62 = .ok (.getfield 64, 3) := by decide +kernel
theorem dG_place_65 : decode cG_place 65 = .ok (.iconst 1, 1) := by decide +kernel
theorem dG_place_66 : decode cG_place 66 = .ok (.isub, 1) := by decide +kernel
theorem dG_place_67 : decode cG_place 67 = .ok (.ireturn, 1) := by decide +kernel
theorem dG_within_0 : decode cG_within 0 = .ok (.lload_n 0, 1) := by decide +kernel
theorem dG_within_1 : decode cG_within 1 = .ok (.lload_n 2, 1) := by decide +kernel
theorem dG_within_2 : decode cG_within 2 = .ok (.lcmp, 1) := by decide +kernel
theorem dG_within_3 : decode cG_within 3 = .ok (.ifCond .lt 14, 3) := by decide +kernel
theorem dG_within_6 : decode cG_within 6 = .ok (.lload_n 0, 1) := by decide +kernel
theorem dG_within_7 : decode cG_within 7 = .ok (.lload 4, 2) := by decide +kernel
theorem dG_within_9 : decode cG_within 9 = .ok (.lcmp, 1) := by decide +kernel
theorem dG_within_10 : decode cG_within 10 = .ok (.ifCond .gt 7, 3) := by decide +kernel
theorem dG_within_13 : decode cG_within 13 = .ok (.iconst 1, 1) := by decide +kernel
theorem dG_within_14 : decode cG_within 14 = .ok (.goto 4, 3) := by decide +kernel
theorem dG_within_17 : decode cG_within 17 = .ok (.iconst 0, 1) := by decide +kernel
theorem dG_within_18 : decode cG_within 18 = .ok (.ireturn, 1) := by decide +kernel
theorem dW_piece_0 : decode cW_piece 0 = .ok (.aload 7, 2) := by decide +kernel
theorem dW_piece_2 : decode cW_piece 2 = .ok (.iconst 0, 1) := by decide +kernel
theorem dW_piece_3 : decode cW_piece 3 = .ok (.aload_n 0, 1) := by decide +kernel
theorem dW_piece_4 : decode cW_piece 4 = .ok (.iload_n 1, 1) := by decide +kernel
theorem dW_piece_5 : decode cW_piece 5 = .ok (.iload_n 2, 1) := by decide +kernel
theorem dW_piece_6 : decode cW_piece 6 = .ok (.lload_n 3, 1) := by decide +kernel
theorem dW_piece_7 : decode cW_piece 7 = .ok (.lload 5, 2) := by decide +kernel
theorem dW_piece_9 : decode cW_piece 9 = .ok (.invokevirtual 17, 3) := by decide +kernel
theorem dW_piece_12 : decode cW_piece 12 = .ok (.i2l, 1) := by decide +kernel
theorem dW_piece_13 : decode cW_piece 13 = .ok (.lastore, 1) := by decide +kernel
theorem dW_piece_14 : decode cW_piece 14 = .ok (.goto 15, 3) := by decide +kernel
theorem dW_piece_17 : decode cW_piece 17 = .ok (.astore 8, 2) := by decide +kernel
theorem dW_piece_19 : decode cW_piece 19 = .ok (.iconst 1, 1) := by decide +kernel
theorem dW_piece_20 : decode cW_piece 20 = .ok (.ireturn, 1) := by decide +kernel
theorem dW_piece_21 : decode cW_piece 21 = .ok (.astore 8, 2) := by decide +kernel
theorem dW_piece_23 : decode cW_piece 23 = .ok (.iconst 2, 1) := by decide +kernel
theorem dW_piece_24 : decode cW_piece 24 = .ok (.ireturn, 1) := by decide +kernel
theorem dW_piece_25 : decode cW_piece 25 = .ok (.astore 8, 2) := by decide +kernel
theorem dW_piece_27 : decode cW_piece 27 = .ok (.iconst 3, 1) := by decide +kernel
theorem dW_piece_28 : decode cW_piece 28 = .ok (.ireturn, 1) := by decide +kernel
theorem dW_piece_29 : decode cW_piece 29 = .ok (.iconst 0, 1) := by decide +kernel
theorem dW_piece_30 : decode cW_piece 30 = .ok (.ireturn, 1) := by decide +kernel
theorem dG_piece_0 : decode cG_piece 0 = .ok (.aload_n 0, 1) := by decide +kernel
theorem dG_piece_1 : decode cG_piece 1 = .ok (.iload_n 1, 1) := by decide +kernel
theorem dG_piece_2 : decode cG_piece 2 = .ok (.invokevirtual 73, 3) := by decide +kernel
theorem dG_piece_5 : decode cG_piece 5 = .ok (.ifCond .eq 31, 3) := by decide +kernel
theorem dG_piece_8 : decode cG_piece 8 = .ok (.aload_n 0, 1) := by decide +kernel
theorem dG_piece_9 : decode cG_piece 9 = .ok (.iload_n 2, 1) := by decide +kernel
theorem dG_piece_10 : decode cG_piece 10 = .ok (.invokevirtual 73, 3) := by decide +kernel
theorem dG_piece_13 : decode cG_piece 13 = .ok (.ifCond .eq 23, 3) := by decide +kernel
theorem dG_piece_16 : decode cG_piece 16 = .ok (.iload_n 1, 1) := by decide +kernel
theorem dG_piece_17 : decode cG_piece 17 = .ok (.iload_n 2, 1) := by decide +kernel
theorem dG_piece_18 : decode cG_piece 18 = .ok (.if_icmp .eq 18, 3) := by decide +kernel
theorem dG_piece_21 : decode cG_piece 21 = .ok (.aload_n 0, 1) := by decide +kernel
theorem dG_piece_22 : decode cG_piece 22 = .ok (.getfield 9, 3) := by decide +kernel
theorem dG_piece_25 : decode cG_piece 25 = .ok (.iload_n 1, 1) := by decide +kernel
theorem dG_piece_26 : decode cG_piece 26 = .ok (.iaload, 1) := by decide +kernel
theorem dG_piece_27 : decode cG_piece 27 = .ok (.aload_n 0, 1) := by decide +kernel
theorem dG_piece_28 : decode cG_piece 28 = .ok (.getfield 9, 3) := by decide +kernel
theorem dG_piece_31 : decode cG_piece 31 = .ok (.iload_n 2, 1) := by decide +kernel
theorem dG_piece_32 : decode cG_piece 32 = .ok (.iaload, 1) := by decide +kernel
theorem dG_piece_33 : decode cG_piece 33 = .ok (.if_icmp .eq 13, 3) := by decide +kernel
theorem dG_piece_36 : decode cG_piece 36 = .ok (.new 57, 3) := by decide +kernel
theorem dG_piece_39 : decode cG_piece 39 = .ok (.dup, 1) := by decide +kernel
theorem dG_piece_40 : decode cG_piece 40 = .ok (.ldc 77, 2) := by decide +kernel
theorem dG_piece_42 : decode cG_piece 42 = .ok (.invokespecial 61, 3) := by decide +kernel
theorem dG_piece_45 : decode cG_piece 45 = .ok (.athrow, 1) := by decide +kernel
theorem dG_piece_46 : decode cG_piece 46 = .ok (.lload_n 3, 1) := by decide +kernel
theorem dG_piece_47 : decode cG_piece 47 = .ok (.lconst 1, 1) := by decide +kernel
theorem dG_piece_48 : decode cG_piece 48 = .ok (.ldc2_w 79, 3) := by decide +kernel
theorem dG_piece_51 : decode cG_piece 51 = .ok (.invokestatic 53, 3) := by decide +kernel
theorem dG_piece_54 : decode cG_piece 54 = .ok (.ifCond .eq 15, 3) := by decide +kernel
theorem dG_piece_57 : decode cG_piece 57 = .ok (.lload 5, 2) := by decide +kernel
theorem dG_piece_59 : decode cG_piece 59 = .ok (.lconst 0, 1) := by decide +kernel
theorem dG_piece_60 : decode cG_piece 60 = .ok (.ldc2_w 81, 3) := by decide +kernel
theorem dG_piece_63 : decode cG_piece 63 = .ok (.invokestatic 53, 3) := by decide +kernel
theorem dG_piece_66 : decode cG_piece 66 = .ok (.ifCond .ne 13, 3) := by decide +kernel
theorem dG_piece_69 : decode cG_piece 69 = .ok (.new 57, 3) := by decide +kernel
theorem dG_piece_72 : decode cG_piece 72 = .ok (.dup, 1) := by decide +kernel
theorem dG_piece_73 : decode cG_piece 73 = .ok (.ldc 83, 2) := by decide +kernel
theorem dG_piece_75 : decode cG_piece 75 = .ok (.invokespecial 61, 3) := by decide +kernel
theorem dG_piece_78 : decode cG_piece 78 = .ok (.athrow, 1) := by decide +kernel
theorem dG_piece_79 : decode cG_piece 79 = .ok (.lload 5, 2) := by decide +kernel
theorem dG_piece_81 : decode cG_piece 81 = .ok (.lconst 0, 1) := by decide +kernel
theorem dG_piece_82 : decode cG_piece 82 = .ok (.lcmp, 1) := by decide +kernel
theorem dG_piece_83 : decode cG_piece 83 = .ok (.ifCond .ne 13, 3) := by decide +kernel
theorem dG_piece_86 : decode cG_piece 86 = .ok (.new 85, 3) := by decide +kernel
theorem dG_piece_89 : decode cG_piece 89 = .ok (.dup, 1) := by decide +kernel
theorem dG_piece_90 : decode cG_piece 90 = .ok (.ldc 87, 2) := by decide +kernel
theorem dG_piece_92 : decode cG_piece 92 = .ok (.invokespecial 89, 3) := by decide +kernel
theorem dG_piece_95 : decode cG_piece 95 = .ok (.athrow, 1) := by decide +kernel
theorem dG_piece_96 : decode cG_piece 96 = .ok (.aload_n 0, 1) := by decide +kernel
theorem dG_piece_97 : decode cG_piece 97 = .ok (.getfield 16, 3) := by decide +kernel
theorem dG_piece_100 : decode cG_piece 100 = .ok (.getfield 90, 3) := by decide +kernel
theorem dG_piece_103 : decode cG_piece 103 = .ok (.bipush 40, 2) := by decide +kernel
theorem dG_piece_105 : decode cG_piece 105 = .ok (.if_icmp .lt 13, 3) := by decide +kernel
theorem dG_piece_108 : decode cG_piece 108 = .ok (.new 68, 3) := by decide +kernel
theorem dG_piece_111 : decode cG_piece 111 = .ok (.dup, 1) := by decide +kernel
theorem dG_piece_112 : decode cG_piece 112 = .ok (.ldc 93, 2) := by decide +kernel
theorem dG_piece_114 : decode cG_piece 114 = .ok (.invokespecial 72, 3) := by decide +kernel
theorem dG_piece_117 : decode cG_piece 117 = .ok (.athrow, 1) := by decide +kernel
theorem dG_piece_118 : decode cG_piece 118 = .ok (.aload_n 0, 1) := by decide +kernel
theorem dG_piece_119 : decode cG_piece 119 = .ok (.getfield 16, 3) := by decide +kernel
theorem dG_piece_122 : decode cG_piece 122 = .ok (.iload_n 1, 1) := by decide +kernel
theorem dG_piece_123 : decode cG_piece 123 = .ok (.iload_n 2, 1) := by decide +kernel
theorem dG_piece_124 : decode cG_piece 124 = .ok (.lload_n 3, 1) := by decide +kernel
theorem dG_piece_125 : decode cG_piece 125 = .ok (.lload 5, 2) := by decide +kernel
theorem dG_piece_127 : decode cG_piece 127 = .ok (.ladd, 1) := by decide +kernel
theorem dG_piece_128 : decode cG_piece 128 = .ok (.lconst 1, 1) := by decide +kernel
theorem dG_piece_129 : decode cG_piece 129 = .ok (.lsub, 1) := by decide +kernel
theorem dG_piece_130 : decode cG_piece 130 = .ok (.lload 5, 2) := by decide +kernel
theorem dG_piece_132 : decode cG_piece 132 = .ok (.ldiv, 1) := by decide +kernel
theorem dG_piece_133 : decode cG_piece 133 = .ok (.invokevirtual 95, 3) := by decide +kernel
theorem dG_piece_136 : decode cG_piece 136 = .ok (.ireturn, 1) := by decide +kernel
theorem dG_hasPlace_0 : decode cG_hasPlace 0 = .ok (.iload_n 1, 1) := by decide +kernel
theorem dG_hasPlace_1 : decode cG_hasPlace 1 = .ok (.ifCond .lt 15, 3) := by decide +kernel
theorem dG_hasPlace_4 : decode cG_hasPlace 4 = .ok (.iload_n 1, 1) := by decide +kernel
theorem dG_hasPlace_5 : decode cG_hasPlace 5 = .ok (.aload_n 0, 1) := by decide +kernel
theorem dG_hasPlace_6 : decode cG_hasPlace 6 = .ok (.getfield 64, 3) := by decide +kernel
theorem dG_hasPlace_9 : decode cG_hasPlace 9 = .ok (.if_icmp .ge 7, 3) := by decide +kernel
theorem dG_hasPlace_12 : decode cG_hasPlace 12 = .ok (.iconst 1, 1) := by decide +kernel
theorem dG_hasPlace_13 : decode cG_hasPlace 13 = .ok (.goto 4, 3) := by decide +kernel
theorem dG_hasPlace_16 : decode cG_hasPlace 16 = .ok (.iconst 0, 1) := by decide +kernel
theorem dG_hasPlace_17 : decode cG_hasPlace 17 = .ok (.ireturn, 1) := by decide +kernel
theorem dP_add_0 : decode cP_add 0 = .ok (.aload_n 0, 1) := by decide +kernel
theorem dP_add_1 : decode cP_add 1 = .ok (.getfield 34, 3) := by decide +kernel
theorem dP_add_4 : decode cP_add 4 = .ok (.bipush 40, 2) := by decide +kernel
theorem dP_add_6 : decode cP_add 6 = .ok (.if_icmp .lt 5, 3) := by decide +kernel
theorem dP_add_9 : decode cP_add 9 = .ok (.iconst (-1), 1) := by decide +kernel
theorem dP_add_10 : decode cP_add 10 = .ok (.ireturn, 1) := by decide +kernel
theorem dP_add_11 : decode cP_add 11 = .ok (.aload_n 0, 1) := by decide +kernel
theorem dP_add_12 : decode cP_add 12 = .ok (.getfield 9, 3) := by decide +kernel
theorem dP_add_15 : decode cP_add 15 = .ok (.aload_n 0, 1) := by decide +kernel
theorem dP_add_16 : decode cP_add 16 = .ok (.getfield 34, 3) := by decide +kernel
theorem dP_add_19 : decode cP_add 19 = .ok (.iload_n 1, 1) := by decide +kernel
theorem dP_add_20 : decode cP_add 20 = .ok (.iastore, 1) := by decide +kernel
theorem dP_add_21 : decode cP_add 21 = .ok (.aload_n 0, 1) := by decide +kernel
theorem dP_add_22 : decode cP_add 22 = .ok (.getfield 15, 3) := by decide +kernel
theorem dP_add_25 : decode cP_add 25 = .ok (.aload_n 0, 1) := by decide +kernel
theorem dP_add_26 : decode cP_add 26 = .ok (.getfield 34, 3) := by decide +kernel
theorem dP_add_29 : decode cP_add 29 = .ok (.iload_n 2, 1) := by decide +kernel
theorem dP_add_30 : decode cP_add 30 = .ok (.iastore, 1) := by decide +kernel
theorem dP_add_31 : decode cP_add 31 = .ok (.aload_n 0, 1) := by decide +kernel
theorem dP_add_32 : decode cP_add 32 = .ok (.getfield 18, 3) := by decide +kernel
theorem dP_add_35 : decode cP_add 35 = .ok (.aload_n 0, 1) := by decide +kernel
theorem dP_add_36 : decode cP_add 36 = .ok (.getfield 34, 3) := by decide +kernel
theorem dP_add_39 : decode cP_add 39 = .ok (.lload_n 3, 1) := by decide +kernel
theorem dP_add_40 : decode cP_add 40 = .ok (.lastore, 1) := by decide +kernel
theorem dP_add_41 : decode cP_add 41 = .ok (.aload_n 0, 1) := by decide +kernel
theorem dP_add_42 : decode cP_add 42 = .ok (.getfield 22, 3) := by decide +kernel
theorem dP_add_45 : decode cP_add 45 = .ok (.aload_n 0, 1) := by decide +kernel
theorem dP_add_46 : decode cP_add 46 = .ok (.getfield 34, 3) := by decide +kernel
theorem dP_add_49 : decode cP_add 49 = .ok (.sipush 2000, 3) := by decide +kernel
theorem dP_add_52 : decode cP_add 52 = .ok (.iastore, 1) := by decide +kernel
theorem dP_add_53 : decode cP_add 53 = .ok (.aload_n 0, 1) := by decide +kernel
theorem dP_add_54 : decode cP_add 54 = .ok (.getfield 25, 3) := by decide +kernel
theorem dP_add_57 : decode cP_add 57 = .ok (.aload_n 0, 1) := by decide +kernel
theorem dP_add_58 : decode cP_add 58 = .ok (.getfield 34, 3) := by decide +kernel
theorem dP_add_61 : decode cP_add 61 = .ok (.ldc2_w 38, 3) := by decide +kernel
theorem dP_add_64 : decode cP_add 64 = .ok (.lastore, 1) := by decide +kernel
theorem dP_add_65 : decode cP_add 65 = .ok (.aload_n 0, 1) := by decide +kernel
theorem dP_add_66 : decode cP_add 66 = .ok (.getfield 28, 3) := by decide +kernel
theorem dP_add_69 : decode cP_add 69 = .ok (.aload_n 0, 1) := by decide +kernel
theorem dP_add_70 : decode cP_add 70 = .ok (.getfield 34, 3) := by decide +kernel
theorem dP_add_73 : decode cP_add 73 = .ok (.ldc2_w 40, 3) := by decide +kernel
theorem dP_add_76 : decode cP_add 76 = .ok (.lastore, 1) := by decide +kernel
theorem dP_add_77 : decode cP_add 77 = .ok (.aload_n 0, 1) := by decide +kernel
theorem dP_add_78 : decode cP_add 78 = .ok (.dup, 1) := by decide +kernel
theorem dP_add_79 : decode cP_add 79 = .ok (.getfield 34, 3) := by decide +kernel
theorem dP_add_82 : decode cP_add 82 = .ok (.iconst 1, 1) := by decide +kernel
theorem dP_add_83 : decode cP_add 83 = .ok (.iadd, 1) := by decide +kernel
theorem dP_add_84 : decode cP_add 84 = .ok (.putfield 34, 3) := by decide +kernel
theorem dP_add_87 : decode cP_add 87 = .ok (.aload_n 0, 1) := by decide +kernel
theorem dP_add_88 : decode cP_add 88 = .ok (.getfield 34, 3) := by decide +kernel
theorem dP_add_91 : decode cP_add 91 = .ok (.iconst 1, 1) := by decide +kernel
theorem dP_add_92 : decode cP_add 92 = .ok (.isub, 1) := by decide +kernel
theorem dP_add_93 : decode cP_add 93 = .ok (.ireturn, 1) := by decide +kernel
theorem dW_lift_0 : decode cW_lift 0 = .ok (.aload 5, 2) := by decide +kernel
theorem dW_lift_2 : decode cW_lift 2 = .ok (.iconst 0, 1) := by decide +kernel
theorem dW_lift_3 : decode cW_lift 3 = .ok (.aload_n 0, 1) := by decide +kernel
theorem dW_lift_4 : decode cW_lift 4 = .ok (.iload_n 1, 1) := by decide +kernel
theorem dW_lift_5 : decode cW_lift 5 = .ok (.iload_n 2, 1) := by decide +kernel
theorem dW_lift_6 : decode cW_lift 6 = .ok (.lload_n 3, 1) := by decide +kernel
theorem dW_lift_7 : decode cW_lift 7 = .ok (.invokevirtual 23, 3) := by decide +kernel
theorem dW_lift_10 : decode cW_lift 10 = .ok (.i2l, 1) := by decide +kernel
theorem dW_lift_11 : decode cW_lift 11 = .ok (.lastore, 1) := by decide +kernel
theorem dW_lift_12 : decode cW_lift 12 = .ok (.goto 11, 3) := by decide +kernel
theorem dW_lift_15 : decode cW_lift 15 = .ok (.astore 6, 2) := by decide +kernel
theorem dW_lift_17 : decode cW_lift 17 = .ok (.iconst 1, 1) := by decide +kernel
theorem dW_lift_18 : decode cW_lift 18 = .ok (.ireturn, 1) := by decide +kernel
theorem dW_lift_19 : decode cW_lift 19 = .ok (.astore 6, 2) := by decide +kernel
theorem dW_lift_21 : decode cW_lift 21 = .ok (.iconst 2, 1) := by decide +kernel
theorem dW_lift_22 : decode cW_lift 22 = .ok (.ireturn, 1) := by decide +kernel
theorem dW_lift_23 : decode cW_lift 23 = .ok (.iconst 0, 1) := by decide +kernel
theorem dW_lift_24 : decode cW_lift 24 = .ok (.ireturn, 1) := by decide +kernel
theorem dG_lift_0 : decode cG_lift 0 = .ok (.aload_n 0, 1) := by decide +kernel
theorem dG_lift_1 : decode cG_lift 1 = .ok (.iload_n 1, 1) := by decide +kernel
theorem dG_lift_2 : decode cG_lift 2 = .ok (.invokevirtual 73, 3) := by decide +kernel
theorem dG_lift_5 : decode cG_lift 5 = .ok (.ifCond .eq 26, 3) := by decide +kernel
theorem dG_lift_8 : decode cG_lift 8 = .ok (.aload_n 0, 1) := by decide +kernel
theorem dG_lift_9 : decode cG_lift 9 = .ok (.iload_n 2, 1) := by decide +kernel
theorem dG_lift_10 : decode cG_lift 10 = .ok (.invokevirtual 73, 3) := by decide +kernel
theorem dG_lift_13 : decode cG_lift 13 = .ok (.ifCond .eq 18, 3) := by decide +kernel
theorem dG_lift_16 : decode cG_lift 16 = .ok (.aload_n 0, 1) := by decide +kernel
theorem dG_lift_17 : decode cG_lift 17 = .ok (.getfield 9, 3) := by decide +kernel
theorem dG_lift_20 : decode cG_lift 20 = .ok (.iload_n 1, 1) := by decide +kernel
theorem dG_lift_21 : decode cG_lift 21 = .ok (.iaload, 1) := by decide +kernel
theorem dG_lift_22 : decode cG_lift 22 = .ok (.aload_n 0, 1) := by decide +kernel
theorem dG_lift_23 : decode cG_lift 23 = .ok (.getfield 9, 3) := by decide +kernel
theorem dG_lift_26 : decode cG_lift 26 = .ok (.iload_n 2, 1) := by decide +kernel
theorem dG_lift_27 : decode cG_lift 27 = .ok (.iaload, 1) := by decide +kernel
theorem dG_lift_28 : decode cG_lift 28 = .ok (.if_icmp .ne 13, 3) := by decide +kernel
theorem dG_lift_31 : decode cG_lift 31 = .ok (.new 57, 3) := by decide +kernel
theorem dG_lift_34 : decode cG_lift 34 = .ok (.dup, 1) := by decide +kernel
theorem dG_lift_35 : decode cG_lift 35 = .ok (.ldc 99, 2) := by decide +kernel
theorem dG_lift_37 : decode cG_lift 37 = .ok (.invokespecial 61, 3) := by decide +kernel
theorem dG_lift_40 : decode cG_lift 40 = .ok (.athrow, 1) := by decide +kernel
theorem dG_lift_41 : decode cG_lift 41 = .ok (.lload_n 3, 1) := by decide +kernel
theorem dG_lift_42 : decode cG_lift 42 = .ok (.lconst 1, 1) := by decide +kernel
theorem dG_lift_43 : decode cG_lift 43 = .ok (.ldc2_w 81, 3) := by decide +kernel
theorem dG_lift_46 : decode cG_lift 46 = .ok (.invokestatic 53, 3) := by decide +kernel
theorem dG_lift_49 : decode cG_lift 49 = .ok (.ifCond .ne 13, 3) := by decide +kernel
theorem dG_lift_52 : decode cG_lift 52 = .ok (.new 57, 3) := by decide +kernel
theorem dG_lift_55 : decode cG_lift 55 = .ok (.dup, 1) := by decide +kernel
theorem dG_lift_56 : decode cG_lift 56 = .ok (.ldc 101, 2) := by decide +kernel
theorem dG_lift_58 : decode cG_lift 58 = .ok (.invokespecial 61, 3) := by decide +kernel
theorem dG_lift_61 : decode cG_lift 61 = .ok (.athrow, 1) := by decide +kernel
theorem dG_lift_62 : decode cG_lift 62 = .ok (.aload_n 0, 1) := by decide +kernel
theorem dG_lift_63 : decode cG_lift 63 = .ok (.getfield 16, 3) := by decide +kernel
theorem dG_lift_66 : decode cG_lift 66 = .ok (.getfield 90, 3) := by decide +kernel
theorem dG_lift_69 : decode cG_lift 69 = .ok (.bipush 38, 2) := by decide +kernel
theorem dG_lift_71 : decode cG_lift 71 = .ok (.if_icmp .le 13, 3) := by decide +kernel
theorem dG_lift_74 : decode cG_lift 74 = .ok (.new 68, 3) := by decide +kernel
theorem dG_lift_77 : decode cG_lift 77 = .ok (.dup, 1) := by decide +kernel
theorem dG_lift_78 : decode cG_lift 78 = .ok (.ldc 93, 2) := by decide +kernel
theorem dG_lift_80 : decode cG_lift 80 = .ok (.invokespecial 72, 3) := by decide +kernel
theorem dG_lift_83 : decode cG_lift 83 = .ok (.athrow, 1) := by decide +kernel
theorem dG_lift_84 : decode cG_lift 84 = .ok (.aload_n 0, 1) := by decide +kernel
theorem dG_lift_85 : decode cG_lift 85 = .ok (.getfield 16, 3) := by decide +kernel
theorem dG_lift_88 : decode cG_lift 88 = .ok (.iload_n 1, 1) := by decide +kernel
theorem dG_lift_89 : decode cG_lift 89 = .ok (.iload_n 2, 1) := by decide +kernel
theorem dG_lift_90 : decode cG_lift 90 = .ok (.lload_n 3, 1) := by decide +kernel
theorem dG_lift_91 : decode cG_lift 91 = .ok (.invokevirtual 95, 3) := by decide +kernel
theorem dG_lift_94 : decode cG_lift 94 = .ok (.istore 5, 2) := by decide +kernel
theorem dG_lift_96 : decode cG_lift 96 = .ok (.aload_n 0, 1) := by decide +kernel
theorem dG_lift_97 : decode cG_lift 97 = .ok (.getfield 16, 3) := by decide +kernel
theorem dG_lift_100 : decode cG_lift 100 = .ok (.iload_n 2, 1) := by decide +kernel
theorem dG_lift_101 : decode cG_lift 101 = .ok (.iload_n 1, 1) := by decide +kernel
theorem dG_lift_102 : decode cG_lift 102 = .ok (.lload_n 3, 1) := by decide +kernel
theorem dG_lift_103 : decode cG_lift 103 = .ok (.invokevirtual 95, 3) := by decide +kernel
theorem dG_lift_106 : decode cG_lift 106 = .ok (.pop, 1) := by decide +kernel
theorem dG_lift_107 : decode cG_lift 107 = .ok (.iload 5, 2) := by decide +kernel
theorem dG_lift_109 : decode cG_lift 109 = .ok (.ireturn, 1) := by decide +kernel
theorem dW_limit_0 : decode cW_limit 0 = .ok (.aload_n 0, 1) := by decide +kernel
theorem dW_limit_1 : decode cW_limit 1 = .ok (.iload_n 1, 1) := by decide +kernel
theorem dW_limit_2 : decode cW_limit 2 = .ok (.iload_n 2, 1) := by decide +kernel
theorem dW_limit_3 : decode cW_limit 3 = .ok (.lload_n 3, 1) := by decide +kernel
theorem dW_limit_4 : decode cW_limit 4 = .ok (.invokevirtual 27, 3) := by decide +kernel
theorem dW_limit_7 : decode cW_limit 7 = .ok (.goto 7, 3) := by decide +kernel
theorem dW_limit_10 : decode cW_limit 10 = .ok (.astore 5, 2) := by decide +kernel
theorem dW_limit_12 : decode cW_limit 12 = .ok (.iconst 1, 1) := by decide +kernel
theorem dW_limit_13 : decode cW_limit 13 = .ok (.ireturn, 1) := by decide +kernel
theorem dW_limit_14 : decode cW_limit 14 = .ok (.iconst 0, 1) := by decide +kernel
theorem dW_limit_15 : decode cW_limit 15 = .ok (.ireturn, 1) := by decide +kernel
theorem dG_limit_0 : decode cG_limit 0 = .ok (.aload_n 0, 1) := by decide +kernel
theorem dG_limit_1 : decode cG_limit 1 = .ok (.getfield 16, 3) := by decide +kernel
theorem dG_limit_4 : decode cG_limit 4 = .ok (.iload_n 1, 1) := by decide +kernel
theorem dG_limit_5 : decode cG_limit 5 = .ok (.invokevirtual 103, 3) := by decide +kernel
theorem dG_limit_8 : decode cG_limit 8 = .ok (.ifCond .eq 12, 3) := by decide +kernel
theorem dG_limit_11 : decode cG_limit 11 = .ok (.iload_n 2, 1) := by decide +kernel
theorem dG_limit_12 : decode cG_limit 12 = .ok (.i2l, 1) := by decide +kernel
theorem dG_limit_13 : decode cG_limit 13 = .ok (.lload_n 3, 1) := by decide +kernel
theorem dG_limit_14 : decode cG_limit 14 = .ok (.invokestatic 106, 3) := by decide +kernel
theorem dG_limit_17 : decode cG_limit 17 = .ok (.ifCond .ne 13, 3) := by decide +kernel
theorem dG_limit_20 : decode cG_limit 20 = .ok (.new 57, 3) := by decide +kernel
theorem dG_limit_23 : decode cG_limit 23 = .ok (.dup, 1) := by decide +kernel
theorem dG_limit_24 : decode cG_limit 24 = .ok (.ldc 110, 2) := by decide +kernel
theorem dG_limit_26 : decode cG_limit 26 = .ok (.invokespecial 61, 3) := by decide +kernel
theorem dG_limit_29 : decode cG_limit 29 = .ok (.athrow, 1) := by decide +kernel
theorem dG_limit_30 : decode cG_limit 30 = .ok (.aload_n 0, 1) := by decide +kernel
theorem dG_limit_31 : decode cG_limit 31 = .ok (.getfield 16, 3) := by decide +kernel
theorem dG_limit_34 : decode cG_limit 34 = .ok (.getfield 112, 3) := by decide +kernel
theorem dG_limit_37 : decode cG_limit 37 = .ok (.iload_n 1, 1) := by decide +kernel
theorem dG_limit_38 : decode cG_limit 38 = .ok (.iload_n 2, 1) := by decide +kernel
theorem dG_limit_39 : decode cG_limit 39 = .ok (.iastore, 1) := by decide +kernel
theorem dG_limit_40 : decode cG_limit 40 = .ok (.aload_n 0, 1) := by decide +kernel
theorem dG_limit_41 : decode cG_limit 41 = .ok (.getfield 16, 3) := by decide +kernel
theorem dG_limit_44 : decode cG_limit 44 = .ok (.getfield 115, 3) := by decide +kernel
theorem dG_limit_47 : decode cG_limit 47 = .ok (.iload_n 1, 1) := by decide +kernel
theorem dG_limit_48 : decode cG_limit 48 = .ok (.lload_n 3, 1) := by decide +kernel
theorem dG_limit_49 : decode cG_limit 49 = .ok (.lastore, 1) := by decide +kernel
theorem dG_limit_50 : decode cG_limit 50 = .ok (.return_, 1) := by decide +kernel
theorem dP_has_0 : decode cP_has 0 = .ok (.iload_n 1, 1) := by decide +kernel
theorem dP_has_1 : decode cP_has 1 = .ok (.ifCond .lt 15, 3) := by decide +kernel
theorem dP_has_4 : decode cP_has 4 = .ok (.iload_n 1, 1) := by decide +kernel
theorem dP_has_5 : decode cP_has 5 = .ok (.aload_n 0, 1) := by decide +kernel
theorem dP_has_6 : decode cP_has 6 = .ok (.getfield 34, 3) := by decide +kernel
theorem dP_has_9 : decode cP_has 9 = .ok (.if_icmp .ge 7, 3) := by decide +kernel
theorem dP_has_12 : decode cP_has 12 = .ok (.iconst 1, 1) := by decide +kernel
theorem dP_has_13 : decode cP_has 13 = .ok (.goto 4, 3) := by decide +kernel
theorem dP_has_16 : decode cP_has 16 = .ok (.iconst 0, 1) := by decide +kernel
theorem dP_has_17 : decode cP_has 17 = .ok (.ireturn, 1) := by decide +kernel
theorem dG_isSize_0 : decode cG_isSize 0 = .ok (.lload_n 0, 1) := by decide +kernel
theorem dG_isSize_1 : decode cG_isSize 1 = .ok (.lconst 1, 1) := by decide +kernel
theorem dG_isSize_2 : decode cG_isSize 2 = .ok (.ldc2_w 81, 3) := by decide +kernel
theorem dG_isSize_5 : decode cG_isSize 5 = .ok (.invokestatic 53, 3) := by decide +kernel
theorem dG_isSize_8 : decode cG_isSize 8 = .ok (.ifCond .eq 18, 3) := by decide +kernel
theorem dG_isSize_11 : decode cG_isSize 11 = .ok (.lload_n 2, 1) := by decide +kernel
theorem dG_isSize_12 : decode cG_isSize 12 = .ok (.lconst 1, 1) := by decide +kernel
theorem dG_isSize_13 : decode cG_isSize 13 = .ok (.ldc2_w 81, 3) := by decide +kernel
theorem dG_isSize_16 : decode cG_isSize 16 = .ok (.invokestatic 53, 3) := by decide +kernel
theorem dG_isSize_19 : decode cG_isSize 19 = .ok (.ifCond .eq 7, 3) := by decide +kernel
theorem dG_isSize_22 : decode cG_isSize 22 = .ok (.iconst 1, 1) := by decide +kernel
theorem dG_isSize_23 : decode cG_isSize 23 = .ok (.goto 4, 3) := by decide +kernel
theorem dG_isSize_26 : decode cG_isSize 26 = .ok (.iconst 0, 1) := by decide +kernel
theorem dG_isSize_27 : decode cG_isSize 27 = .ok (.ireturn, 1) := by decide +kernel
theorem dW_mover_0 : decode cW_mover 0 = .ok (.aload 4, 2) := by decide +kernel
theorem dW_mover_2 : decode cW_mover 2 = .ok (.iconst 0, 1) := by decide +kernel
theorem dW_mover_3 : decode cW_mover 3 = .ok (.aload_n 0, 1) := by decide +kernel
theorem dW_mover_4 : decode cW_mover 4 = .ok (.iload_n 1, 1) := by decide +kernel
theorem dW_mover_5 : decode cW_mover 5 = .ok (.lload_n 2, 1) := by decide +kernel
theorem dW_mover_6 : decode cW_mover 6 = .ok (.invokevirtual 31, 3) := by decide +kernel
theorem dW_mover_9 : decode cW_mover 9 = .ok (.i2l, 1) := by decide +kernel
theorem dW_mover_10 : decode cW_mover 10 = .ok (.lastore, 1) := by decide +kernel
theorem dW_mover_11 : decode cW_mover 11 = .ok (.goto 11, 3) := by decide +kernel
theorem dW_mover_14 : decode cW_mover 14 = .ok (.astore 5, 2) := by decide +kernel
theorem dW_mover_16 : decode cW_mover 16 = .ok (.iconst 1, 1) := by decide +kernel
theorem dW_mover_17 : decode cW_mover 17 = .ok (.ireturn, 1) := by decide +kernel
theorem dW_mover_18 : decode cW_mover 18 = .ok (.astore 5, 2) := by decide +kernel
theorem dW_mover_20 : decode cW_mover 20 = .ok (.iconst 2, 1) := by decide +kernel
theorem dW_mover_21 : decode cW_mover 21 = .ok (.ireturn, 1) := by decide +kernel
theorem dW_mover_22 : decode cW_mover 22 = .ok (.iconst 0, 1) := by decide +kernel
theorem dW_mover_23 : decode cW_mover 23 = .ok (.ireturn, 1) := by decide +kernel
theorem dG_mover_0 : decode cG_mover 0 = .ok (.iload_n 1, 1) := by decide +kernel
theorem dG_mover_1 : decode cG_mover 1 = .ok (.i2l, 1) := by decide +kernel
theorem dG_mover_2 : decode cG_mover 2 = .ok (.lload_n 2, 1) := by decide +kernel
theorem dG_mover_3 : decode cG_mover 3 = .ok (.invokestatic 106, 3) := by decide +kernel
theorem dG_mover_6 : decode cG_mover 6 = .ok (.ifCond .ne 13, 3) := by decide +kernel
theorem dG_mover_9 : decode cG_mover 9 = .ok (.new 57, 3) := by decide +kernel
theorem dG_mover_12 : decode cG_mover 12 = .ok (.dup, 1) := by decide +kernel
theorem dG_mover_13 : decode cG_mover 13 = .ok (.ldc 118, 2) := by decide +kernel
theorem dG_mover_15 : decode cG_mover 15 = .ok (.invokespecial 61, 3) := by decide +kernel
theorem dG_mover_18 : decode cG_mover 18 = .ok (.athrow, 1) := by decide +kernel
theorem dG_mover_19 : decode cG_mover 19 = .ok (.aload_n 0, 1) := by decide +kernel
theorem dG_mover_20 : decode cG_mover 20 = .ok (.getfield 120, 3) := by decide +kernel
theorem dG_mover_23 : decode cG_mover 23 = .ok (.bipush 6, 2) := by decide +kernel
theorem dG_mover_25 : decode cG_mover 25 = .ok (.if_icmp .lt 13, 3) := by decide +kernel
theorem dG_mover_28 : decode cG_mover 28 = .ok (.new 68, 3) := by decide +kernel
theorem dG_mover_31 : decode cG_mover 31 = .ok (.dup, 1) := by decide +kernel
theorem dG_mover_32 : decode cG_mover 32 = .ok (.ldc 123, 2) := by decide +kernel
theorem dG_mover_34 : decode cG_mover 34 = .ok (.invokespecial 72, 3) := by decide +kernel
theorem dG_mover_37 : decode cG_mover 37 = .ok (.athrow, 1) := by decide +kernel
theorem dG_mover_38 : decode cG_mover 38 = .ok (.aload_n 0, 1) := by decide +kernel
theorem dG_mover_39 : decode cG_mover 39 = .ok (.getfield 16, 3) := by decide +kernel
theorem dG_mover_42 : decode cG_mover 42 = .ok (.iload_n 1, 1) := by decide +kernel
theorem dG_mover_43 : decode cG_mover 43 = .ok (.lload_n 2, 1) := by decide +kernel
theorem dG_mover_44 : decode cG_mover 44 = .ok (.invokevirtual 125, 3) := by decide +kernel
theorem dG_mover_47 : decode cG_mover 47 = .ok (.ifCond .ne 5, 3) := by decide +kernel
theorem dG_mover_50 : decode cG_mover 50 = .ok (.iconst (-1), 1) := by decide +kernel
theorem dG_mover_51 : decode cG_mover 51 = .ok (.ireturn, 1) := by decide +kernel
theorem dG_mover_52 : decode cG_mover 52 = .ok (.aload_n 0, 1) := by decide +kernel
theorem dG_mover_53 : decode cG_mover 53 = .ok (.getfield 20, 3) := by decide +kernel
theorem dG_mover_56 : decode cG_mover 56 = .ok (.aload_n 0, 1) := by decide +kernel
theorem dG_mover_57 : decode cG_mover 57 = .ok (.getfield 120, 3) := by decide +kernel
theorem dG_mover_60 : decode cG_mover 60 = .ok (.iload_n 1, 1) := by decide +kernel
theorem dG_mover_61 : decode cG_mover 61 = .ok (.iastore, 1) := by decide +kernel
theorem dG_mover_62 : decode cG_mover 62 = .ok (.aload_n 0, 1) := by decide +kernel
theorem dG_mover_63 : decode cG_mover 63 = .ok (.getfield 23, 3) := by decide +kernel
theorem dG_mover_66 : decode cG_mover 66 = .ok (.aload_n 0, 1) := by decide +kernel
theorem dG_mover_67 : decode cG_mover 67 = .ok (.getfield 120, 3) := by decide +kernel
theorem dG_mover_70 : decode cG_mover 70 = .ok (.lload_n 2, 1) := by decide +kernel
theorem dG_mover_71 : decode cG_mover 71 = .ok (.lastore, 1) := by decide +kernel
theorem dG_mover_72 : decode cG_mover 72 = .ok (.aload_n 0, 1) := by decide +kernel
theorem dG_mover_73 : decode cG_mover 73 = .ok (.dup, 1) := by decide +kernel
theorem dG_mover_74 : decode cG_mover 74 = .ok (.getfield 120, 3) := by decide +kernel
theorem dG_mover_77 : decode cG_mover 77 = .ok (.iconst 1, 1) := by decide +kernel
theorem dG_mover_78 : decode cG_mover 78 = .ok (.iadd, 1) := by decide +kernel
theorem dG_mover_79 : decode cG_mover 79 = .ok (.putfield 120, 3) := by decide +kernel
theorem dG_mover_82 : decode cG_mover 82 = .ok (.aload_n 0, 1) := by decide +kernel
theorem dG_mover_83 : decode cG_mover 83 = .ok (.getfield 120, 3) := by decide +kernel
theorem dG_mover_86 : decode cG_mover 86 = .ok (.iconst 1, 1) := by decide +kernel
theorem dG_mover_87 : decode cG_mover 87 = .ok (.isub, 1) := by decide +kernel
theorem dG_mover_88 : decode cG_mover 88 = .ok (.ireturn, 1) := by decide +kernel
theorem dP_anyFits_0 : decode cP_anyFits 0 = .ok (.iconst 0, 1) := by decide +kernel
theorem dP_anyFits_1 : decode cP_anyFits 1 = .ok (.istore 4, 2) := by decide +kernel
theorem dP_anyFits_3 : decode cP_anyFits 3 = .ok (.iload 4, 2) := by decide +kernel
theorem dP_anyFits_5 : decode cP_anyFits 5 = .ok (.aload_n 0, 1) := by decide +kernel
theorem dP_anyFits_6 : decode cP_anyFits 6 = .ok (.getfield 34, 3) := by decide +kernel
theorem dP_anyFits_9 : decode cP_anyFits 9 = .ok (.if_icmp .ge 22, 3) := by decide +kernel
theorem dP_anyFits_12 : decode cP_anyFits 12 = .ok (.aload_n 0, 1) := by decide +kernel
theorem dP_anyFits_13 : decode cP_anyFits 13 = .ok (.iload 4, 2) := by decide +kernel
theorem dP_anyFits_15 : decode cP_anyFits 15 = .ok (.iload_n 1, 1) := by decide +kernel
theorem dP_anyFits_16 : decode cP_anyFits 16 = .ok (.lload_n 2, 1) := by decide +kernel
theorem dP_anyFits_17 : decode cP_anyFits 17 = .ok (.invokevirtual 52, 3) := by decide +kernel
theorem dP_anyFits_20 : decode cP_anyFits 20 = .ok (.ifCond .eq 5, 3) := by decide +kernel
theorem dP_anyFits_23 : decode cP_anyFits 23 = .ok (.iconst 1, 1) := by decide +kernel
theorem dP_anyFits_24 : decode cP_anyFits 24 = .ok (.ireturn, 1) := by decide +kernel
theorem dP_anyFits_25 : decode cP_anyFits 25 = .ok (.iinc 4 1, 3) := by decide +kernel
theorem dP_anyFits_28 : decode cP_anyFits 28 = .ok (.goto (-25), 3) := by decide +kernel
theorem dP_anyFits_31 : decode cP_anyFits 31 = .ok (.iconst 0, 1) := by decide +kernel
theorem dP_anyFits_32 : decode cP_anyFits 32 = .ok (.ireturn, 1) := by decide +kernel
theorem dP_fits_0 : decode cP_fits 0 = .ok (.iload_n 2, 1) := by decide +kernel
theorem dP_fits_1 : decode cP_fits 1 = .ok (.aload_n 0, 1) := by decide +kernel
theorem dP_fits_2 : decode cP_fits 2 = .ok (.getfield 22, 3) := by decide +kernel
theorem dP_fits_5 : decode cP_fits 5 = .ok (.iload_n 1, 1) := by decide +kernel
theorem dP_fits_6 : decode cP_fits 6 = .ok (.iaload, 1) := by decide +kernel
theorem dP_fits_7 : decode cP_fits 7 = .ok (.if_icmp .gt 18, 3) := by decide +kernel
theorem dP_fits_10 : decode cP_fits 10 = .ok (.lload_n 3, 1) := by decide +kernel
theorem dP_fits_11 : decode cP_fits 11 = .ok (.aload_n 0, 1) := by decide +kernel
theorem dP_fits_12 : decode cP_fits 12 = .ok (.getfield 25, 3) := by decide +kernel
theorem dP_fits_15 : decode cP_fits 15 = .ok (.iload_n 1, 1) := by decide +kernel
theorem dP_fits_16 : decode cP_fits 16 = .ok (.laload, 1) := by decide +kernel
theorem dP_fits_17 : decode cP_fits 17 = .ok (.lcmp, 1) := by decide +kernel
theorem dP_fits_18 : decode cP_fits 18 = .ok (.ifCond .gt 7, 3) := by decide +kernel
theorem dP_fits_21 : decode cP_fits 21 = .ok (.iconst 1, 1) := by decide +kernel
theorem dP_fits_22 : decode cP_fits 22 = .ok (.goto 4, 3) := by decide +kernel
theorem dP_fits_25 : decode cP_fits 25 = .ok (.iconst 0, 1) := by decide +kernel
theorem dP_fits_26 : decode cP_fits 26 = .ok (.ireturn, 1) := by decide +kernel
theorem dW_closed_0 : decode cW_closed 0 = .ok (.aload_n 3, 1) := by decide +kernel
theorem dW_closed_1 : decode cW_closed 1 = .ok (.iconst 0, 1) := by decide +kernel
theorem dW_closed_2 : decode cW_closed 2 = .ok (.aload_n 0, 1) := by decide +kernel
theorem dW_closed_3 : decode cW_closed 3 = .ok (.iload_n 1, 1) := by decide +kernel
theorem dW_closed_4 : decode cW_closed 4 = .ok (.iload_n 2, 1) := by decide +kernel
theorem dW_closed_5 : decode cW_closed 5 = .ok (.invokevirtual 35, 3) := by decide +kernel
theorem dW_closed_8 : decode cW_closed 8 = .ok (.i2l, 1) := by decide +kernel
theorem dW_closed_9 : decode cW_closed 9 = .ok (.lastore, 1) := by decide +kernel
theorem dW_closed_10 : decode cW_closed 10 = .ok (.goto 7, 3) := by decide +kernel
theorem dW_closed_13 : decode cW_closed 13 = .ok (.astore 4, 2) := by decide +kernel
theorem dW_closed_15 : decode cW_closed 15 = .ok (.iconst 1, 1) := by decide +kernel
theorem dW_closed_16 : decode cW_closed 16 = .ok (.ireturn, 1) := by decide +kernel
theorem dW_closed_17 : decode cW_closed 17 = .ok (.iconst 0, 1) := by decide +kernel
theorem dW_closed_18 : decode cW_closed 18 = .ok (.ireturn, 1) := by decide +kernel
theorem dG_closed_0 : decode cG_closed 0 = .ok (.aload_n 0, 1) := by decide +kernel
theorem dG_closed_1 : decode cG_closed 1 = .ok (.getfield 16, 3) := by decide +kernel
theorem dG_closed_4 : decode cG_closed 4 = .ok (.iload_n 1, 1) := by decide +kernel
theorem dG_closed_5 : decode cG_closed 5 = .ok (.invokevirtual 103, 3) := by decide +kernel
theorem dG_closed_8 : decode cG_closed 8 = .ok (.ifCond .ne 13, 3) := by decide +kernel
theorem dG_closed_11 : decode cG_closed 11 = .ok (.new 57, 3) := by decide +kernel
theorem dG_closed_14 : decode cG_closed 14 = .ok (.dup, 1) := by decide +kernel
theorem dG_closed_15 : decode cG_closed 15 = .ok (.ldc 129, 2) := by decide +kernel
theorem dG_closed_17 : decode cG_closed 17 = .ok (.invokespecial 61, 3) := by decide +kernel
theorem dG_closed_20 : decode cG_closed 20 = .ok (.athrow, 1) := by decide +kernel
theorem dG_closed_21 : decode cG_closed 21 = .ok (.aload_n 0, 1) := by decide +kernel
theorem dG_closed_22 : decode cG_closed 22 = .ok (.getfield 16, 3) := by decide +kernel

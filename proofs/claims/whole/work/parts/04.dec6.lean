theorem dM_keep_34 : decode cM_keep 34 = .ok (.getfield 155, 3) := by decide +kernel
theorem dM_keep_37 : decode cM_keep 37 = .ok (.aload_n 0, 1) := by decide +kernel
theorem dM_keep_38 : decode cM_keep 38 = .ok (.getfield 155, 3) := by decide +kernel
theorem dM_keep_41 : decode cM_keep 41 = .ok (.iconst 5, 1) := by decide +kernel
theorem dM_keep_42 : decode cM_keep 42 = .ok (.if_icmp .ge 7, 3) := by decide +kernel
theorem dM_keep_45 : decode cM_keep 45 = .ok (.iconst 1, 1) := by decide +kernel
theorem dM_keep_46 : decode cM_keep 46 = .ok (.goto 4, 3) := by decide +kernel
theorem dM_keep_49 : decode cM_keep 49 = .ok (.iconst 0, 1) := by decide +kernel
theorem dM_keep_50 : decode cM_keep 50 = .ok (.iadd, 1) := by decide +kernel
theorem dM_keep_51 : decode cM_keep 51 = .ok (.putfield 155, 3) := by decide +kernel
theorem dM_keep_54 : decode cM_keep 54 = .ok (.aload_n 0, 1) := by decide +kernel
theorem dM_keep_55 : decode cM_keep 55 = .ok (.getfield 155, 3) := by decide +kernel
theorem dM_keep_58 : decode cM_keep 58 = .ok (.iconst 1, 1) := by decide +kernel
theorem dM_keep_59 : decode cM_keep 59 = .ok (.isub, 1) := by decide +kernel
theorem dM_keep_60 : decode cM_keep 60 = .ok (.istore_n 3, 1) := by decide +kernel
theorem dM_keep_61 : decode cM_keep 61 = .ok (.iload_n 3, 1) := by decide +kernel
theorem dM_keep_62 : decode cM_keep 62 = .ok (.iload_n 2, 1) := by decide +kernel
theorem dM_keep_63 : decode cM_keep 63 = .ok (.if_icmp .le 76, 3) := by decide +kernel
theorem dM_keep_66 : decode cM_keep 66 = .ok (.aload_n 0, 1) := by decide +kernel
theorem dM_keep_67 : decode cM_keep 67 = .ok (.getfield 54, 3) := by decide +kernel
theorem dM_keep_70 : decode cM_keep 70 = .ok (.iload_n 3, 1) := by decide +kernel
theorem dM_keep_71 : decode cM_keep 71 = .ok (.aload_n 0, 1) := by decide +kernel
theorem dM_keep_72 : decode cM_keep 72 = .ok (.getfield 54, 3) := by decide +kernel
theorem dM_keep_75 : decode cM_keep 75 = .ok (.iload_n 3, 1) := by decide +kernel
theorem dM_keep_76 : decode cM_keep 76 = .ok (.iconst 1, 1) := by decide +kernel
theorem dM_keep_77 : decode cM_keep 77 = .ok (.isub, 1) := by decide +kernel
theorem dM_keep_78 : decode cM_keep 78 = .ok (.laload, 1) := by decide +kernel
theorem dM_keep_79 : decode cM_keep 79 = .ok (.lastore, 1) := by decide +kernel
theorem dM_keep_80 : decode cM_keep 80 = .ok (.aload_n 0, 1) := by decide +kernel
theorem dM_keep_81 : decode cM_keep 81 = .ok (.getfield 57, 3) := by decide +kernel
theorem dM_keep_84 : decode cM_keep 84 = .ok (.iload_n 3, 1) := by decide +kernel
theorem dM_keep_85 : decode cM_keep 85 = .ok (.aload_n 0, 1) := by decide +kernel
theorem dM_keep_86 : decode cM_keep 86 = .ok (.getfield 57, 3) := by decide +kernel
theorem dM_keep_89 : decode cM_keep 89 = .ok (.iload_n 3, 1) := by decide +kernel
theorem dM_keep_90 : decode cM_keep 90 = .ok (.iconst 1, 1) := by decide +kernel
theorem dM_keep_91 : decode cM_keep 91 = .ok (.isub, 1) := by decide +kernel
theorem dM_keep_92 : decode cM_keep 92 = .ok (.iaload, 1) := by decide +kernel
theorem dM_keep_93 : decode cM_keep 93 = .ok (.iastore, 1) := by decide +kernel
theorem dM_keep_94 : decode cM_keep 94 = .ok (.iconst 0, 1) := by decide +kernel
theorem dM_keep_95 : decode cM_keep 95 = .ok (.istore 4, 2) := by decide +kernel
theorem dM_keep_97 : decode cM_keep 97 = .ok (.iload 4, 2) := by decide +kernel
theorem dM_keep_99 : decode cM_keep 99 = .ok (.iconst 5, 1) := by decide +kernel
theorem dM_keep_100 : decode cM_keep 100 = .ok (.if_icmp .ge 33, 3) := by decide +kernel
theorem dM_keep_103 : decode cM_keep 103 = .ok (.aload_n 0, 1) := by decide +kernel
theorem dM_keep_104 : decode cM_keep 104 = .ok (.getfield 60, 3) := by decide +kernel
theorem dM_keep_107 : decode cM_keep 107 = .ok (.iconst 5, 1) := by decide +kernel
theorem dM_keep_108 : decode cM_keep 108 = .ok (.iload_n 3, 1) := by decide +kernel
theorem dM_keep_109 : decode cM_keep 109 = .ok (.imul, 1) := by decide +kernel
theorem dM_keep_110 : decode cM_keep 110 = .ok (.iload 4, 2) := by decide +kernel
theorem dM_keep_112 : decode cM_keep 112 = .ok (.iadd, 1) := by decide +kernel
theorem dM_keep_113 : decode cM_keep 113 = .ok (.aload_n 0, 1) := by decide +kernel
theorem dM_keep_114 : decode cM_keep 114 = .ok (.getfield 60, 3) := by decide +kernel
theorem dM_keep_117 : decode cM_keep 117 = .ok (.iconst 5, 1) := by decide +kernel
theorem dM_keep_118 : decode cM_keep 118 = .ok (.iload_n 3, 1) := by decide +kernel
theorem dM_keep_119 : decode cM_keep 119 = .ok (.iconst 1, 1) := by decide +kernel
theorem dM_keep_120 : decode cM_keep 120 = .ok (.isub, 1) := by decide +kernel
theorem dM_keep_121 : decode cM_keep 121 = .ok (.imul, 1) := by decide +kernel
theorem dM_keep_122 : decode cM_keep 122 = .ok (.iload 4, 2) := by decide +kernel
theorem dM_keep_124 : decode cM_keep 124 = .ok (.iadd, 1) := by decide +kernel
theorem dM_keep_125 : decode cM_keep 125 = .ok (.iaload, 1) := by decide +kernel
theorem dM_keep_126 : decode cM_keep 126 = .ok (.iastore, 1) := by decide +kernel
theorem dM_keep_127 : decode cM_keep 127 = .ok (.iinc 4 1, 3) := by decide +kernel
theorem dM_keep_130 : decode cM_keep 130 = .ok (.goto (-33), 3) := by decide +kernel
theorem dM_keep_133 : decode cM_keep 133 = .ok (.iinc 3 (-1), 3) := by decide +kernel
theorem dM_keep_136 : decode cM_keep 136 = .ok (.goto (-75), 3) := by decide +kernel
theorem dM_keep_139 : decode cM_keep 139 = .ok (.aload_n 0, 1) := by decide +kernel
theorem dM_keep_140 : decode cM_keep 140 = .ok (.getfield 54, 3) := by decide +kernel
theorem dM_keep_143 : decode cM_keep 143 = .ok (.iload_n 2, 1) := by decide +kernel
theorem dM_keep_144 : decode cM_keep 144 = .ok (.aload_n 0, 1) := by decide +kernel
theorem dM_keep_145 : decode cM_keep 145 = .ok (.getfield 66, 3) := by decide +kernel
theorem dM_keep_148 : decode cM_keep 148 = .ok (.iload_n 1, 1) := by decide +kernel
theorem dM_keep_149 : decode cM_keep 149 = .ok (.laload, 1) := by decide +kernel
theorem dM_keep_150 : decode cM_keep 150 = .ok (.lastore, 1) := by decide +kernel
theorem dM_keep_151 : decode cM_keep 151 = .ok (.aload_n 0, 1) := by decide +kernel
theorem dM_keep_152 : decode cM_keep 152 = .ok (.getfield 57, 3) := by decide +kernel
theorem dM_keep_155 : decode cM_keep 155 = .ok (.iload_n 2, 1) := by decide +kernel
theorem dM_keep_156 : decode cM_keep 156 = .ok (.iload_n 1, 1) := by decide +kernel
theorem dM_keep_157 : decode cM_keep 157 = .ok (.iastore, 1) := by decide +kernel
theorem dM_keep_158 : decode cM_keep 158 = .ok (.iconst 0, 1) := by decide +kernel
theorem dM_keep_159 : decode cM_keep 159 = .ok (.istore_n 3, 1) := by decide +kernel
theorem dM_keep_160 : decode cM_keep 160 = .ok (.iload_n 3, 1) := by decide +kernel
theorem dM_keep_161 : decode cM_keep 161 = .ok (.iload_n 1, 1) := by decide +kernel
theorem dM_keep_162 : decode cM_keep 162 = .ok (.if_icmp .ge 25, 3) := by decide +kernel
theorem dM_keep_165 : decode cM_keep 165 = .ok (.aload_n 0, 1) := by decide +kernel
theorem dM_keep_166 : decode cM_keep 166 = .ok (.getfield 60, 3) := by decide +kernel
theorem dM_keep_169 : decode cM_keep 169 = .ok (.iconst 5, 1) := by decide +kernel
theorem dM_keep_170 : decode cM_keep 170 = .ok (.iload_n 2, 1) := by decide +kernel
theorem dM_keep_171 : decode cM_keep 171 = .ok (.imul, 1) := by decide +kernel
theorem dM_keep_172 : decode cM_keep 172 = .ok (.iload_n 3, 1) := by decide +kernel
theorem dM_keep_173 : decode cM_keep 173 = .ok (.iadd, 1) := by decide +kernel
theorem dM_keep_174 : decode cM_keep 174 = .ok (.aload_n 0, 1) := by decide +kernel
theorem dM_keep_175 : decode cM_keep 175 = .ok (.getfield 63, 3) := by decide +kernel
theorem dM_keep_178 : decode cM_keep 178 = .ok (.iload_n 3, 1) := by decide +kernel
theorem dM_keep_179 : decode cM_keep 179 = .ok (.iaload, 1) := by decide +kernel
theorem dM_keep_180 : decode cM_keep 180 = .ok (.iastore, 1) := by decide +kernel
theorem dM_keep_181 : decode cM_keep 181 = .ok (.iinc 3 1, 3) := by decide +kernel
theorem dM_keep_184 : decode cM_keep 184 = .ok (.goto (-24), 3) := by decide +kernel
theorem dM_keep_187 : decode cM_keep 187 = .ok (.return_, 1) := by decide +kernel
theorem dM_isBetter_0 : decode cM_isBetter 0 = .ok (.aload_n 0, 1) := by decide +kernel
theorem dM_isBetter_1 : decode cM_isBetter 1 = .ok (.getfield 66, 3) := by decide +kernel
theorem dM_isBetter_4 : decode cM_isBetter 4 = .ok (.iload_n 1, 1) := by decide +kernel
theorem dM_isBetter_5 : decode cM_isBetter 5 = .ok (.laload, 1) := by decide +kernel
theorem dM_isBetter_6 : decode cM_isBetter 6 = .ok (.aload_n 0, 1) := by decide +kernel
theorem dM_isBetter_7 : decode cM_isBetter 7 = .ok (.getfield 54, 3) := by decide +kernel
theorem dM_isBetter_10 : decode cM_isBetter 10 = .ok (.iload_n 2, 1) := by decide +kernel
theorem dM_isBetter_11 : decode cM_isBetter 11 = .ok (.laload, 1) := by decide +kernel
theorem dM_isBetter_12 : decode cM_isBetter 12 = .ok (.lcmp, 1) := by decide +kernel
theorem dM_isBetter_13 : decode cM_isBetter 13 = .ok (.ifCond .eq 25, 3) := by decide +kernel
theorem dM_isBetter_16 : decode cM_isBetter 16 = .ok (.aload_n 0, 1) := by decide +kernel
theorem dM_isBetter_17 : decode cM_isBetter 17 = .ok (.getfield 66, 3) := by decide +kernel
theorem dM_isBetter_20 : decode cM_isBetter 20 = .ok (.iload_n 1, 1) := by decide +kernel
theorem dM_isBetter_21 : decode cM_isBetter 21 = .ok (.laload, 1) := by decide +kernel
theorem dM_isBetter_22 : decode cM_isBetter 22 = .ok (.aload_n 0, 1) := by decide +kernel
theorem dM_isBetter_23 : decode cM_isBetter 23 = .ok (.getfield 54, 3) := by decide +kernel
theorem dM_isBetter_26 : decode cM_isBetter 26 = .ok (.iload_n 2, 1) := by decide +kernel
theorem dM_isBetter_27 : decode cM_isBetter 27 = .ok (.laload, 1) := by decide +kernel
theorem dM_isBetter_28 : decode cM_isBetter 28 = .ok (.lcmp, 1) := by decide +kernel
theorem dM_isBetter_29 : decode cM_isBetter 29 = .ok (.ifCond .ge 7, 3) := by decide +kernel
theorem dM_isBetter_32 : decode cM_isBetter 32 = .ok (.iconst 1, 1) := by decide +kernel
theorem dM_isBetter_33 : decode cM_isBetter 33 = .ok (.goto 4, 3) := by decide +kernel
theorem dM_isBetter_36 : decode cM_isBetter 36 = .ok (.iconst 0, 1) := by decide +kernel
theorem dM_isBetter_37 : decode cM_isBetter 37 = .ok (.ireturn, 1) := by decide +kernel
theorem dM_isBetter_38 : decode cM_isBetter 38 = .ok (.iconst 0, 1) := by decide +kernel
theorem dM_isBetter_39 : decode cM_isBetter 39 = .ok (.istore_n 3, 1) := by decide +kernel
theorem dM_isBetter_40 : decode cM_isBetter 40 = .ok (.iload_n 3, 1) := by decide +kernel
theorem dM_isBetter_41 : decode cM_isBetter 41 = .ok (.iload_n 1, 1) := by decide +kernel
theorem dM_isBetter_42 : decode cM_isBetter 42 = .ok (.if_icmp .ge 63, 3) := by decide +kernel
theorem dM_isBetter_45 : decode cM_isBetter 45 = .ok (.iload_n 3, 1) := by decide +kernel
theorem dM_isBetter_46 : decode cM_isBetter 46 = .ok (.aload_n 0, 1) := by decide +kernel
theorem dM_isBetter_47 : decode cM_isBetter 47 = .ok (.getfield 57, 3) := by decide +kernel
theorem dM_isBetter_50 : decode cM_isBetter 50 = .ok (.iload_n 2, 1) := by decide +kernel
theorem dM_isBetter_51 : decode cM_isBetter 51 = .ok (.iaload, 1) := by decide +kernel
theorem dM_isBetter_52 : decode cM_isBetter 52 = .ok (.if_icmp .ge 53, 3) := by decide +kernel
theorem dM_isBetter_55 : decode cM_isBetter 55 = .ok (.aload_n 0, 1) := by decide +kernel
theorem dM_isBetter_56 : decode cM_isBetter 56 = .ok (.getfield 63, 3) := by decide +kernel
theorem dM_isBetter_59 : decode cM_isBetter 59 = .ok (.iload_n 3, 1) := by decide +kernel
theorem dM_isBetter_60 : decode cM_isBetter 60 = .ok (.iaload, 1) := by decide +kernel
theorem dM_isBetter_61 : decode cM_isBetter 61 = .ok (.aload_n 0, 1) := by decide +kernel
theorem dM_isBetter_62 : decode cM_isBetter 62 = .ok (.getfield 60, 3) := by decide +kernel
theorem dM_isBetter_65 : decode cM_isBetter 65 = .ok (.iconst 5, 1) := by decide +kernel
theorem dM_isBetter_66 : decode cM_isBetter 66 = .ok (.iload_n 2, 1) := by decide +kernel
theorem dM_isBetter_67 : decode cM_isBetter 67 = .ok (.imul, 1) := by decide +kernel
theorem dM_isBetter_68 : decode cM_isBetter 68 = .ok (.iload_n 3, 1) := by decide +kernel
theorem dM_isBetter_69 : decode cM_isBetter 69 = .ok (.iadd, 1) := by decide +kernel
theorem dM_isBetter_70 : decode cM_isBetter 70 = .ok (.iaload, 1) := by decide +kernel
theorem dM_isBetter_71 : decode cM_isBetter 71 = .ok (.if_icmp .eq 28, 3) := by decide +kernel
theorem dM_isBetter_74 : decode cM_isBetter 74 = .ok (.aload_n 0, 1) := by decide +kernel
theorem dM_isBetter_75 : decode cM_isBetter 75 = .ok (.getfield 63, 3) := by decide +kernel
theorem dM_isBetter_78 : decode cM_isBetter 78 = .ok (.iload_n 3, 1) := by decide +kernel
theorem dM_isBetter_79 : decode cM_isBetter 79 = .ok (.iaload, 1) := by decide +kernel
theorem dM_isBetter_80 : decode cM_isBetter 80 = .ok (.aload_n 0, 1) := by decide +kernel
theorem dM_isBetter_81 : decode cM_isBetter 81 = .ok (.getfield 60, 3) := by decide +kernel
theorem dM_isBetter_84 : decode cM_isBetter 84 = .ok (.iconst 5, 1) := by decide +kernel
theorem dM_isBetter_85 : decode cM_isBetter 85 = .ok (.iload_n 2, 1) := by decide +kernel
theorem dM_isBetter_86 : decode cM_isBetter 86 = .ok (.imul, 1) := by decide +kernel
theorem dM_isBetter_87 : decode cM_isBetter 87 = .ok (.iload_n 3, 1) := by decide +kernel
theorem dM_isBetter_88 : decode cM_isBetter 88 = .ok (.iadd, 1) := by decide +kernel
theorem dM_isBetter_89 : decode cM_isBetter 89 = .ok (.iaload, 1) := by decide +kernel
theorem dM_isBetter_90 : decode cM_isBetter 90 = .ok (.if_icmp .ge 7, 3) := by decide +kernel
theorem dM_isBetter_93 : decode cM_isBetter 93 = .ok (.iconst 1, 1) := by decide +kernel
theorem dM_isBetter_94 : decode cM_isBetter 94 = .ok (.goto 4, 3) := by decide +kernel
theorem dM_isBetter_97 : decode cM_isBetter 97 = .ok (.iconst 0, 1) := by decide +kernel
theorem dM_isBetter_98 : decode cM_isBetter 98 = .ok (.ireturn, 1) := by decide +kernel
theorem dM_isBetter_99 : decode cM_isBetter 99 = .ok (.iinc 3 1, 3) := by decide +kernel
theorem dM_isBetter_102 : decode cM_isBetter 102 = .ok (.goto (-62), 3) := by decide +kernel
theorem dM_isBetter_105 : decode cM_isBetter 105 = .ok (.iload_n 1, 1) := by decide +kernel
theorem dM_isBetter_106 : decode cM_isBetter 106 = .ok (.aload_n 0, 1) := by decide +kernel
theorem dM_isBetter_107 : decode cM_isBetter 107 = .ok (.getfield 57, 3) := by decide +kernel
theorem dM_isBetter_110 : decode cM_isBetter 110 = .ok (.iload_n 2, 1) := by decide +kernel
theorem dM_isBetter_111 : decode cM_isBetter 111 = .ok (.iaload, 1) := by decide +kernel
theorem dM_isBetter_112 : decode cM_isBetter 112 = .ok (.if_icmp .ge 7, 3) := by decide +kernel
theorem dM_isBetter_115 : decode cM_isBetter 115 = .ok (.iconst 1, 1) := by decide +kernel
theorem dM_isBetter_116 : decode cM_isBetter 116 = .ok (.goto 4, 3) := by decide +kernel
theorem dM_isBetter_119 : decode cM_isBetter 119 = .ok (.iconst 0, 1) := by decide +kernel
theorem dM_isBetter_120 : decode cM_isBetter 120 = .ok (.ireturn, 1) := by decide +kernel
theorem dM_told_0 : decode cM_told 0 = .ok (.aload_n 0, 1) := by decide +kernel
theorem dM_told_1 : decode cM_told 1 = .ok (.aload_n 0, 1) := by decide +kernel
theorem dM_told_2 : decode cM_told 2 = .ok (.iload_n 1, 1) := by decide +kernel
theorem dM_told_3 : decode cM_told 3 = .ok (.invokevirtual 98, 3) := by decide +kernel
theorem dM_told_6 : decode cM_told 6 = .ok (.ifCond .eq 15, 3) := by decide +kernel
theorem dM_told_9 : decode cM_told 9 = .ok (.iload_n 2, 1) := by decide +kernel
theorem dM_told_10 : decode cM_told 10 = .ok (.i2l, 1) := by decide +kernel
theorem dM_told_11 : decode cM_told 11 = .ok (.lconst 0, 1) := by decide +kernel
theorem dM_told_12 : decode cM_told 12 = .ok (.ldc2_w 174, 3) := by decide +kernel
theorem dM_told_15 : decode cM_told 15 = .ok (.invokestatic 76, 3) := by decide +kernel
theorem dM_told_18 : decode cM_told 18 = .ok (.ifCond .ne 7, 3) := by decide +kernel
theorem dM_told_21 : decode cM_told 21 = .ok (.iconst 1, 1) := by decide +kernel
theorem dM_told_22 : decode cM_told 22 = .ok (.goto 4, 3) := by decide +kernel
theorem dM_told_25 : decode cM_told 25 = .ok (.iconst 0, 1) := by decide +kernel
theorem dM_told_26 : decode cM_told 26 = .ok (.putfield 69, 3) := by decide +kernel
theorem dM_told_29 : decode cM_told 29 = .ok (.aload_n 0, 1) := by decide +kernel
theorem dM_told_30 : decode cM_told 30 = .ok (.getfield 69, 3) := by decide +kernel
theorem dM_told_33 : decode cM_told 33 = .ok (.ifCond .le 5, 3) := by decide +kernel
theorem dM_told_36 : decode cM_told 36 = .ok (.lconst 0, 1) := by decide +kernel
theorem dM_told_37 : decode cM_told 37 = .ok (.lreturn, 1) := by decide +kernel
theorem dM_told_38 : decode cM_told 38 = .ok (.iload_n 2, 1) := by decide +kernel
theorem dM_told_39 : decode cM_told 39 = .ok (.ifCond .ne 11, 3) := by decide +kernel
theorem dM_told_42 : decode cM_told 42 = .ok (.aload_n 0, 1) := by decide +kernel
theorem dM_told_43 : decode cM_told 43 = .ok (.getfield 13, 3) := by decide +kernel
theorem dM_told_46 : decode cM_told 46 = .ok (.iload_n 1, 1) := by decide +kernel
theorem dM_told_47 : decode cM_told 47 = .ok (.iaload, 1) := by decide +kernel
theorem dM_told_48 : decode cM_told 48 = .ok (.i2l, 1) := by decide +kernel
theorem dM_told_49 : decode cM_told 49 = .ok (.lreturn, 1) := by decide +kernel
theorem dM_told_50 : decode cM_told 50 = .ok (.iload_n 2, 1) := by decide +kernel
theorem dM_told_51 : decode cM_told 51 = .ok (.iconst 1, 1) := by decide +kernel
theorem dM_told_52 : decode cM_told 52 = .ok (.if_icmp .ne 11, 3) := by decide +kernel
theorem dM_told_55 : decode cM_told 55 = .ok (.aload_n 0, 1) := by decide +kernel
theorem dM_told_56 : decode cM_told 56 = .ok (.getfield 16, 3) := by decide +kernel
theorem dM_told_59 : decode cM_told 59 = .ok (.iload_n 1, 1) := by decide +kernel
theorem dM_told_60 : decode cM_told 60 = .ok (.iaload, 1) := by decide +kernel
theorem dM_told_61 : decode cM_told 61 = .ok (.i2l, 1) := by decide +kernel
theorem dM_told_62 : decode cM_told 62 = .ok (.lreturn, 1) := by decide +kernel
theorem dM_told_63 : decode cM_told 63 = .ok (.iload_n 2, 1) := by decide +kernel
theorem dM_told_64 : decode cM_told 64 = .ok (.iconst 2, 1) := by decide +kernel
theorem dM_told_65 : decode cM_told 65 = .ok (.if_icmp .ne 10, 3) := by decide +kernel
theorem dM_told_68 : decode cM_told 68 = .ok (.aload_n 0, 1) := by decide +kernel
theorem dM_told_69 : decode cM_told 69 = .ok (.getfield 19, 3) := by decide +kernel
theorem dM_told_72 : decode cM_told 72 = .ok (.iload_n 1, 1) := by decide +kernel
theorem dM_told_73 : decode cM_told 73 = .ok (.laload, 1) := by decide +kernel
theorem dM_told_74 : decode cM_told 74 = .ok (.lreturn, 1) := by decide +kernel
theorem dM_told_75 : decode cM_told 75 = .ok (.iload_n 2, 1) := by decide +kernel
theorem dM_told_76 : decode cM_told 76 = .ok (.iconst 3, 1) := by decide +kernel
theorem dM_told_77 : decode cM_told 77 = .ok (.if_icmp .ne 18, 3) := by decide +kernel
theorem dM_told_80 : decode cM_told 80 = .ok (.aload_n 0, 1) := by decide +kernel
theorem dM_told_81 : decode cM_told 81 = .ok (.getfield 29, 3) := by decide +kernel
theorem dM_told_84 : decode cM_told 84 = .ok (.iload_n 1, 1) := by decide +kernel
theorem dM_told_85 : decode cM_told 85 = .ok (.baload, 1) := by decide +kernel
theorem dM_told_86 : decode cM_told 86 = .ok (.ifCond .eq 7, 3) := by decide +kernel
theorem dM_told_89 : decode cM_told 89 = .ok (.lconst 1, 1) := by decide +kernel
theorem dM_told_90 : decode cM_told 90 = .ok (.goto 4, 3) := by decide +kernel
theorem dM_told_93 : decode cM_told 93 = .ok (.lconst 0, 1) := by decide +kernel
theorem dM_told_94 : decode cM_told 94 = .ok (.lreturn, 1) := by decide +kernel
theorem dM_told_95 : decode cM_told 95 = .ok (.iload_n 2, 1) := by decide +kernel
theorem dM_told_96 : decode cM_told 96 = .ok (.iconst 4, 1) := by decide +kernel
theorem dM_told_97 : decode cM_told 97 = .ok (.if_icmp .ne 13, 3) := by decide +kernel
theorem dM_told_100 : decode cM_told 100 = .ok (.aload_n 0, 1) := by decide +kernel
theorem dM_told_101 : decode cM_told 101 = .ok (.getfield 33, 3) := by decide +kernel
theorem dM_told_104 : decode cM_told 104 = .ok (.iload_n 1, 1) := by decide +kernel
theorem dM_told_105 : decode cM_told 105 = .ok (.iaload, 1) := by decide +kernel
theorem dM_told_106 : decode cM_told 106 = .ok (.i2l, 1) := by decide +kernel
theorem dM_told_107 : decode cM_told 107 = .ok (.goto 25, 3) := by decide +kernel
theorem dM_told_110 : decode cM_told 110 = .ok (.iload_n 2, 1) := by decide +kernel
theorem dM_told_111 : decode cM_told 111 = .ok (.iconst 5, 1) := by decide +kernel
theorem dM_told_112 : decode cM_told 112 = .ok (.if_icmp .ne 13, 3) := by decide +kernel
theorem dM_told_115 : decode cM_told 115 = .ok (.aload_n 0, 1) := by decide +kernel
theorem dM_told_116 : decode cM_told 116 = .ok (.getfield 23, 3) := by decide +kernel
theorem dM_told_119 : decode cM_told 119 = .ok (.iload_n 1, 1) := by decide +kernel
theorem dM_told_120 : decode cM_told 120 = .ok (.iaload, 1) := by decide +kernel
theorem dM_told_121 : decode cM_told 121 = .ok (.i2l, 1) := by decide +kernel
theorem dM_told_122 : decode cM_told 122 = .ok (.goto 10, 3) := by decide +kernel
theorem dM_told_125 : decode cM_told 125 = .ok (.aload_n 0, 1) := by decide +kernel
theorem dM_told_126 : decode cM_told 126 = .ok (.getfield 26, 3) := by decide +kernel
theorem dM_told_129 : decode cM_told 129 = .ok (.iload_n 1, 1) := by decide +kernel
theorem dM_told_130 : decode cM_told 130 = .ok (.iaload, 1) := by decide +kernel
theorem dM_told_131 : decode cM_told 131 = .ok (.i2l, 1) := by decide +kernel
theorem dM_told_132 : decode cM_told 132 = .ok (.lreturn, 1) := by decide +kernel
theorem dM_count_0 : decode cM_count 0 = .ok (.aload_n 0, 1) := by decide +kernel
theorem dM_count_1 : decode cM_count 1 = .ok (.iconst 0, 1) := by decide +kernel
theorem dM_count_2 : decode cM_count 2 = .ok (.putfield 69, 3) := by decide +kernel
theorem dM_count_5 : decode cM_count 5 = .ok (.iload_n 1, 1) := by decide +kernel
theorem dM_count_6 : decode cM_count 6 = .ok (.ifCond .ne 8, 3) := by decide +kernel
theorem dM_count_9 : decode cM_count 9 = .ok (.aload_n 0, 1) := by decide +kernel
theorem dM_count_10 : decode cM_count 10 = .ok (.getfield 73, 3) := by decide +kernel
theorem dM_count_13 : decode cM_count 13 = .ok (.ireturn, 1) := by decide +kernel
theorem dM_count_14 : decode cM_count 14 = .ok (.iload_n 1, 1) := by decide +kernel
theorem dM_count_15 : decode cM_count 15 = .ok (.iconst 1, 1) := by decide +kernel
theorem dM_count_16 : decode cM_count 16 = .ok (.if_icmp .ne 8, 3) := by decide +kernel
theorem dM_count_19 : decode cM_count 19 = .ok (.aload_n 0, 1) := by decide +kernel
theorem dM_count_20 : decode cM_count 20 = .ok (.getfield 80, 3) := by decide +kernel
theorem dM_count_23 : decode cM_count 23 = .ok (.ireturn, 1) := by decide +kernel
theorem dM_count_24 : decode cM_count 24 = .ok (.iload_n 1, 1) := by decide +kernel
theorem dM_count_25 : decode cM_count 25 = .ok (.iconst 2, 1) := by decide +kernel
theorem dM_count_26 : decode cM_count 26 = .ok (.if_icmp .ne 8, 3) := by decide +kernel
theorem dM_count_29 : decode cM_count 29 = .ok (.aload_n 0, 1) := by decide +kernel
theorem dM_count_30 : decode cM_count 30 = .ok (.getfield 101, 3) := by decide +kernel
theorem dM_count_33 : decode cM_count 33 = .ok (.ireturn, 1) := by decide +kernel
theorem dM_count_34 : decode cM_count 34 = .ok (.iload_n 1, 1) := by decide +kernel
theorem dM_count_35 : decode cM_count 35 = .ok (.iconst 3, 1) := by decide +kernel
theorem dM_count_36 : decode cM_count 36 = .ok (.if_icmp .ne 8, 3) := by decide +kernel
theorem dM_count_39 : decode cM_count 39 = .ok (.aload_n 0, 1) := by decide +kernel
theorem dM_count_40 : decode cM_count 40 = .ok (.getfield 149, 3) := by decide +kernel
theorem dM_count_43 : decode cM_count 43 = .ok (.ireturn, 1) := by decide +kernel
theorem dM_count_44 : decode cM_count 44 = .ok (.iconst 0, 1) := by decide +kernel
theorem dM_count_45 : decode cM_count 45 = .ok (.istore_n 2, 1) := by decide +kernel
theorem dM_count_46 : decode cM_count 46 = .ok (.iconst 0, 1) := by decide +kernel
theorem dM_count_47 : decode cM_count 47 = .ok (.istore_n 3, 1) := by decide +kernel
theorem dM_count_48 : decode cM_count 48 = .ok (.iload_n 3, 1) := by decide +kernel
theorem dM_count_49 : decode cM_count 49 = .ok (.sipush 1600, 3) := by decide +kernel
theorem dM_count_52 : decode cM_count 52 = .ok (.if_icmp .ge 26, 3) := by decide +kernel
theorem dM_count_55 : decode cM_count 55 = .ok (.iload_n 2, 1) := by decide +kernel
theorem dM_count_56 : decode cM_count 56 = .ok (.aload_n 0, 1) := by decide +kernel
theorem dM_count_57 : decode cM_count 57 = .ok (.getfield 36, 3) := by decide +kernel
theorem dM_count_60 : decode cM_count 60 = .ok (.iload_n 3, 1) := by decide +kernel
theorem dM_count_61 : decode cM_count 61 = .ok (.baload, 1) := by decide +kernel
theorem dM_count_62 : decode cM_count 62 = .ok (.ifCond .eq 7, 3) := by decide +kernel
theorem dM_count_65 : decode cM_count 65 = .ok (.iconst 1, 1) := by decide +kernel
theorem dM_count_66 : decode cM_count 66 = .ok (.goto 4, 3) := by decide +kernel
theorem dM_count_69 : decode cM_count 69 = .ok (.iconst 0, 1) := by decide +kernel
theorem dM_count_70 : decode cM_count 70 = .ok (.iadd, 1) := by decide +kernel
theorem dM_count_71 : decode cM_count 71 = .ok (.istore_n 2, 1) := by decide +kernel
theorem dM_count_72 : decode cM_count 72 = .ok (.iinc 3 1, 3) := by decide +kernel
theorem dM_count_75 : decode cM_count 75 = .ok (.goto (-27), 3) := by decide +kernel
theorem dM_count_78 : decode cM_count 78 = .ok (.iload_n 1, 1) := by decide +kernel
theorem dM_count_79 : decode cM_count 79 = .ok (.iconst 4, 1) := by decide +kernel
theorem dM_count_80 : decode cM_count 80 = .ok (.if_icmp .ne 7, 3) := by decide +kernel
theorem dM_count_83 : decode cM_count 83 = .ok (.iload_n 2, 1) := by decide +kernel
theorem dM_count_84 : decode cM_count 84 = .ok (.goto 4, 3) := by decide +kernel
theorem dM_count_87 : decode cM_count 87 = .ok (.iconst (-1), 1) := by decide +kernel
theorem dM_count_88 : decode cM_count 88 = .ok (.ireturn, 1) := by decide +kernel
theorem dW_law_0 : decode cW_law 0 = .ok (.new 8, 3) := by decide +kernel
theorem dW_law_3 : decode cW_law 3 = .ok (.dup, 1) := by decide +kernel
theorem dW_law_4 : decode cW_law 4 = .ok (.invokespecial 70, 3) := by decide +kernel
theorem dW_law_7 : decode cW_law 7 = .ok (.astore_n 1, 1) := by decide +kernel
theorem dW_law_8 : decode cW_law 8 = .ok (.new 71, 3) := by decide +kernel
theorem dW_law_11 : decode cW_law 11 = .ok (.dup, 1) := by decide +kernel
theorem dW_law_12 : decode cW_law 12 = .ok (.invokespecial 73, 3) := by decide +kernel
theorem dW_law_15 : decode cW_law 15 = .ok (.astore_n 2, 1) := by decide +kernel
theorem dW_law_16 : decode cW_law 16 = .ok (.iconst 1, 1) := by decide +kernel
theorem dW_law_17 : decode cW_law 17 = .ok (.newarray .long, 2) := by decide +kernel
theorem dW_law_19 : decode cW_law 19 = .ok (.astore_n 3, 1) := by decide +kernel
theorem dW_law_20 : decode cW_law 20 = .ok (.iconst 0, 1) := by decide +kernel
theorem dW_law_21 : decode cW_law 21 = .ok (.istore 4, 2) := by decide +kernel
theorem dW_law_23 : decode cW_law 23 = .ok (.iload 4, 2) := by decide +kernel
theorem dW_law_25 : decode cW_law 25 = .ok (.aload_n 0, 1) := by decide +kernel
theorem dW_law_26 : decode cW_law 26 = .ok (.arraylength, 1) := by decide +kernel
theorem dW_law_27 : decode cW_law 27 = .ok (.bipush 7, 2) := by decide +kernel
theorem dW_law_29 : decode cW_law 29 = .ok (.isub, 1) := by decide +kernel
theorem dW_law_30 : decode cW_law 30 = .ok (.if_icmp .gt 1419, 3) := by decide +kernel
theorem dW_law_33 : decode cW_law 33 = .ok (.aload_n 0, 1) := by decide +kernel
theorem dW_law_34 : decode cW_law 34 = .ok (.iload 4, 2) := by decide +kernel
theorem dW_law_36 : decode cW_law 36 = .ok (.iaload, 1) := by decide +kernel
theorem dW_law_37 : decode cW_law 37 = .ok (.bipush 15, 2) := by decide +kernel
theorem dW_law_39 : decode cW_law 39 = .ok (.iand, 1) := by decide +kernel
theorem dW_law_40 : decode cW_law 40 = .ok (.tableswitch 1403 0 15 #[80, 136, 294, 406, 498, 598, 682, 778, 874, 997, 1022, 1109, 1165, 1232, 1311, 1378], 80) := by decide +kernel
theorem dW_law_120 : decode cW_law 120 = .ok (.aload_n 1, 1) := by decide +kernel
theorem dW_law_121 : decode cW_law 121 = .ok (.aload_n 0, 1) := by decide +kernel
theorem dW_law_122 : decode cW_law 122 = .ok (.iload 4, 2) := by decide +kernel
theorem dW_law_124 : decode cW_law 124 = .ok (.iconst 1, 1) := by decide +kernel
theorem dW_law_125 : decode cW_law 125 = .ok (.iadd, 1) := by decide +kernel
theorem dW_law_126 : decode cW_law 126 = .ok (.iaload, 1) := by decide +kernel
theorem dW_law_127 : decode cW_law 127 = .ok (.aload_n 3, 1) := by decide +kernel
theorem dW_law_128 : decode cW_law 128 = .ok (.invokestatic 74, 3) := by decide +kernel
theorem dW_law_131 : decode cW_law 131 = .ok (.istore 5, 2) := by decide +kernel
theorem dW_law_133 : decode cW_law 133 = .ok (.aload_n 2, 1) := by decide +kernel
theorem dW_law_134 : decode cW_law 134 = .ok (.aload_n 0, 1) := by decide +kernel
theorem dW_law_135 : decode cW_law 135 = .ok (.iload 4, 2) := by decide +kernel
theorem dW_law_137 : decode cW_law 137 = .ok (.iconst 1, 1) := by decide +kernel
theorem dW_law_138 : decode cW_law 138 = .ok (.iadd, 1) := by decide +kernel
theorem dW_law_139 : decode cW_law 139 = .ok (.iaload, 1) := by decide +kernel
theorem dW_law_140 : decode cW_law 140 = .ok (.invokevirtual 79, 3) := by decide +kernel
theorem dW_law_143 : decode cW_law 143 = .ok (.istore 6, 2) := by decide +kernel
theorem dW_law_145 : decode cW_law 145 = .ok (.aload_n 2, 1) := by decide +kernel
theorem dW_law_146 : decode cW_law 146 = .ok (.invokevirtual 80, 3) := by decide +kernel
theorem dW_law_149 : decode cW_law 149 = .ok (.iload 5, 2) := by decide +kernel
theorem dW_law_151 : decode cW_law 151 = .ok (.if_icmp .eq 5, 3) := by decide +kernel
theorem dW_law_154 : decode cW_law 154 = .ok (.iconst 0, 1) := by decide +kernel
theorem dW_law_155 : decode cW_law 155 = .ok (.ireturn, 1) := by decide +kernel
theorem dW_law_156 : decode cW_law 156 = .ok (.iload 5, 2) := by decide +kernel
theorem dW_law_158 : decode cW_law 158 = .ok (.ifCond .ne 15, 3) := by decide +kernel
theorem dW_law_161 : decode cW_law 161 = .ok (.aload_n 3, 1) := by decide +kernel
theorem dW_law_162 : decode cW_law 162 = .ok (.iconst 0, 1) := by decide +kernel
theorem dW_law_163 : decode cW_law 163 = .ok (.laload, 1) := by decide +kernel
theorem dW_law_164 : decode cW_law 164 = .ok (.iload 6, 2) := by decide +kernel
theorem dW_law_166 : decode cW_law 166 = .ok (.i2l, 1) := by decide +kernel
theorem dW_law_167 : decode cW_law 167 = .ok (.lcmp, 1) := by decide +kernel
theorem dW_law_168 : decode cW_law 168 = .ok (.ifCond .eq 5, 3) := by decide +kernel
theorem dW_law_171 : decode cW_law 171 = .ok (.iconst 0, 1) := by decide +kernel
theorem dW_law_172 : decode cW_law 172 = .ok (.ireturn, 1) := by decide +kernel
theorem dW_law_173 : decode cW_law 173 = .ok (.goto 1270, 3) := by decide +kernel
theorem dW_law_176 : decode cW_law 176 = .ok (.aload_n 1, 1) := by decide +kernel
theorem dW_law_177 : decode cW_law 177 = .ok (.aload_n 0, 1) := by decide +kernel
theorem dW_law_178 : decode cW_law 178 = .ok (.iload 4, 2) := by decide +kernel
theorem dW_law_180 : decode cW_law 180 = .ok (.iconst 1, 1) := by decide +kernel
theorem dW_law_181 : decode cW_law 181 = .ok (.iadd, 1) := by decide +kernel
theorem dW_law_182 : decode cW_law 182 = .ok (.iaload, 1) := by decide +kernel
theorem dW_law_183 : decode cW_law 183 = .ok (.aload_n 0, 1) := by decide +kernel
theorem dW_law_184 : decode cW_law 184 = .ok (.iload 4, 2) := by decide +kernel
theorem dW_law_186 : decode cW_law 186 = .ok (.iconst 2, 1) := by decide +kernel
theorem dW_law_187 : decode cW_law 187 = .ok (.iadd, 1) := by decide +kernel
theorem dW_law_188 : decode cW_law 188 = .ok (.iaload, 1) := by decide +kernel
theorem dW_law_189 : decode cW_law 189 = .ok (.aload_n 0, 1) := by decide +kernel
theorem dW_law_190 : decode cW_law 190 = .ok (.iload 4, 2) := by decide +kernel
theorem dW_law_192 : decode cW_law 192 = .ok (.iconst 3, 1) := by decide +kernel
theorem dW_law_193 : decode cW_law 193 = .ok (.iadd, 1) := by decide +kernel
theorem dW_law_194 : decode cW_law 194 = .ok (.iaload, 1) := by decide +kernel
theorem dW_law_195 : decode cW_law 195 = .ok (.i2l, 1) := by decide +kernel
theorem dW_law_196 : decode cW_law 196 = .ok (.bipush 32, 2) := by decide +kernel
theorem dW_law_198 : decode cW_law 198 = .ok (.lshl, 1) := by decide +kernel
theorem dW_law_199 : decode cW_law 199 = .ok (.aload_n 0, 1) := by decide +kernel
theorem dW_law_200 : decode cW_law 200 = .ok (.iload 4, 2) := by decide +kernel
theorem dW_law_202 : decode cW_law 202 = .ok (.iconst 4, 1) := by decide +kernel
theorem dW_law_203 : decode cW_law 203 = .ok (.iadd, 1) := by decide +kernel
theorem dW_law_204 : decode cW_law 204 = .ok (.iaload, 1) := by decide +kernel
theorem dW_law_205 : decode cW_law 205 = .ok (.i2l, 1) := by decide +kernel
theorem dW_law_206 : decode cW_law 206 = .ok (.ldc2_w 84, 3) := by decide +kernel
theorem dW_law_209 : decode cW_law 209 = .ok (.land, 1) := by decide +kernel
theorem dW_law_210 : decode cW_law 210 = .ok (.lor, 1) := by decide +kernel
theorem dW_law_211 : decode cW_law 211 = .ok (.aload_n 0, 1) := by decide +kernel
theorem dW_law_212 : decode cW_law 212 = .ok (.iload 4, 2) := by decide +kernel
theorem dW_law_214 : decode cW_law 214 = .ok (.iconst 5, 1) := by decide +kernel
theorem dW_law_215 : decode cW_law 215 = .ok (.iadd, 1) := by decide +kernel
theorem dW_law_216 : decode cW_law 216 = .ok (.iaload, 1) := by decide +kernel
theorem dW_law_217 : decode cW_law 217 = .ok (.i2l, 1) := by decide +kernel
theorem dW_law_218 : decode cW_law 218 = .ok (.bipush 32, 2) := by decide +kernel
theorem dW_law_220 : decode cW_law 220 = .ok (.lshl, 1) := by decide +kernel
theorem dW_law_221 : decode cW_law 221 = .ok (.aload_n 0, 1) := by decide +kernel
theorem dW_law_222 : decode cW_law 222 = .ok (.iload 4, 2) := by decide +kernel
theorem dW_law_224 : decode cW_law 224 = .ok (.bipush 6, 2) := by decide +kernel
theorem dW_law_226 : decode cW_law 226 = .ok (.iadd, 1) := by decide +kernel
theorem dW_law_227 : decode cW_law 227 = .ok (.iaload, 1) := by decide +kernel
theorem dW_law_228 : decode cW_law 228 = .ok (.i2l, 1) := by decide +kernel
theorem dW_law_229 : decode cW_law 229 = .ok (.ldc2_w 84, 3) := by decide +kernel
theorem dW_law_232 : decode cW_law 232 = .ok (.land, 1) := by decide +kernel
theorem dW_law_233 : decode cW_law 233 = .ok (.lor, 1) := by decide +kernel
theorem dW_law_234 : decode cW_law 234 = .ok (.aload_n 3, 1) := by decide +kernel
theorem dW_law_235 : decode cW_law 235 = .ok (.invokestatic 86, 3) := by decide +kernel
theorem dW_law_238 : decode cW_law 238 = .ok (.istore 5, 2) := by decide +kernel
theorem dW_law_240 : decode cW_law 240 = .ok (.aload_n 2, 1) := by decide +kernel
theorem dW_law_241 : decode cW_law 241 = .ok (.aload_n 0, 1) := by decide +kernel
theorem dW_law_242 : decode cW_law 242 = .ok (.iload 4, 2) := by decide +kernel
theorem dW_law_244 : decode cW_law 244 = .ok (.iconst 1, 1) := by decide +kernel
theorem dW_law_245 : decode cW_law 245 = .ok (.iadd, 1) := by decide +kernel
theorem dW_law_246 : decode cW_law 246 = .ok (.iaload, 1) := by decide +kernel
theorem dW_law_247 : decode cW_law 247 = .ok (.aload_n 0, 1) := by decide +kernel
theorem dW_law_248 : decode cW_law 248 = .ok (.iload 4, 2) := by decide +kernel
theorem dW_law_250 : decode cW_law 250 = .ok (.iconst 2, 1) := by decide +kernel
theorem dW_law_251 : decode cW_law 251 = .ok (.iadd, 1) := by decide +kernel
theorem dW_law_252 : decode cW_law 252 = .ok (.iaload, 1) := by decide +kernel
theorem dW_law_253 : decode cW_law 253 = .ok (.aload_n 0, 1) := by decide +kernel
theorem dW_law_254 : decode cW_law 254 = .ok (.iload 4, 2) := by decide +kernel
theorem dW_law_256 : decode cW_law 256 = .ok (.iconst 3, 1) := by decide +kernel
theorem dW_law_257 : decode cW_law 257 = .ok (.iadd, 1) := by decide +kernel
theorem dW_law_258 : decode cW_law 258 = .ok (.iaload, 1) := by decide +kernel
theorem dW_law_259 : decode cW_law 259 = .ok (.i2l, 1) := by decide +kernel
theorem dW_law_260 : decode cW_law 260 = .ok (.bipush 32, 2) := by decide +kernel
theorem dW_law_262 : decode cW_law 262 = .ok (.lshl, 1) := by decide +kernel
theorem dW_law_263 : decode cW_law 263 = .ok (.aload_n 0, 1) := by decide +kernel
theorem dW_law_264 : decode cW_law 264 = .ok (.iload 4, 2) := by decide +kernel
theorem dW_law_266 : decode cW_law 266 = .ok (.iconst 4, 1) := by decide +kernel
theorem dW_law_267 : decode cW_law 267 = .ok (.iadd, 1) := by decide +kernel
theorem dW_law_268 : decode cW_law 268 = .ok (.iaload, 1) := by decide +kernel
theorem dW_law_269 : decode cW_law 269 = .ok (.i2l, 1) := by decide +kernel
theorem dW_law_270 : decode cW_law 270 = .ok (.ldc2_w 84, 3) := by decide +kernel
theorem dW_law_273 : decode cW_law 273 = .ok (.land, 1) := by decide +kernel
theorem dW_law_274 : decode cW_law 274 = .ok (.lor, 1) := by decide +kernel
theorem dW_law_275 : decode cW_law 275 = .ok (.aload_n 0, 1) := by decide +kernel
theorem dW_law_276 : decode cW_law 276 = .ok (.iload 4, 2) := by decide +kernel
theorem dW_law_278 : decode cW_law 278 = .ok (.iconst 5, 1) := by decide +kernel
theorem dW_law_279 : decode cW_law 279 = .ok (.iadd, 1) := by decide +kernel
theorem dW_law_280 : decode cW_law 280 = .ok (.iaload, 1) := by decide +kernel
theorem dW_law_281 : decode cW_law 281 = .ok (.i2l, 1) := by decide +kernel
theorem dW_law_282 : decode cW_law 282 = .ok (.bipush 32, 2) := by decide +kernel
theorem dW_law_284 : decode cW_law 284 = .ok (.lshl, 1) := by decide +kernel
theorem dW_law_285 : decode cW_law 285 = .ok (.aload_n 0, 1) := by decide +kernel
theorem dW_law_286 : decode cW_law 286 = .ok (.iload 4, 2) := by decide +kernel
theorem dW_law_288 : decode cW_law 288 = .ok (.bipush 6, 2) := by decide +kernel
theorem dW_law_290 : decode cW_law 290 = .ok (.iadd, 1) := by decide +kernel
theorem dW_law_291 : decode cW_law 291 = .ok (.iaload, 1) := by decide +kernel
theorem dW_law_292 : decode cW_law 292 = .ok (.i2l, 1) := by decide +kernel
theorem dW_law_293 : decode cW_law 293 = .ok (.ldc2_w 84, 3) := by decide +kernel
theorem dW_law_296 : decode cW_law 296 = .ok (.land, 1) := by decide +kernel
theorem dW_law_297 : decode cW_law 297 = .ok (.lor, 1) := by decide +kernel
theorem dW_law_298 : decode cW_law 298 = .ok (.invokevirtual 89, 3) := by decide +kernel
theorem dW_law_301 : decode cW_law 301 = .ok (.istore 6, 2) := by decide +kernel
theorem dW_law_303 : decode cW_law 303 = .ok (.aload_n 2, 1) := by decide +kernel
theorem dW_law_304 : decode cW_law 304 = .ok (.invokevirtual 80, 3) := by decide +kernel
theorem dW_law_307 : decode cW_law 307 = .ok (.iload 5, 2) := by decide +kernel
theorem dW_law_309 : decode cW_law 309 = .ok (.if_icmp .eq 5, 3) := by decide +kernel
theorem dW_law_312 : decode cW_law 312 = .ok (.iconst 0, 1) := by decide +kernel
theorem dW_law_313 : decode cW_law 313 = .ok (.ireturn, 1) := by decide +kernel
theorem dW_law_314 : decode cW_law 314 = .ok (.iload 5, 2) := by decide +kernel
theorem dW_law_316 : decode cW_law 316 = .ok (.ifCond .ne 15, 3) := by decide +kernel
theorem dW_law_319 : decode cW_law 319 = .ok (.aload_n 3, 1) := by decide +kernel
theorem dW_law_320 : decode cW_law 320 = .ok (.iconst 0, 1) := by decide +kernel
theorem dW_law_321 : decode cW_law 321 = .ok (.laload, 1) := by decide +kernel
theorem dW_law_322 : decode cW_law 322 = .ok (.iload 6, 2) := by decide +kernel
theorem dW_law_324 : decode cW_law 324 = .ok (.i2l, 1) := by decide +kernel
theorem dW_law_325 : decode cW_law 325 = .ok (.lcmp, 1) := by decide +kernel
theorem dW_law_326 : decode cW_law 326 = .ok (.ifCond .eq 5, 3) := by decide +kernel
theorem dW_law_329 : decode cW_law 329 = .ok (.iconst 0, 1) := by decide +kernel
theorem dW_law_330 : decode cW_law 330 = .ok (.ireturn, 1) := by decide +kernel
theorem dW_law_331 : decode cW_law 331 = .ok (.goto 1112, 3) := by decide +kernel
theorem dW_law_334 : decode cW_law 334 = .ok (.aload_n 1, 1) := by decide +kernel
theorem dW_law_335 : decode cW_law 335 = .ok (.aload_n 0, 1) := by decide +kernel
theorem dW_law_336 : decode cW_law 336 = .ok (.iload 4, 2) := by decide +kernel
theorem dW_law_338 : decode cW_law 338 = .ok (.iconst 1, 1) := by decide +kernel
theorem dW_law_339 : decode cW_law 339 = .ok (.iadd, 1) := by decide +kernel
theorem dW_law_340 : decode cW_law 340 = .ok (.iaload, 1) := by decide +kernel
theorem dW_law_341 : decode cW_law 341 = .ok (.aload_n 0, 1) := by decide +kernel
theorem dW_law_342 : decode cW_law 342 = .ok (.iload 4, 2) := by decide +kernel
theorem dW_law_344 : decode cW_law 344 = .ok (.iconst 2, 1) := by decide +kernel
theorem dW_law_345 : decode cW_law 345 = .ok (.iadd, 1) := by decide +kernel
theorem dW_law_346 : decode cW_law 346 = .ok (.iaload, 1) := by decide +kernel
theorem dW_law_347 : decode cW_law 347 = .ok (.aload_n 0, 1) := by decide +kernel
theorem dW_law_348 : decode cW_law 348 = .ok (.iload 4, 2) := by decide +kernel
theorem dW_law_350 : decode cW_law 350 = .ok (.iconst 3, 1) := by decide +kernel
theorem dW_law_351 : decode cW_law 351 = .ok (.iadd, 1) := by decide +kernel
theorem dW_law_352 : decode cW_law 352 = .ok (.iaload, 1) := by decide +kernel
theorem dW_law_353 : decode cW_law 353 = .ok (.i2l, 1) := by decide +kernel
theorem dW_law_354 : decode cW_law 354 = .ok (.bipush 32, 2) := by decide +kernel
theorem dW_law_356 : decode cW_law 356 = .ok (.lshl, 1) := by decide +kernel
theorem dW_law_357 : decode cW_law 357 = .ok (.aload_n 0, 1) := by decide +kernel
theorem dW_law_358 : decode cW_law 358 = .ok (.iload 4, 2) := by decide +kernel
theorem dW_law_360 : decode cW_law 360 = .ok (.iconst 4, 1) := by decide +kernel
theorem dW_law_361 : decode cW_law 361 = .ok (.iadd, 1) := by decide +kernel
theorem dW_law_362 : decode cW_law 362 = .ok (.iaload, 1) := by decide +kernel
theorem dW_law_363 : decode cW_law 363 = .ok (.i2l, 1) := by decide +kernel
theorem dW_law_364 : decode cW_law 364 = .ok (.ldc2_w 84, 3) := by decide +kernel
theorem dW_law_367 : decode cW_law 367 = .ok (.land, 1) := by decide +kernel
theorem dW_law_368 : decode cW_law 368 = .ok (.lor, 1) := by decide +kernel
theorem dW_law_369 : decode cW_law 369 = .ok (.aload_n 3, 1) := by decide +kernel
theorem dW_law_370 : decode cW_law 370 = .ok (.invokestatic 90, 3) := by decide +kernel
theorem dW_law_373 : decode cW_law 373 = .ok (.istore 5, 2) := by decide +kernel
theorem dW_law_375 : decode cW_law 375 = .ok (.aload_n 2, 1) := by decide +kernel
theorem dW_law_376 : decode cW_law 376 = .ok (.aload_n 0, 1) := by decide +kernel
theorem dW_law_377 : decode cW_law 377 = .ok (.iload 4, 2) := by decide +kernel
theorem dW_law_379 : decode cW_law 379 = .ok (.iconst 1, 1) := by decide +kernel
theorem dW_law_380 : decode cW_law 380 = .ok (.iadd, 1) := by decide +kernel
theorem dW_law_381 : decode cW_law 381 = .ok (.iaload, 1) := by decide +kernel
theorem dW_law_382 : decode cW_law 382 = .ok (.aload_n 0, 1) := by decide +kernel
theorem dW_law_383 : decode cW_law 383 = .ok (.iload 4, 2) := by decide +kernel
theorem dW_law_385 : decode cW_law 385 = .ok (.iconst 2, 1) := by decide +kernel
theorem dW_law_386 : decode cW_law 386 = .ok (.iadd, 1) := by decide +kernel
theorem dW_law_387 : decode cW_law 387 = .ok (.iaload, 1) := by decide +kernel
theorem dW_law_388 : decode cW_law 388 = .ok (.aload_n 0, 1) := by decide +kernel
theorem dW_law_389 : decode cW_law 389 = .ok (.iload 4, 2) := by decide +kernel
theorem dW_law_391 : decode cW_law 391 = .ok (.iconst 3, 1) := by decide +kernel
theorem dW_law_392 : decode cW_law 392 = .ok (.iadd, 1) := by decide +kernel
theorem dW_law_393 : decode cW_law 393 = .ok (.iaload, 1) := by decide +kernel
theorem dW_law_394 : decode cW_law 394 = .ok (.i2l, 1) := by decide +kernel
theorem dW_law_395 : decode cW_law 395 = .ok (.bipush 32, 2) := by decide +kernel
theorem dW_law_397 : decode cW_law 397 = .ok (.lshl, 1) := by decide +kernel
theorem dW_law_398 : decode cW_law 398 = .ok (.aload_n 0, 1) := by decide +kernel
theorem dW_law_399 : decode cW_law 399 = .ok (.iload 4, 2) := by decide +kernel
theorem dW_law_401 : decode cW_law 401 = .ok (.iconst 4, 1) := by decide +kernel
theorem dW_law_402 : decode cW_law 402 = .ok (.iadd, 1) := by decide +kernel
theorem dW_law_403 : decode cW_law 403 = .ok (.iaload, 1) := by decide +kernel
theorem dW_law_404 : decode cW_law 404 = .ok (.i2l, 1) := by decide +kernel
theorem dW_law_405 : decode cW_law 405 = .ok (.ldc2_w 84, 3) := by decide +kernel
theorem dW_law_408 : decode cW_law 408 = .ok (.land, 1) := by decide +kernel
theorem dW_law_409 : decode cW_law 409 = .ok (.lor, 1) := by decide +kernel
theorem dW_law_410 : decode cW_law 410 = .ok (.invokevirtual 93, 3) := by decide +kernel
theorem dW_law_413 : decode cW_law 413 = .ok (.istore 6, 2) := by decide +kernel
theorem dW_law_415 : decode cW_law 415 = .ok (.aload_n 2, 1) := by decide +kernel
theorem dW_law_416 : decode cW_law 416 = .ok (.invokevirtual 80, 3) := by decide +kernel
theorem dW_law_419 : decode cW_law 419 = .ok (.iload 5, 2) := by decide +kernel
theorem dW_law_421 : decode cW_law 421 = .ok (.if_icmp .eq 5, 3) := by decide +kernel
theorem dW_law_424 : decode cW_law 424 = .ok (.iconst 0, 1) := by decide +kernel
theorem dW_law_425 : decode cW_law 425 = .ok (.ireturn, 1) := by decide +kernel
theorem dW_law_426 : decode cW_law 426 = .ok (.iload 5, 2) := by decide +kernel
theorem dW_law_428 : decode cW_law 428 = .ok (.ifCond .ne 15, 3) := by decide +kernel
theorem dW_law_431 : decode cW_law 431 = .ok (.aload_n 3, 1) := by decide +kernel
theorem dW_law_432 : decode cW_law 432 = .ok (.iconst 0, 1) := by decide +kernel
theorem dW_law_433 : decode cW_law 433 = .ok (.laload, 1) := by decide +kernel
theorem dW_law_434 : decode cW_law 434 = .ok (.iload 6, 2) := by decide +kernel
theorem dW_law_436 : decode cW_law 436 = .ok (.i2l, 1) := by decide +kernel
theorem dW_law_437 : decode cW_law 437 = .ok (.lcmp, 1) := by decide +kernel
theorem dW_law_438 : decode cW_law 438 = .ok (.ifCond .eq 5, 3) := by decide +kernel
theorem dW_law_441 : decode cW_law 441 = .ok (.iconst 0, 1) := by decide +kernel
theorem dW_law_442 : decode cW_law 442 = .ok (.ireturn, 1) := by decide +kernel
theorem dW_law_443 : decode cW_law 443 = .ok (.goto 1000, 3) := by decide +kernel
theorem dW_law_446 : decode cW_law 446 = .ok (.aload_n 1, 1) := by decide +kernel
theorem dW_law_447 : decode cW_law 447 = .ok (.aload_n 0, 1) := by decide +kernel
theorem dW_law_448 : decode cW_law 448 = .ok (.iload 4, 2) := by decide +kernel
theorem dW_law_450 : decode cW_law 450 = .ok (.iconst 1, 1) := by decide +kernel
theorem dW_law_451 : decode cW_law 451 = .ok (.iadd, 1) := by decide +kernel
theorem dW_law_452 : decode cW_law 452 = .ok (.iaload, 1) := by decide +kernel
theorem dW_law_453 : decode cW_law 453 = .ok (.aload_n 0, 1) := by decide +kernel
theorem dW_law_454 : decode cW_law 454 = .ok (.iload 4, 2) := by decide +kernel
theorem dW_law_456 : decode cW_law 456 = .ok (.iconst 2, 1) := by decide +kernel
theorem dW_law_457 : decode cW_law 457 = .ok (.iadd, 1) := by decide +kernel
theorem dW_law_458 : decode cW_law 458 = .ok (.iaload, 1) := by decide +kernel
theorem dW_law_459 : decode cW_law 459 = .ok (.aload_n 0, 1) := by decide +kernel
theorem dW_law_460 : decode cW_law 460 = .ok (.iload 4, 2) := by decide +kernel
theorem dW_law_462 : decode cW_law 462 = .ok (.iconst 3, 1) := by decide +kernel
theorem dW_law_463 : decode cW_law 463 = .ok (.iadd, 1) := by decide +kernel
theorem dW_law_464 : decode cW_law 464 = .ok (.iaload, 1) := by decide +kernel
theorem dW_law_465 : decode cW_law 465 = .ok (.i2l, 1) := by decide +kernel
theorem dW_law_466 : decode cW_law 466 = .ok (.bipush 32, 2) := by decide +kernel
theorem dW_law_468 : decode cW_law 468 = .ok (.lshl, 1) := by decide +kernel
theorem dW_law_469 : decode cW_law 469 = .ok (.aload_n 0, 1) := by decide +kernel
theorem dW_law_470 : decode cW_law 470 = .ok (.iload 4, 2) := by decide +kernel
theorem dW_law_472 : decode cW_law 472 = .ok (.iconst 4, 1) := by decide +kernel
theorem dW_law_473 : decode cW_law 473 = .ok (.iadd, 1) := by decide +kernel
theorem dW_law_474 : decode cW_law 474 = .ok (.iaload, 1) := by decide +kernel
theorem dW_law_475 : decode cW_law 475 = .ok (.i2l, 1) := by decide +kernel
theorem dW_law_476 : decode cW_law 476 = .ok (.ldc2_w 84, 3) := by decide +kernel
theorem dW_law_479 : decode cW_law 479 = .ok (.land, 1) := by decide +kernel
theorem dW_law_480 : decode cW_law 480 = .ok (.lor, 1) := by decide +kernel
theorem dW_law_481 : decode cW_law 481 = .ok (.invokestatic 94, 3) := by decide +kernel
theorem dW_law_484 : decode cW_law 484 = .ok (.istore 5, 2) := by decide +kernel
theorem dW_law_486 : decode cW_law 486 = .ok (.aload_n 2, 1) := by decide +kernel
theorem dW_law_487 : decode cW_law 487 = .ok (.aload_n 0, 1) := by decide +kernel
theorem dW_law_488 : decode cW_law 488 = .ok (.iload 4, 2) := by decide +kernel
theorem dW_law_490 : decode cW_law 490 = .ok (.iconst 1, 1) := by decide +kernel
theorem dW_law_491 : decode cW_law 491 = .ok (.iadd, 1) := by decide +kernel
theorem dW_law_492 : decode cW_law 492 = .ok (.iaload, 1) := by decide +kernel
theorem dW_law_493 : decode cW_law 493 = .ok (.aload_n 0, 1) := by decide +kernel
theorem dW_law_494 : decode cW_law 494 = .ok (.iload 4, 2) := by decide +kernel
theorem dW_law_496 : decode cW_law 496 = .ok (.iconst 2, 1) := by decide +kernel
theorem dW_law_497 : decode cW_law 497 = .ok (.iadd, 1) := by decide +kernel
theorem dW_law_498 : decode cW_law 498 = .ok (.iaload, 1) := by decide +kernel
theorem dW_law_499 : decode cW_law 499 = .ok (.aload_n 0, 1) := by decide +kernel
theorem dW_law_500 : decode cW_law 500 = .ok (.iload 4, 2) := by decide +kernel
theorem dW_law_502 : decode cW_law 502 = .ok (.iconst 3, 1) := by decide +kernel
theorem dW_law_503 : decode cW_law 503 = .ok (.iadd, 1) := by decide +kernel
theorem dW_law_504 : decode cW_law 504 = .ok (.iaload, 1) := by decide +kernel
theorem dW_law_505 : decode cW_law 505 = .ok (.i2l, 1) := by decide +kernel
theorem dW_law_506 : decode cW_law 506 = .ok (.bipush 32, 2) := by decide +kernel
theorem dW_law_508 : decode cW_law 508 = .ok (.lshl, 1) := by decide +kernel
theorem dW_law_509 : decode cW_law 509 = .ok (.aload_n 0, 1) := by decide +kernel
theorem dW_law_510 : decode cW_law 510 = .ok (.iload 4, 2) := by decide +kernel
theorem dW_law_512 : decode cW_law 512 = .ok (.iconst 4, 1) := by decide +kernel
theorem dW_law_513 : decode cW_law 513 = .ok (.iadd, 1) := by decide +kernel
theorem dW_law_514 : decode cW_law 514 = .ok (.iaload, 1) := by decide +kernel
theorem dW_law_515 : decode cW_law 515 = .ok (.i2l, 1) := by decide +kernel
theorem dW_law_516 : decode cW_law 516 = .ok (.ldc2_w 84, 3) := by decide +kernel
theorem dW_law_519 : decode cW_law 519 = .ok (.land, 1) := by decide +kernel
theorem dW_law_520 : decode cW_law 520 = .ok (.lor, 1) := by decide +kernel
theorem dW_law_521 : decode cW_law 521 = .ok (.invokevirtual 97, 3) := by decide +kernel
theorem dW_law_524 : decode cW_law 524 = .ok (.aload_n 2, 1) := by decide +kernel
theorem dW_law_525 : decode cW_law 525 = .ok (.invokevirtual 80, 3) := by decide +kernel
theorem dW_law_528 : decode cW_law 528 = .ok (.iload 5, 2) := by decide +kernel
theorem dW_law_530 : decode cW_law 530 = .ok (.if_icmp .eq 5, 3) := by decide +kernel
theorem dW_law_533 : decode cW_law 533 = .ok (.iconst 0, 1) := by decide +kernel
theorem dW_law_534 : decode cW_law 534 = .ok (.ireturn, 1) := by decide +kernel
theorem dW_law_535 : decode cW_law 535 = .ok (.goto 908, 3) := by decide +kernel
theorem dW_law_538 : decode cW_law 538 = .ok (.aload_n 1, 1) := by decide +kernel
theorem dW_law_539 : decode cW_law 539 = .ok (.aload_n 0, 1) := by decide +kernel
theorem dW_law_540 : decode cW_law 540 = .ok (.iload 4, 2) := by decide +kernel
theorem dW_law_542 : decode cW_law 542 = .ok (.iconst 1, 1) := by decide +kernel
theorem dW_law_543 : decode cW_law 543 = .ok (.iadd, 1) := by decide +kernel
theorem dW_law_544 : decode cW_law 544 = .ok (.iaload, 1) := by decide +kernel
theorem dW_law_545 : decode cW_law 545 = .ok (.aload_n 0, 1) := by decide +kernel
theorem dW_law_546 : decode cW_law 546 = .ok (.iload 4, 2) := by decide +kernel
theorem dW_law_548 : decode cW_law 548 = .ok (.iconst 2, 1) := by decide +kernel
theorem dW_law_549 : decode cW_law 549 = .ok (.iadd, 1) := by decide +kernel
theorem dW_law_550 : decode cW_law 550 = .ok (.iaload, 1) := by decide +kernel
theorem dW_law_551 : decode cW_law 551 = .ok (.i2l, 1) := by decide +kernel
theorem dW_law_552 : decode cW_law 552 = .ok (.bipush 32, 2) := by decide +kernel
theorem dW_law_554 : decode cW_law 554 = .ok (.lshl, 1) := by decide +kernel
theorem dW_law_555 : decode cW_law 555 = .ok (.aload_n 0, 1) := by decide +kernel
theorem dW_law_556 : decode cW_law 556 = .ok (.iload 4, 2) := by decide +kernel
theorem dW_law_558 : decode cW_law 558 = .ok (.iconst 3, 1) := by decide +kernel
theorem dW_law_559 : decode cW_law 559 = .ok (.iadd, 1) := by decide +kernel
theorem dW_law_560 : decode cW_law 560 = .ok (.iaload, 1) := by decide +kernel
theorem dW_law_561 : decode cW_law 561 = .ok (.i2l, 1) := by decide +kernel
theorem dW_law_562 : decode cW_law 562 = .ok (.ldc2_w 84, 3) := by decide +kernel
theorem dW_law_565 : decode cW_law 565 = .ok (.land, 1) := by decide +kernel
theorem dW_law_566 : decode cW_law 566 = .ok (.lor, 1) := by decide +kernel
theorem dW_law_567 : decode cW_law 567 = .ok (.aload_n 3, 1) := by decide +kernel
theorem dW_law_568 : decode cW_law 568 = .ok (.invokestatic 98, 3) := by decide +kernel
theorem dW_law_571 : decode cW_law 571 = .ok (.istore 5, 2) := by decide +kernel
theorem dW_law_573 : decode cW_law 573 = .ok (.aload_n 2, 1) := by decide +kernel
theorem dW_law_574 : decode cW_law 574 = .ok (.aload_n 0, 1) := by decide +kernel
theorem dW_law_575 : decode cW_law 575 = .ok (.iload 4, 2) := by decide +kernel
theorem dW_law_577 : decode cW_law 577 = .ok (.iconst 1, 1) := by decide +kernel
theorem dW_law_578 : decode cW_law 578 = .ok (.iadd, 1) := by decide +kernel
theorem dW_law_579 : decode cW_law 579 = .ok (.iaload, 1) := by decide +kernel
theorem dW_law_580 : decode cW_law 580 = .ok (.aload_n 0, 1) := by decide +kernel
theorem dW_law_581 : decode cW_law 581 = .ok (.iload 4, 2) := by decide +kernel
theorem dW_law_583 : decode cW_law 583 = .ok (.iconst 2, 1) := by decide +kernel
theorem dW_law_584 : decode cW_law 584 = .ok (.iadd, 1) := by decide +kernel
theorem dW_law_585 : decode cW_law 585 = .ok (.iaload, 1) := by decide +kernel
theorem dW_law_586 : decode cW_law 586 = .ok (.i2l, 1) := by decide +kernel
theorem dW_law_587 : decode cW_law 587 = .ok (.bipush 32, 2) := by decide +kernel
theorem dW_law_589 : decode cW_law 589 = .ok (.lshl, 1) := by decide +kernel
theorem dW_law_590 : decode cW_law 590 = .ok (.aload_n 0, 1) := by decide +kernel
theorem dW_law_591 : decode cW_law 591 = .ok (.iload 4, 2) := by decide +kernel
theorem dW_law_593 : decode cW_law 593 = .ok (.iconst 3, 1) := by decide +kernel
theorem dW_law_594 : decode cW_law 594 = .ok (.iadd, 1) := by decide +kernel
theorem dW_law_595 : decode cW_law 595 = .ok (.iaload, 1) := by decide +kernel
theorem dW_law_596 : decode cW_law 596 = .ok (.i2l, 1) := by decide +kernel
theorem dW_law_597 : decode cW_law 597 = .ok (.ldc2_w 84, 3) := by decide +kernel
theorem dW_law_600 : decode cW_law 600 = .ok (.land, 1) := by decide +kernel
theorem dW_law_601 : decode cW_law 601 = .ok (.lor, 1) := by decide +kernel
theorem dW_law_602 : decode cW_law 602 = .ok (.invokevirtual 101, 3) := by decide +kernel
theorem dW_law_605 : decode cW_law 605 = .ok (.istore 6, 2) := by decide +kernel
theorem dW_law_607 : decode cW_law 607 = .ok (.aload_n 2, 1) := by decide +kernel
theorem dW_law_608 : decode cW_law 608 = .ok (.invokevirtual 80, 3) := by decide +kernel
theorem dW_law_611 : decode cW_law 611 = .ok (.iload 5, 2) := by decide +kernel
theorem dW_law_613 : decode cW_law 613 = .ok (.if_icmp .eq 5, 3) := by decide +kernel
theorem dW_law_616 : decode cW_law 616 = .ok (.iconst 0, 1) := by decide +kernel
theorem dW_law_617 : decode cW_law 617 = .ok (.ireturn, 1) := by decide +kernel
theorem dW_law_618 : decode cW_law 618 = .ok (.iload 5, 2) := by decide +kernel
theorem dW_law_620 : decode cW_law 620 = .ok (.ifCond .ne 15, 3) := by decide +kernel
theorem dW_law_623 : decode cW_law 623 = .ok (.aload_n 3, 1) := by decide +kernel
theorem dW_law_624 : decode cW_law 624 = .ok (.iconst 0, 1) := by decide +kernel
theorem dW_law_625 : decode cW_law 625 = .ok (.laload, 1) := by decide +kernel
theorem dW_law_626 : decode cW_law 626 = .ok (.iload 6, 2) := by decide +kernel
theorem dW_law_628 : decode cW_law 628 = .ok (.i2l, 1) := by decide +kernel
theorem dW_law_629 : decode cW_law 629 = .ok (.lcmp, 1) := by decide +kernel
theorem dW_law_630 : decode cW_law 630 = .ok (.ifCond .eq 5, 3) := by decide +kernel
theorem dW_law_633 : decode cW_law 633 = .ok (.iconst 0, 1) := by decide +kernel
theorem dW_law_634 : decode cW_law 634 = .ok (.ireturn, 1) := by decide +kernel
theorem dW_law_635 : decode cW_law 635 = .ok (.goto 808, 3) := by decide +kernel
theorem dW_law_638 : decode cW_law 638 = .ok (.aload_n 1, 1) := by decide +kernel
theorem dW_law_639 : decode cW_law 639 = .ok (.aload_n 0, 1) := by decide +kernel
theorem dW_law_640 : decode cW_law 640 = .ok (.iload 4, 2) := by decide +kernel
theorem dW_law_642 : decode cW_law 642 = .ok (.iconst 1, 1) := by decide +kernel

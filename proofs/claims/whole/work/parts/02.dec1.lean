theorem dc_As_init_0 : decode mb_As_init 0 = .ok (.aload_n 0, 1) := by decide +kernel
theorem dc_As_init_1 : decode mb_As_init 1 = .ok (.invokespecial 1, 3) := by decide +kernel
theorem dc_As_init_4 : decode mb_As_init 4 = .ok (.aload_n 0, 1) := by decide +kernel
theorem dc_As_init_5 : decode mb_As_init 5 = .ok (.iconst 0, 1) := by decide +kernel
theorem dc_As_init_6 : decode mb_As_init 6 = .ok (.putfield 7, 3) := by decide +kernel
theorem dc_As_init_9 : decode mb_As_init 9 = .ok (.aload_n 0, 1) := by decide +kernel
theorem dc_As_init_10 : decode mb_As_init 10 = .ok (.iconst 0, 1) := by decide +kernel
theorem dc_As_init_11 : decode mb_As_init 11 = .ok (.putfield 13, 3) := by decide +kernel
theorem dc_As_init_14 : decode mb_As_init 14 = .ok (.return_, 1) := by decide +kernel
theorem dc_As_hear_0 : decode mb_As_hear 0 = .ok (.aload_n 1, 1) := by decide +kernel
theorem dc_As_hear_1 : decode mb_As_hear 1 = .ok (.iconst 3, 1) := by decide +kernel
theorem dc_As_hear_2 : decode mb_As_hear 2 = .ok (.invokevirtual 16, 3) := by decide +kernel
theorem dc_As_hear_5 : decode mb_As_hear 5 = .ok (.istore_n 2, 1) := by decide +kernel
theorem dc_As_hear_6 : decode mb_As_hear 6 = .ok (.iload_n 2, 1) := by decide +kernel
theorem dc_As_hear_7 : decode mb_As_hear 7 = .ok (.bipush 115, 2) := by decide +kernel
theorem dc_As_hear_9 : decode mb_As_hear 9 = .ok (.if_icmp .ne 16, 3) := by decide +kernel
theorem dc_As_hear_12 : decode mb_As_hear 12 = .ok (.aload_n 0, 1) := by decide +kernel
theorem dc_As_hear_13 : decode mb_As_hear 13 = .ok (.iconst 0, 1) := by decide +kernel
theorem dc_As_hear_14 : decode mb_As_hear 14 = .ok (.putfield 7, 3) := by decide +kernel
theorem dc_As_hear_17 : decode mb_As_hear 17 = .ok (.aload_n 0, 1) := by decide +kernel
theorem dc_As_hear_18 : decode mb_As_hear 18 = .ok (.iconst 0, 1) := by decide +kernel
theorem dc_As_hear_19 : decode mb_As_hear 19 = .ok (.putfield 13, 3) := by decide +kernel
theorem dc_As_hear_22 : decode mb_As_hear 22 = .ok (.goto 43, 3) := by decide +kernel
theorem dc_As_hear_25 : decode mb_As_hear 25 = .ok (.iload_n 2, 1) := by decide +kernel
theorem dc_As_hear_26 : decode mb_As_hear 26 = .ok (.aload_n 0, 1) := by decide +kernel
theorem dc_As_hear_27 : decode mb_As_hear 27 = .ok (.getfield 13, 3) := by decide +kernel
theorem dc_As_hear_30 : decode mb_As_hear 30 = .ok (.aload_n 0, 1) := by decide +kernel
theorem dc_As_hear_31 : decode mb_As_hear 31 = .ok (.getfield 7, 3) := by decide +kernel
theorem dc_As_hear_34 : decode mb_As_hear 34 = .ok (.invokestatic 24, 3) := by decide +kernel
theorem dc_As_hear_37 : decode mb_As_hear 37 = .ok (.invokestatic 27, 3) := by decide +kernel
theorem dc_As_hear_40 : decode mb_As_hear 40 = .ok (.if_icmp .ne 25, 3) := by decide +kernel
theorem dc_As_hear_43 : decode mb_As_hear 43 = .ok (.aload_n 0, 1) := by decide +kernel
theorem dc_As_hear_44 : decode mb_As_hear 44 = .ok (.aload_n 0, 1) := by decide +kernel
theorem dc_As_hear_45 : decode mb_As_hear 45 = .ok (.getfield 7, 3) := by decide +kernel
theorem dc_As_hear_48 : decode mb_As_hear 48 = .ok (.invokestatic 24, 3) := by decide +kernel
theorem dc_As_hear_51 : decode mb_As_hear 51 = .ok (.putfield 7, 3) := by decide +kernel
theorem dc_As_hear_54 : decode mb_As_hear 54 = .ok (.aload_n 0, 1) := by decide +kernel
theorem dc_As_hear_55 : decode mb_As_hear 55 = .ok (.aload_n 0, 1) := by decide +kernel
theorem dc_As_hear_56 : decode mb_As_hear 56 = .ok (.getfield 13, 3) := by decide +kernel
theorem dc_As_hear_59 : decode mb_As_hear 59 = .ok (.invokestatic 24, 3) := by decide +kernel
theorem dc_As_hear_62 : decode mb_As_hear 62 = .ok (.putfield 13, 3) := by decide +kernel
theorem dc_As_hear_65 : decode mb_As_hear 65 = .ok (.return_, 1) := by decide +kernel
theorem dc_Cn_init_0 : decode mb_Cn_init 0 = .ok (.aload_n 0, 1) := by decide +kernel
theorem dc_Cn_init_1 : decode mb_Cn_init 1 = .ok (.invokespecial 1, 3) := by decide +kernel
theorem dc_Cn_init_4 : decode mb_Cn_init 4 = .ok (.aload_n 0, 1) := by decide +kernel
theorem dc_Cn_init_5 : decode mb_Cn_init 5 = .ok (.new 7, 3) := by decide +kernel
theorem dc_Cn_init_8 : decode mb_Cn_init 8 = .ok (.dup, 1) := by decide +kernel
theorem dc_Cn_init_9 : decode mb_Cn_init 9 = .ok (.bipush 60, 2) := by decide +kernel
theorem dc_Cn_init_11 : decode mb_Cn_init 11 = .ok (.invokespecial 11, 3) := by decide +kernel
theorem dc_Cn_init_14 : decode mb_Cn_init 14 = .ok (.putfield 14, 3) := by decide +kernel
theorem dc_Cn_init_17 : decode mb_Cn_init 17 = .ok (.aload_n 0, 1) := by decide +kernel
theorem dc_Cn_init_18 : decode mb_Cn_init 18 = .ok (.new 7, 3) := by decide +kernel
theorem dc_Cn_init_21 : decode mb_Cn_init 21 = .ok (.dup, 1) := by decide +kernel
theorem dc_Cn_init_22 : decode mb_Cn_init 22 = .ok (.bipush 80, 2) := by decide +kernel
theorem dc_Cn_init_24 : decode mb_Cn_init 24 = .ok (.invokespecial 11, 3) := by decide +kernel
theorem dc_Cn_init_27 : decode mb_Cn_init 27 = .ok (.putfield 20, 3) := by decide +kernel
theorem dc_Cn_init_30 : decode mb_Cn_init 30 = .ok (.aload_n 0, 1) := by decide +kernel
theorem dc_Cn_init_31 : decode mb_Cn_init 31 = .ok (.new 7, 3) := by decide +kernel
theorem dc_Cn_init_34 : decode mb_Cn_init 34 = .ok (.dup, 1) := by decide +kernel
theorem dc_Cn_init_35 : decode mb_Cn_init 35 = .ok (.sipush 266, 3) := by decide +kernel
theorem dc_Cn_init_38 : decode mb_Cn_init 38 = .ok (.invokespecial 11, 3) := by decide +kernel
theorem dc_Cn_init_41 : decode mb_Cn_init 41 = .ok (.putfield 25, 3) := by decide +kernel
theorem dc_Cn_init_44 : decode mb_Cn_init 44 = .ok (.aload_n 0, 1) := by decide +kernel
theorem dc_Cn_init_45 : decode mb_Cn_init 45 = .ok (.iconst 0, 1) := by decide +kernel
theorem dc_Cn_init_46 : decode mb_Cn_init 46 = .ok (.putfield 28, 3) := by decide +kernel
theorem dc_Cn_init_49 : decode mb_Cn_init 49 = .ok (.aload_n 0, 1) := by decide +kernel
theorem dc_Cn_init_50 : decode mb_Cn_init 50 = .ok (.iconst 0, 1) := by decide +kernel
theorem dc_Cn_init_51 : decode mb_Cn_init 51 = .ok (.putfield 32, 3) := by decide +kernel
theorem dc_Cn_init_54 : decode mb_Cn_init 54 = .ok (.aload_n 0, 1) := by decide +kernel
theorem dc_Cn_init_55 : decode mb_Cn_init 55 = .ok (.iconst 0, 1) := by decide +kernel
theorem dc_Cn_init_56 : decode mb_Cn_init 56 = .ok (.putfield 36, 3) := by decide +kernel
theorem dc_Cn_init_59 : decode mb_Cn_init 59 = .ok (.aload_n 0, 1) := by decide +kernel
theorem dc_Cn_init_60 : decode mb_Cn_init 60 = .ok (.iconst 0, 1) := by decide +kernel
theorem dc_Cn_init_61 : decode mb_Cn_init 61 = .ok (.putfield 39, 3) := by decide +kernel
theorem dc_Cn_init_64 : decode mb_Cn_init 64 = .ok (.aload_n 0, 1) := by decide +kernel
theorem dc_Cn_init_65 : decode mb_Cn_init 65 = .ok (.iconst 0, 1) := by decide +kernel
theorem dc_Cn_init_66 : decode mb_Cn_init 66 = .ok (.putfield 42, 3) := by decide +kernel
theorem dc_Cn_init_69 : decode mb_Cn_init 69 = .ok (.aload_n 0, 1) := by decide +kernel
theorem dc_Cn_init_70 : decode mb_Cn_init 70 = .ok (.iload_n 1, 1) := by decide +kernel
theorem dc_Cn_init_71 : decode mb_Cn_init 71 = .ok (.putfield 45, 3) := by decide +kernel
theorem dc_Cn_init_74 : decode mb_Cn_init 74 = .ok (.aload_n 0, 1) := by decide +kernel
theorem dc_Cn_init_75 : decode mb_Cn_init 75 = .ok (.new 48, 3) := by decide +kernel
theorem dc_Cn_init_78 : decode mb_Cn_init 78 = .ok (.dup, 1) := by decide +kernel
theorem dc_Cn_init_79 : decode mb_Cn_init 79 = .ok (.iload_n 2, 1) := by decide +kernel
theorem dc_Cn_init_80 : decode mb_Cn_init 80 = .ok (.invokespecial 50, 3) := by decide +kernel
theorem dc_Cn_init_83 : decode mb_Cn_init 83 = .ok (.putfield 51, 3) := by decide +kernel
theorem dc_Cn_init_86 : decode mb_Cn_init 86 = .ok (.return_, 1) := by decide +kernel
theorem dc_Cn_state_0 : decode mb_Cn_state 0 = .ok (.aload_n 0, 1) := by decide +kernel
theorem dc_Cn_state_1 : decode mb_Cn_state 1 = .ok (.getfield 28, 3) := by decide +kernel
theorem dc_Cn_state_4 : decode mb_Cn_state 4 = .ok (.ifCond .eq 31, 3) := by decide +kernel
theorem dc_Cn_state_7 : decode mb_Cn_state 7 = .ok (.iconst 1, 1) := by decide +kernel
theorem dc_Cn_state_8 : decode mb_Cn_state 8 = .ok (.iconst 4, 1) := by decide +kernel
theorem dc_Cn_state_9 : decode mb_Cn_state 9 = .ok (.aload_n 0, 1) := by decide +kernel
theorem dc_Cn_state_10 : decode mb_Cn_state 10 = .ok (.getfield 39, 3) := by decide +kernel
theorem dc_Cn_state_13 : decode mb_Cn_state 13 = .ok (.imul, 1) := by decide +kernel
theorem dc_Cn_state_14 : decode mb_Cn_state 14 = .ok (.iadd, 1) := by decide +kernel
theorem dc_Cn_state_15 : decode mb_Cn_state 15 = .ok (.bipush 16, 2) := by decide +kernel
theorem dc_Cn_state_17 : decode mb_Cn_state 17 = .ok (.aload_n 0, 1) := by decide +kernel
theorem dc_Cn_state_18 : decode mb_Cn_state 18 = .ok (.getfield 32, 3) := by decide +kernel
theorem dc_Cn_state_21 : decode mb_Cn_state 21 = .ok (.imul, 1) := by decide +kernel
theorem dc_Cn_state_22 : decode mb_Cn_state 22 = .ok (.iadd, 1) := by decide +kernel
theorem dc_Cn_state_23 : decode mb_Cn_state 23 = .ok (.sipush 128, 3) := by decide +kernel
theorem dc_Cn_state_26 : decode mb_Cn_state 26 = .ok (.aload_n 0, 1) := by decide +kernel
theorem dc_Cn_state_27 : decode mb_Cn_state 27 = .ok (.getfield 36, 3) := by decide +kernel
theorem dc_Cn_state_30 : decode mb_Cn_state 30 = .ok (.imul, 1) := by decide +kernel
theorem dc_Cn_state_31 : decode mb_Cn_state 31 = .ok (.iadd, 1) := by decide +kernel
theorem dc_Cn_state_32 : decode mb_Cn_state 32 = .ok (.goto 4, 3) := by decide +kernel
theorem dc_Cn_state_35 : decode mb_Cn_state 35 = .ok (.iconst 0, 1) := by decide +kernel
theorem dc_Cn_state_36 : decode mb_Cn_state 36 = .ok (.ireturn, 1) := by decide +kernel
theorem dc_Cn_receive_0 : decode mb_Cn_receive 0 = .ok (.aload_n 1, 1) := by decide +kernel
theorem dc_Cn_receive_1 : decode mb_Cn_receive 1 = .ok (.iconst 3, 1) := by decide +kernel
theorem dc_Cn_receive_2 : decode mb_Cn_receive 2 = .ok (.invokevirtual 55, 3) := by decide +kernel
theorem dc_Cn_receive_5 : decode mb_Cn_receive 5 = .ok (.istore_n 3, 1) := by decide +kernel
theorem dc_Cn_receive_6 : decode mb_Cn_receive 6 = .ok (.aload_n 1, 1) := by decide +kernel
theorem dc_Cn_receive_7 : decode mb_Cn_receive 7 = .ok (.getfield 59, 3) := by decide +kernel
theorem dc_Cn_receive_10 : decode mb_Cn_receive 10 = .ok (.bipush 7, 2) := by decide +kernel
theorem dc_Cn_receive_12 : decode mb_Cn_receive 12 = .ok (.if_icmp .ne 12, 3) := by decide +kernel
theorem dc_Cn_receive_15 : decode mb_Cn_receive 15 = .ok (.aload_n 0, 1) := by decide +kernel
theorem dc_Cn_receive_16 : decode mb_Cn_receive 16 = .ok (.iload_n 3, 1) := by decide +kernel
theorem dc_Cn_receive_17 : decode mb_Cn_receive 17 = .ok (.aload_n 2, 1) := by decide +kernel
theorem dc_Cn_receive_18 : decode mb_Cn_receive 18 = .ok (.invokevirtual 62, 3) := by decide +kernel
theorem dc_Cn_receive_21 : decode mb_Cn_receive 21 = .ok (.goto 175, 3) := by decide +kernel
theorem dc_Cn_receive_24 : decode mb_Cn_receive 24 = .ok (.aload_n 0, 1) := by decide +kernel
theorem dc_Cn_receive_25 : decode mb_Cn_receive 25 = .ok (.getfield 28, 3) := by decide +kernel
theorem dc_Cn_receive_28 : decode mb_Cn_receive 28 = .ok (.ifCond .ne 19, 3) := by decide +kernel
theorem dc_Cn_receive_31 : decode mb_Cn_receive 31 = .ok (.iload_n 3, 1) := by decide +kernel
theorem dc_Cn_receive_32 : decode mb_Cn_receive 32 = .ok (.invokestatic 66, 3) := by decide +kernel
theorem dc_Cn_receive_35 : decode mb_Cn_receive 35 = .ok (.ifCond .eq 161, 3) := by decide +kernel
theorem dc_Cn_receive_38 : decode mb_Cn_receive 38 = .ok (.aload_n 2, 1) := by decide +kernel
theorem dc_Cn_receive_39 : decode mb_Cn_receive 39 = .ok (.bipush 31, 2) := by decide +kernel
theorem dc_Cn_receive_41 : decode mb_Cn_receive 41 = .ok (.invokestatic 70, 3) := by decide +kernel
theorem dc_Cn_receive_44 : decode mb_Cn_receive 44 = .ok (.goto 152, 3) := by decide +kernel
theorem dc_Cn_receive_47 : decode mb_Cn_receive 47 = .ok (.iload_n 3, 1) := by decide +kernel
theorem dc_Cn_receive_48 : decode mb_Cn_receive 48 = .ok (.aload_n 0, 1) := by decide +kernel
theorem dc_Cn_receive_49 : decode mb_Cn_receive 49 = .ok (.getfield 32, 3) := by decide +kernel
theorem dc_Cn_receive_52 : decode mb_Cn_receive 52 = .ok (.aload_n 0, 1) := by decide +kernel
theorem dc_Cn_receive_53 : decode mb_Cn_receive 53 = .ok (.getfield 36, 3) := by decide +kernel
theorem dc_Cn_receive_56 : decode mb_Cn_receive 56 = .ok (.invokestatic 74, 3) := by decide +kernel
theorem dc_Cn_receive_59 : decode mb_Cn_receive 59 = .ok (.if_icmp .ne 89, 3) := by decide +kernel
theorem dc_Cn_receive_62 : decode mb_Cn_receive 62 = .ok (.aload_n 0, 1) := by decide +kernel
theorem dc_Cn_receive_63 : decode mb_Cn_receive 63 = .ok (.getfield 14, 3) := by decide +kernel
theorem dc_Cn_receive_66 : decode mb_Cn_receive 66 = .ok (.invokevirtual 78, 3) := by decide +kernel
theorem dc_Cn_receive_69 : decode mb_Cn_receive 69 = .ok (.aload_n 0, 1) := by decide +kernel
theorem dc_Cn_receive_70 : decode mb_Cn_receive 70 = .ok (.getfield 14, 3) := by decide +kernel
theorem dc_Cn_receive_73 : decode mb_Cn_receive 73 = .ok (.aload_n 1, 1) := by decide +kernel
theorem dc_Cn_receive_74 : decode mb_Cn_receive 74 = .ok (.bipush 6, 2) := by decide +kernel
theorem dc_Cn_receive_76 : decode mb_Cn_receive 76 = .ok (.aload_n 1, 1) := by decide +kernel
theorem dc_Cn_receive_77 : decode mb_Cn_receive 77 = .ok (.invokestatic 81, 3) := by decide +kernel
theorem dc_Cn_receive_80 : decode mb_Cn_receive 80 = .ok (.invokevirtual 85, 3) := by decide +kernel
theorem dc_Cn_receive_83 : decode mb_Cn_receive 83 = .ok (.aload_n 0, 1) := by decide +kernel
theorem dc_Cn_receive_84 : decode mb_Cn_receive 84 = .ok (.aload_n 2, 1) := by decide +kernel
theorem dc_Cn_receive_85 : decode mb_Cn_receive 85 = .ok (.invokevirtual 89, 3) := by decide +kernel
theorem dc_Cn_receive_88 : decode mb_Cn_receive 88 = .ok (.aload_n 0, 1) := by decide +kernel
theorem dc_Cn_receive_89 : decode mb_Cn_receive 89 = .ok (.aload_n 0, 1) := by decide +kernel
theorem dc_Cn_receive_90 : decode mb_Cn_receive 90 = .ok (.getfield 32, 3) := by decide +kernel
theorem dc_Cn_receive_93 : decode mb_Cn_receive 93 = .ok (.invokestatic 93, 3) := by decide +kernel
theorem dc_Cn_receive_96 : decode mb_Cn_receive 96 = .ok (.putfield 32, 3) := by decide +kernel
theorem dc_Cn_receive_99 : decode mb_Cn_receive 99 = .ok (.aload_n 2, 1) := by decide +kernel
theorem dc_Cn_receive_100 : decode mb_Cn_receive 100 = .ok (.aload_n 0, 1) := by decide +kernel
theorem dc_Cn_receive_101 : decode mb_Cn_receive 101 = .ok (.getfield 36, 3) := by decide +kernel
theorem dc_Cn_receive_104 : decode mb_Cn_receive 104 = .ok (.aload_n 0, 1) := by decide +kernel
theorem dc_Cn_receive_105 : decode mb_Cn_receive 105 = .ok (.getfield 32, 3) := by decide +kernel
theorem dc_Cn_receive_108 : decode mb_Cn_receive 108 = .ok (.invokestatic 74, 3) := by decide +kernel
theorem dc_Cn_receive_111 : decode mb_Cn_receive 111 = .ok (.invokestatic 70, 3) := by decide +kernel
theorem dc_Cn_receive_114 : decode mb_Cn_receive 114 = .ok (.aload_n 0, 1) := by decide +kernel
theorem dc_Cn_receive_115 : decode mb_Cn_receive 115 = .ok (.aload_n 0, 1) := by decide +kernel
theorem dc_Cn_receive_116 : decode mb_Cn_receive 116 = .ok (.getfield 36, 3) := by decide +kernel
theorem dc_Cn_receive_119 : decode mb_Cn_receive 119 = .ok (.invokestatic 93, 3) := by decide +kernel
theorem dc_Cn_receive_122 : decode mb_Cn_receive 122 = .ok (.putfield 36, 3) := by decide +kernel
theorem dc_Cn_receive_125 : decode mb_Cn_receive 125 = .ok (.aload_n 0, 1) := by decide +kernel
theorem dc_Cn_receive_126 : decode mb_Cn_receive 126 = .ok (.getfield 20, 3) := by decide +kernel
theorem dc_Cn_receive_129 : decode mb_Cn_receive 129 = .ok (.invokevirtual 78, 3) := by decide +kernel
theorem dc_Cn_receive_132 : decode mb_Cn_receive 132 = .ok (.aload_n 0, 1) := by decide +kernel
theorem dc_Cn_receive_133 : decode mb_Cn_receive 133 = .ok (.getfield 20, 3) := by decide +kernel
theorem dc_Cn_receive_136 : decode mb_Cn_receive 136 = .ok (.aload_n 2, 1) := by decide +kernel
theorem dc_Cn_receive_137 : decode mb_Cn_receive 137 = .ok (.iconst 0, 1) := by decide +kernel
theorem dc_Cn_receive_138 : decode mb_Cn_receive 138 = .ok (.aload_n 2, 1) := by decide +kernel
theorem dc_Cn_receive_139 : decode mb_Cn_receive 139 = .ok (.getfield 59, 3) := by decide +kernel
theorem dc_Cn_receive_142 : decode mb_Cn_receive 142 = .ok (.invokevirtual 85, 3) := by decide +kernel
theorem dc_Cn_receive_145 : decode mb_Cn_receive 145 = .ok (.goto 51, 3) := by decide +kernel
theorem dc_Cn_receive_148 : decode mb_Cn_receive 148 = .ok (.aload_n 0, 1) := by decide +kernel
theorem dc_Cn_receive_149 : decode mb_Cn_receive 149 = .ok (.iload_n 3, 1) := by decide +kernel
theorem dc_Cn_receive_150 : decode mb_Cn_receive 150 = .ok (.invokevirtual 96, 3) := by decide +kernel
theorem dc_Cn_receive_153 : decode mb_Cn_receive 153 = .ok (.ifCond .eq 22, 3) := by decide +kernel
theorem dc_Cn_receive_156 : decode mb_Cn_receive 156 = .ok (.aload_n 2, 1) := by decide +kernel
theorem dc_Cn_receive_157 : decode mb_Cn_receive 157 = .ok (.aload_n 0, 1) := by decide +kernel
theorem dc_Cn_receive_158 : decode mb_Cn_receive 158 = .ok (.getfield 20, 3) := by decide +kernel
theorem dc_Cn_receive_161 : decode mb_Cn_receive 161 = .ok (.iconst 0, 1) := by decide +kernel
theorem dc_Cn_receive_162 : decode mb_Cn_receive 162 = .ok (.aload_n 0, 1) := by decide +kernel
theorem dc_Cn_receive_163 : decode mb_Cn_receive 163 = .ok (.getfield 20, 3) := by decide +kernel
theorem dc_Cn_receive_166 : decode mb_Cn_receive 166 = .ok (.getfield 59, 3) := by decide +kernel
theorem dc_Cn_receive_169 : decode mb_Cn_receive 169 = .ok (.invokevirtual 85, 3) := by decide +kernel
theorem dc_Cn_receive_172 : decode mb_Cn_receive 172 = .ok (.goto 24, 3) := by decide +kernel
theorem dc_Cn_receive_175 : decode mb_Cn_receive 175 = .ok (.iload_n 3, 1) := by decide +kernel
theorem dc_Cn_receive_176 : decode mb_Cn_receive 176 = .ok (.invokestatic 66, 3) := by decide +kernel
theorem dc_Cn_receive_179 : decode mb_Cn_receive 179 = .ok (.ifCond .eq 17, 3) := by decide +kernel
theorem dc_Cn_receive_182 : decode mb_Cn_receive 182 = .ok (.aload_n 2, 1) := by decide +kernel
theorem dc_Cn_receive_183 : decode mb_Cn_receive 183 = .ok (.bipush 17, 2) := by decide +kernel
theorem dc_Cn_receive_185 : decode mb_Cn_receive 185 = .ok (.bipush 32, 2) := by decide +kernel
theorem dc_Cn_receive_187 : decode mb_Cn_receive 187 = .ok (.aload_n 0, 1) := by decide +kernel
theorem dc_Cn_receive_188 : decode mb_Cn_receive 188 = .ok (.getfield 32, 3) := by decide +kernel
theorem dc_Cn_receive_191 : decode mb_Cn_receive 191 = .ok (.imul, 1) := by decide +kernel
theorem dc_Cn_receive_192 : decode mb_Cn_receive 192 = .ok (.iadd, 1) := by decide +kernel
theorem dc_Cn_receive_193 : decode mb_Cn_receive 193 = .ok (.invokestatic 70, 3) := by decide +kernel
theorem dc_Cn_receive_196 : decode mb_Cn_receive 196 = .ok (.return_, 1) := by decide +kernel
theorem dc_Cn_receiveBare_0 : decode mb_Cn_receiveBare 0 = .ok (.iload_n 1, 1) := by decide +kernel
theorem dc_Cn_receiveBare_1 : decode mb_Cn_receiveBare 1 = .ok (.sipush 147, 3) := by decide +kernel
theorem dc_Cn_receiveBare_4 : decode mb_Cn_receiveBare 4 = .ok (.if_icmp .ne 16, 3) := by decide +kernel
theorem dc_Cn_receiveBare_7 : decode mb_Cn_receiveBare 7 = .ok (.aload_n 0, 1) := by decide +kernel
theorem dc_Cn_receiveBare_8 : decode mb_Cn_receiveBare 8 = .ok (.invokevirtual 99, 3) := by decide +kernel
theorem dc_Cn_receiveBare_11 : decode mb_Cn_receiveBare 11 = .ok (.aload_n 2, 1) := by decide +kernel
theorem dc_Cn_receiveBare_12 : decode mb_Cn_receiveBare 12 = .ok (.bipush 115, 2) := by decide +kernel
theorem dc_Cn_receiveBare_14 : decode mb_Cn_receiveBare 14 = .ok (.invokestatic 70, 3) := by decide +kernel
theorem dc_Cn_receiveBare_17 : decode mb_Cn_receiveBare 17 = .ok (.goto 32, 3) := by decide +kernel
theorem dc_Cn_receiveBare_20 : decode mb_Cn_receiveBare 20 = .ok (.iload_n 1, 1) := by decide +kernel
theorem dc_Cn_receiveBare_21 : decode mb_Cn_receiveBare 21 = .ok (.bipush 83, 2) := by decide +kernel
theorem dc_Cn_receiveBare_23 : decode mb_Cn_receiveBare 23 = .ok (.if_icmp .ne 26, 3) := by decide +kernel
theorem dc_Cn_receiveBare_26 : decode mb_Cn_receiveBare 26 = .ok (.aload_n 2, 1) := by decide +kernel
theorem dc_Cn_receiveBare_27 : decode mb_Cn_receiveBare 27 = .ok (.aload_n 0, 1) := by decide +kernel
theorem dc_Cn_receiveBare_28 : decode mb_Cn_receiveBare 28 = .ok (.getfield 28, 3) := by decide +kernel
theorem dc_Cn_receiveBare_31 : decode mb_Cn_receiveBare 31 = .ok (.ifCond .eq 8, 3) := by decide +kernel
theorem dc_Cn_receiveBare_34 : decode mb_Cn_receiveBare 34 = .ok (.bipush 115, 2) := by decide +kernel
theorem dc_Cn_receiveBare_36 : decode mb_Cn_receiveBare 36 = .ok (.goto 5, 3) := by decide +kernel
theorem dc_Cn_receiveBare_39 : decode mb_Cn_receiveBare 39 = .ok (.bipush 31, 2) := by decide +kernel
theorem dc_Cn_receiveBare_41 : decode mb_Cn_receiveBare 41 = .ok (.invokestatic 70, 3) := by decide +kernel
theorem dc_Cn_receiveBare_44 : decode mb_Cn_receiveBare 44 = .ok (.aload_n 0, 1) := by decide +kernel
theorem dc_Cn_receiveBare_45 : decode mb_Cn_receiveBare 45 = .ok (.iconst 0, 1) := by decide +kernel
theorem dc_Cn_receiveBare_46 : decode mb_Cn_receiveBare 46 = .ok (.putfield 28, 3) := by decide +kernel
theorem dc_Cn_receiveBare_49 : decode mb_Cn_receiveBare 49 = .ok (.return_, 1) := by decide +kernel
theorem dc_Cn_connect_0 : decode mb_Cn_connect 0 = .ok (.aload_n 0, 1) := by decide +kernel
theorem dc_Cn_connect_1 : decode mb_Cn_connect 1 = .ok (.iconst 1, 1) := by decide +kernel
theorem dc_Cn_connect_2 : decode mb_Cn_connect 2 = .ok (.putfield 28, 3) := by decide +kernel
theorem dc_Cn_connect_5 : decode mb_Cn_connect 5 = .ok (.aload_n 0, 1) := by decide +kernel
theorem dc_Cn_connect_6 : decode mb_Cn_connect 6 = .ok (.iconst 0, 1) := by decide +kernel
theorem dc_Cn_connect_7 : decode mb_Cn_connect 7 = .ok (.putfield 32, 3) := by decide +kernel
theorem dc_Cn_connect_10 : decode mb_Cn_connect 10 = .ok (.aload_n 0, 1) := by decide +kernel
theorem dc_Cn_connect_11 : decode mb_Cn_connect 11 = .ok (.iconst 0, 1) := by decide +kernel
theorem dc_Cn_connect_12 : decode mb_Cn_connect 12 = .ok (.putfield 36, 3) := by decide +kernel
theorem dc_Cn_connect_15 : decode mb_Cn_connect 15 = .ok (.aload_n 0, 1) := by decide +kernel
theorem dc_Cn_connect_16 : decode mb_Cn_connect 16 = .ok (.iconst 0, 1) := by decide +kernel
theorem dc_Cn_connect_17 : decode mb_Cn_connect 17 = .ok (.putfield 39, 3) := by decide +kernel
theorem dc_Cn_connect_20 : decode mb_Cn_connect 20 = .ok (.aload_n 0, 1) := by decide +kernel
theorem dc_Cn_connect_21 : decode mb_Cn_connect 21 = .ok (.iconst 0, 1) := by decide +kernel
theorem dc_Cn_connect_22 : decode mb_Cn_connect 22 = .ok (.putfield 42, 3) := by decide +kernel
theorem dc_Cn_connect_25 : decode mb_Cn_connect 25 = .ok (.aload_n 0, 1) := by decide +kernel
theorem dc_Cn_connect_26 : decode mb_Cn_connect 26 = .ok (.getfield 20, 3) := by decide +kernel
theorem dc_Cn_connect_29 : decode mb_Cn_connect 29 = .ok (.invokevirtual 78, 3) := by decide +kernel
theorem dc_Cn_connect_32 : decode mb_Cn_connect 32 = .ok (.return_, 1) := by decide +kernel
theorem dc_Cn_isLatestAgain_0 : decode mb_Cn_isLatestAgain 0 = .ok (.aload_n 0, 1) := by decide +kernel
theorem dc_Cn_isLatestAgain_1 : decode mb_Cn_isLatestAgain 1 = .ok (.getfield 20, 3) := by decide +kernel
theorem dc_Cn_isLatestAgain_4 : decode mb_Cn_isLatestAgain 4 = .ok (.getfield 59, 3) := by decide +kernel
theorem dc_Cn_isLatestAgain_7 : decode mb_Cn_isLatestAgain 7 = .ok (.ifCond .le 28, 3) := by decide +kernel
theorem dc_Cn_isLatestAgain_10 : decode mb_Cn_isLatestAgain 10 = .ok (.iload_n 1, 1) := by decide +kernel
theorem dc_Cn_isLatestAgain_11 : decode mb_Cn_isLatestAgain 11 = .ok (.aload_n 0, 1) := by decide +kernel
theorem dc_Cn_isLatestAgain_12 : decode mb_Cn_isLatestAgain 12 = .ok (.getfield 32, 3) := by decide +kernel
theorem dc_Cn_isLatestAgain_15 : decode mb_Cn_isLatestAgain 15 = .ok (.invokestatic 102, 3) := by decide +kernel
theorem dc_Cn_isLatestAgain_18 : decode mb_Cn_isLatestAgain 18 = .ok (.aload_n 0, 1) := by decide +kernel
theorem dc_Cn_isLatestAgain_19 : decode mb_Cn_isLatestAgain 19 = .ok (.getfield 36, 3) := by decide +kernel
theorem dc_Cn_isLatestAgain_22 : decode mb_Cn_isLatestAgain 22 = .ok (.invokestatic 102, 3) := by decide +kernel
theorem dc_Cn_isLatestAgain_25 : decode mb_Cn_isLatestAgain 25 = .ok (.invokestatic 74, 3) := by decide +kernel
theorem dc_Cn_isLatestAgain_28 : decode mb_Cn_isLatestAgain 28 = .ok (.if_icmp .ne 7, 3) := by decide +kernel
theorem dc_Cn_isLatestAgain_31 : decode mb_Cn_isLatestAgain 31 = .ok (.iconst 1, 1) := by decide +kernel
theorem dc_Cn_isLatestAgain_32 : decode mb_Cn_isLatestAgain 32 = .ok (.goto 4, 3) := by decide +kernel
theorem dc_Cn_isLatestAgain_35 : decode mb_Cn_isLatestAgain 35 = .ok (.iconst 0, 1) := by decide +kernel
theorem dc_Cn_isLatestAgain_36 : decode mb_Cn_isLatestAgain 36 = .ok (.ireturn, 1) := by decide +kernel
theorem dc_Cn_answer_0 : decode mb_Cn_answer 0 = .ok (.aload_n 0, 1) := by decide +kernel
theorem dc_Cn_answer_1 : decode mb_Cn_answer 1 = .ok (.getfield 42, 3) := by decide +kernel
theorem dc_Cn_answer_4 : decode mb_Cn_answer 4 = .ok (.istore_n 2, 1) := by decide +kernel
theorem dc_Cn_answer_5 : decode mb_Cn_answer 5 = .ok (.aload_n 0, 1) := by decide +kernel
theorem dc_Cn_answer_6 : decode mb_Cn_answer 6 = .ok (.iconst 0, 1) := by decide +kernel
theorem dc_Cn_answer_7 : decode mb_Cn_answer 7 = .ok (.putfield 42, 3) := by decide +kernel
theorem dc_Cn_answer_10 : decode mb_Cn_answer 10 = .ok (.aload_n 0, 1) := by decide +kernel
theorem dc_Cn_answer_11 : decode mb_Cn_answer 11 = .ok (.bipush 96, 2) := by decide +kernel
theorem dc_Cn_answer_13 : decode mb_Cn_answer 13 = .ok (.bipush 6, 2) := by decide +kernel
theorem dc_Cn_answer_15 : decode mb_Cn_answer 15 = .ok (.invokevirtual 105, 3) := by decide +kernel
theorem dc_Cn_answer_18 : decode mb_Cn_answer 18 = .ok (.ifCond .eq 11, 3) := by decide +kernel
theorem dc_Cn_answer_21 : decode mb_Cn_answer 21 = .ok (.aload_n 0, 1) := by decide +kernel
theorem dc_Cn_answer_22 : decode mb_Cn_answer 22 = .ok (.aload_n 1, 1) := by decide +kernel
theorem dc_Cn_answer_23 : decode mb_Cn_answer 23 = .ok (.invokevirtual 109, 3) := by decide +kernel
theorem dc_Cn_answer_26 : decode mb_Cn_answer 26 = .ok (.goto 303, 3) := by decide +kernel
theorem dc_Cn_answer_29 : decode mb_Cn_answer 29 = .ok (.aload_n 0, 1) := by decide +kernel
theorem dc_Cn_answer_30 : decode mb_Cn_answer 30 = .ok (.bipush 98, 2) := by decide +kernel
theorem dc_Cn_answer_32 : decode mb_Cn_answer 32 = .ok (.iconst 1, 1) := by decide +kernel
theorem dc_Cn_answer_33 : decode mb_Cn_answer 33 = .ok (.invokevirtual 105, 3) := by decide +kernel
theorem dc_Cn_answer_36 : decode mb_Cn_answer 36 = .ok (.ifCond .eq 17, 3) := by decide +kernel
theorem dc_Cn_answer_39 : decode mb_Cn_answer 39 = .ok (.aload_n 0, 1) := by decide +kernel
theorem dc_Cn_answer_40 : decode mb_Cn_answer 40 = .ok (.iconst 0, 1) := by decide +kernel
theorem dc_Cn_answer_41 : decode mb_Cn_answer 41 = .ok (.putfield 39, 3) := by decide +kernel
theorem dc_Cn_answer_44 : decode mb_Cn_answer 44 = .ok (.aload_n 1, 1) := by decide +kernel
theorem dc_Cn_answer_45 : decode mb_Cn_answer 45 = .ok (.bipush 99, 2) := by decide +kernel
theorem dc_Cn_answer_47 : decode mb_Cn_answer 47 = .ok (.invokevirtual 112, 3) := by decide +kernel
theorem dc_Cn_answer_50 : decode mb_Cn_answer 50 = .ok (.goto 279, 3) := by decide +kernel
theorem dc_Cn_answer_53 : decode mb_Cn_answer 53 = .ok (.aload_n 0, 1) := by decide +kernel
theorem dc_Cn_answer_54 : decode mb_Cn_answer 54 = .ok (.getfield 39, 3) := by decide +kernel
theorem dc_Cn_answer_57 : decode mb_Cn_answer 57 = .ok (.ifCond .ne 21, 3) := by decide +kernel
theorem dc_Cn_answer_60 : decode mb_Cn_answer 60 = .ok (.aload_n 0, 1) := by decide +kernel
theorem dc_Cn_answer_61 : decode mb_Cn_answer 61 = .ok (.invokevirtual 115, 3) := by decide +kernel
theorem dc_Cn_answer_64 : decode mb_Cn_answer 64 = .ok (.ifCond .eq 14, 3) := by decide +kernel
theorem dc_Cn_answer_67 : decode mb_Cn_answer 67 = .ok (.aload_n 1, 1) := by decide +kernel
theorem dc_Cn_answer_68 : decode mb_Cn_answer 68 = .ok (.sipush 216, 3) := by decide +kernel
theorem dc_Cn_answer_71 : decode mb_Cn_answer 71 = .ok (.iconst 1, 1) := by decide +kernel
theorem dc_Cn_answer_72 : decode mb_Cn_answer 72 = .ok (.invokestatic 119, 3) := by decide +kernel
theorem dc_Cn_answer_75 : decode mb_Cn_answer 75 = .ok (.goto 254, 3) := by decide +kernel
theorem dc_Cn_answer_78 : decode mb_Cn_answer 78 = .ok (.aload_n 0, 1) := by decide +kernel
theorem dc_Cn_answer_79 : decode mb_Cn_answer 79 = .ok (.sipush 192, 3) := by decide +kernel
theorem dc_Cn_answer_82 : decode mb_Cn_answer 82 = .ok (.iconst 5, 1) := by decide +kernel
theorem dc_Cn_answer_83 : decode mb_Cn_answer 83 = .ok (.invokevirtual 105, 3) := by decide +kernel
theorem dc_Cn_answer_86 : decode mb_Cn_answer 86 = .ok (.ifCond .eq 37, 3) := by decide +kernel
theorem dc_Cn_answer_89 : decode mb_Cn_answer 89 = .ok (.aload_n 0, 1) := by decide +kernel
theorem dc_Cn_answer_90 : decode mb_Cn_answer 90 = .ok (.getfield 14, 3) := by decide +kernel
theorem dc_Cn_answer_93 : decode mb_Cn_answer 93 = .ok (.iconst 1, 1) := by decide +kernel
theorem dc_Cn_answer_94 : decode mb_Cn_answer 94 = .ok (.invokevirtual 55, 3) := by decide +kernel
theorem dc_Cn_answer_97 : decode mb_Cn_answer 97 = .ok (.iconst 1, 1) := by decide +kernel
theorem dc_Cn_answer_98 : decode mb_Cn_answer 98 = .ok (.if_icmp .ne 25, 3) := by decide +kernel
theorem dc_Cn_answer_101 : decode mb_Cn_answer 101 = .ok (.aload_n 0, 1) := by decide +kernel
theorem dc_Cn_answer_102 : decode mb_Cn_answer 102 = .ok (.getfield 14, 3) := by decide +kernel
theorem dc_Cn_answer_105 : decode mb_Cn_answer 105 = .ok (.iconst 4, 1) := by decide +kernel
theorem dc_Cn_answer_106 : decode mb_Cn_answer 106 = .ok (.invokevirtual 55, 3) := by decide +kernel
theorem dc_Cn_answer_109 : decode mb_Cn_answer 109 = .ok (.ifCond .ne 14, 3) := by decide +kernel
theorem dc_Cn_answer_112 : decode mb_Cn_answer 112 = .ok (.aload_n 0, 1) := by decide +kernel
theorem dc_Cn_answer_113 : decode mb_Cn_answer 113 = .ok (.aload_n 1, 1) := by decide +kernel
theorem dc_Cn_answer_114 : decode mb_Cn_answer 114 = .ok (.iconst 0, 1) := by decide +kernel
theorem dc_Cn_answer_115 : decode mb_Cn_answer 115 = .ok (.iconst 0, 1) := by decide +kernel
theorem dc_Cn_answer_116 : decode mb_Cn_answer 116 = .ok (.iconst (-1), 1) := by decide +kernel
theorem dc_Cn_answer_117 : decode mb_Cn_answer 117 = .ok (.invokevirtual 122, 3) := by decide +kernel
theorem dc_Cn_answer_120 : decode mb_Cn_answer 120 = .ok (.goto 209, 3) := by decide +kernel
theorem dc_Cn_answer_123 : decode mb_Cn_answer 123 = .ok (.aload_n 0, 1) := by decide +kernel
theorem dc_Cn_answer_124 : decode mb_Cn_answer 124 = .ok (.sipush 192, 3) := by decide +kernel
theorem dc_Cn_answer_127 : decode mb_Cn_answer 127 = .ok (.bipush 13, 2) := by decide +kernel
theorem dc_Cn_answer_129 : decode mb_Cn_answer 129 = .ok (.invokevirtual 105, 3) := by decide +kernel
theorem dc_Cn_answer_132 : decode mb_Cn_answer 132 = .ok (.ifCond .eq 53, 3) := by decide +kernel
theorem dc_Cn_answer_135 : decode mb_Cn_answer 135 = .ok (.aload_n 0, 1) := by decide +kernel
theorem dc_Cn_answer_136 : decode mb_Cn_answer 136 = .ok (.getfield 14, 3) := by decide +kernel
theorem dc_Cn_answer_139 : decode mb_Cn_answer 139 = .ok (.iconst 1, 1) := by decide +kernel
theorem dc_Cn_answer_140 : decode mb_Cn_answer 140 = .ok (.invokevirtual 55, 3) := by decide +kernel
theorem dc_Cn_answer_143 : decode mb_Cn_answer 143 = .ok (.iconst 1, 1) := by decide +kernel
theorem dc_Cn_answer_144 : decode mb_Cn_answer 144 = .ok (.if_icmp .ne 41, 3) := by decide +kernel
theorem dc_Cn_answer_147 : decode mb_Cn_answer 147 = .ok (.aload_n 0, 1) := by decide +kernel
theorem dc_Cn_answer_148 : decode mb_Cn_answer 148 = .ok (.getfield 14, 3) := by decide +kernel
theorem dc_Cn_answer_151 : decode mb_Cn_answer 151 = .ok (.iconst 4, 1) := by decide +kernel
theorem dc_Cn_answer_152 : decode mb_Cn_answer 152 = .ok (.invokevirtual 55, 3) := by decide +kernel
theorem dc_Cn_answer_155 : decode mb_Cn_answer 155 = .ok (.iconst 1, 1) := by decide +kernel
theorem dc_Cn_answer_156 : decode mb_Cn_answer 156 = .ok (.if_icmp .ne 29, 3) := by decide +kernel
theorem dc_Cn_answer_159 : decode mb_Cn_answer 159 = .ok (.aload_n 0, 1) := by decide +kernel
theorem dc_Cn_answer_160 : decode mb_Cn_answer 160 = .ok (.aload_n 1, 1) := by decide +kernel
theorem dc_Cn_answer_161 : decode mb_Cn_answer 161 = .ok (.iconst 1, 1) := by decide +kernel
theorem dc_Cn_answer_162 : decode mb_Cn_answer 162 = .ok (.aload_n 0, 1) := by decide +kernel
theorem dc_Cn_answer_163 : decode mb_Cn_answer 163 = .ok (.getfield 14, 3) := by decide +kernel
theorem dc_Cn_answer_166 : decode mb_Cn_answer 166 = .ok (.iconst 5, 1) := by decide +kernel
theorem dc_Cn_answer_167 : decode mb_Cn_answer 167 = .ok (.invokevirtual 126, 3) := by decide +kernel
theorem dc_Cn_answer_170 : decode mb_Cn_answer 170 = .ok (.aload_n 0, 1) := by decide +kernel
theorem dc_Cn_answer_171 : decode mb_Cn_answer 171 = .ok (.getfield 14, 3) := by decide +kernel
theorem dc_Cn_answer_174 : decode mb_Cn_answer 174 = .ok (.bipush 9, 2) := by decide +kernel
theorem dc_Cn_answer_176 : decode mb_Cn_answer 176 = .ok (.invokevirtual 126, 3) := by decide +kernel
theorem dc_Cn_answer_179 : decode mb_Cn_answer 179 = .ok (.invokevirtual 122, 3) := by decide +kernel
theorem dc_Cn_answer_182 : decode mb_Cn_answer 182 = .ok (.goto 147, 3) := by decide +kernel
theorem dc_Cn_answer_185 : decode mb_Cn_answer 185 = .ok (.aload_n 0, 1) := by decide +kernel
theorem dc_Cn_answer_186 : decode mb_Cn_answer 186 = .ok (.sipush 192, 3) := by decide +kernel
theorem dc_Cn_answer_189 : decode mb_Cn_answer 189 = .ok (.iconst 3, 1) := by decide +kernel
theorem dc_Cn_answer_190 : decode mb_Cn_answer 190 = .ok (.invokevirtual 105, 3) := by decide +kernel
theorem dc_Cn_answer_193 : decode mb_Cn_answer 193 = .ok (.ifCond .eq 24, 3) := by decide +kernel
theorem dc_Cn_answer_196 : decode mb_Cn_answer 196 = .ok (.aload_n 0, 1) := by decide +kernel
theorem dc_Cn_answer_197 : decode mb_Cn_answer 197 = .ok (.getfield 14, 3) := by decide +kernel
theorem dc_Cn_answer_200 : decode mb_Cn_answer 200 = .ok (.iconst 1, 1) := by decide +kernel
theorem dc_Cn_answer_201 : decode mb_Cn_answer 201 = .ok (.invokevirtual 55, 3) := by decide +kernel
theorem dc_Cn_answer_204 : decode mb_Cn_answer 204 = .ok (.iconst 2, 1) := by decide +kernel
theorem dc_Cn_answer_205 : decode mb_Cn_answer 205 = .ok (.if_icmp .ne 12, 3) := by decide +kernel
theorem dc_Cn_answer_208 : decode mb_Cn_answer 208 = .ok (.aload_n 0, 1) := by decide +kernel
theorem dc_Cn_answer_209 : decode mb_Cn_answer 209 = .ok (.aload_n 1, 1) := by decide +kernel
theorem dc_Cn_answer_210 : decode mb_Cn_answer 210 = .ok (.iload_n 2, 1) := by decide +kernel
theorem dc_Cn_answer_211 : decode mb_Cn_answer 211 = .ok (.invokevirtual 129, 3) := by decide +kernel
theorem dc_Cn_answer_214 : decode mb_Cn_answer 214 = .ok (.goto 115, 3) := by decide +kernel
theorem dc_Cn_answer_217 : decode mb_Cn_answer 217 = .ok (.aload_n 0, 1) := by decide +kernel
theorem dc_Cn_answer_218 : decode mb_Cn_answer 218 = .ok (.getfield 14, 3) := by decide +kernel
theorem dc_Cn_answer_221 : decode mb_Cn_answer 221 = .ok (.iconst 0, 1) := by decide +kernel
theorem dc_Cn_answer_222 : decode mb_Cn_answer 222 = .ok (.invokevirtual 55, 3) := by decide +kernel
theorem dc_Cn_answer_225 : decode mb_Cn_answer 225 = .ok (.sipush 193, 3) := by decide +kernel
theorem dc_Cn_answer_228 : decode mb_Cn_answer 228 = .ok (.if_icmp .ne 48, 3) := by decide +kernel
theorem dc_Cn_answer_231 : decode mb_Cn_answer 231 = .ok (.aload_n 0, 1) := by decide +kernel
theorem dc_Cn_answer_232 : decode mb_Cn_answer 232 = .ok (.getfield 14, 3) := by decide +kernel
theorem dc_Cn_answer_235 : decode mb_Cn_answer 235 = .ok (.getfield 59, 3) := by decide +kernel
theorem dc_Cn_answer_238 : decode mb_Cn_answer 238 = .ok (.iconst 3, 1) := by decide +kernel
theorem dc_Cn_answer_239 : decode mb_Cn_answer 239 = .ok (.if_icmp .lt 37, 3) := by decide +kernel
theorem dc_Cn_answer_242 : decode mb_Cn_answer 242 = .ok (.aload_n 1, 1) := by decide +kernel
theorem dc_Cn_answer_243 : decode mb_Cn_answer 243 = .ok (.sipush 197, 3) := by decide +kernel
theorem dc_Cn_answer_246 : decode mb_Cn_answer 246 = .ok (.aload_n 0, 1) := by decide +kernel
theorem dc_Cn_answer_247 : decode mb_Cn_answer 247 = .ok (.getfield 51, 3) := by decide +kernel
theorem dc_Cn_answer_250 : decode mb_Cn_answer 250 = .ok (.aload_n 0, 1) := by decide +kernel
theorem dc_Cn_answer_251 : decode mb_Cn_answer 251 = .ok (.getfield 14, 3) := by decide +kernel
theorem dc_Cn_answer_254 : decode mb_Cn_answer 254 = .ok (.aload_n 0, 1) := by decide +kernel
theorem dc_Cn_answer_255 : decode mb_Cn_answer 255 = .ok (.getfield 39, 3) := by decide +kernel
theorem dc_Cn_answer_258 : decode mb_Cn_answer 258 = .ok (.iconst 2, 1) := by decide +kernel
theorem dc_Cn_answer_259 : decode mb_Cn_answer 259 = .ok (.if_icmp .ne 7, 3) := by decide +kernel
theorem dc_Cn_answer_262 : decode mb_Cn_answer 262 = .ok (.iconst 1, 1) := by decide +kernel
theorem dc_Cn_answer_263 : decode mb_Cn_answer 263 = .ok (.goto 4, 3) := by decide +kernel
theorem dc_Cn_answer_266 : decode mb_Cn_answer 266 = .ok (.iconst 0, 1) := by decide +kernel
theorem dc_Cn_answer_267 : decode mb_Cn_answer 267 = .ok (.invokevirtual 132, 3) := by decide +kernel
theorem dc_Cn_answer_270 : decode mb_Cn_answer 270 = .ok (.invokestatic 119, 3) := by decide +kernel
theorem dc_Cn_answer_273 : decode mb_Cn_answer 273 = .ok (.goto 56, 3) := by decide +kernel
theorem dc_Cn_answer_276 : decode mb_Cn_answer 276 = .ok (.aload_n 0, 1) := by decide +kernel
theorem dc_Cn_answer_277 : decode mb_Cn_answer 277 = .ok (.sipush 195, 3) := by decide +kernel
theorem dc_Cn_answer_280 : decode mb_Cn_answer 280 = .ok (.iconst 4, 1) := by decide +kernel
theorem dc_Cn_answer_281 : decode mb_Cn_answer 281 = .ok (.invokevirtual 105, 3) := by decide +kernel
theorem dc_Cn_answer_284 : decode mb_Cn_answer 284 = .ok (.ifCond .eq 37, 3) := by decide +kernel
theorem dc_Cn_answer_287 : decode mb_Cn_answer 287 = .ok (.aload_n 1, 1) := by decide +kernel
theorem dc_Cn_answer_288 : decode mb_Cn_answer 288 = .ok (.sipush 199, 3) := by decide +kernel
theorem dc_Cn_answer_291 : decode mb_Cn_answer 291 = .ok (.aload_n 0, 1) := by decide +kernel
theorem dc_Cn_answer_292 : decode mb_Cn_answer 292 = .ok (.getfield 51, 3) := by decide +kernel
theorem dc_Cn_answer_295 : decode mb_Cn_answer 295 = .ok (.aload_n 0, 1) := by decide +kernel
theorem dc_Cn_answer_296 : decode mb_Cn_answer 296 = .ok (.getfield 14, 3) := by decide +kernel
theorem dc_Cn_answer_299 : decode mb_Cn_answer 299 = .ok (.aload_n 0, 1) := by decide +kernel
theorem dc_Cn_answer_300 : decode mb_Cn_answer 300 = .ok (.getfield 39, 3) := by decide +kernel
theorem dc_Cn_answer_303 : decode mb_Cn_answer 303 = .ok (.iconst 2, 1) := by decide +kernel
theorem dc_Cn_answer_304 : decode mb_Cn_answer 304 = .ok (.if_icmp .ne 7, 3) := by decide +kernel
theorem dc_Cn_answer_307 : decode mb_Cn_answer 307 = .ok (.iconst 1, 1) := by decide +kernel
theorem dc_Cn_answer_308 : decode mb_Cn_answer 308 = .ok (.goto 4, 3) := by decide +kernel
theorem dc_Cn_answer_311 : decode mb_Cn_answer 311 = .ok (.iconst 0, 1) := by decide +kernel
theorem dc_Cn_answer_312 : decode mb_Cn_answer 312 = .ok (.invokevirtual 136, 3) := by decide +kernel
theorem dc_Cn_answer_315 : decode mb_Cn_answer 315 = .ok (.invokestatic 119, 3) := by decide +kernel
theorem dc_Cn_answer_318 : decode mb_Cn_answer 318 = .ok (.goto 11, 3) := by decide +kernel
theorem dc_Cn_answer_321 : decode mb_Cn_answer 321 = .ok (.aload_n 1, 1) := by decide +kernel
theorem dc_Cn_answer_322 : decode mb_Cn_answer 322 = .ok (.sipush 216, 3) := by decide +kernel
theorem dc_Cn_answer_325 : decode mb_Cn_answer 325 = .ok (.iconst 2, 1) := by decide +kernel
theorem dc_Cn_answer_326 : decode mb_Cn_answer 326 = .ok (.invokestatic 119, 3) := by decide +kernel
theorem dc_Cn_answer_329 : decode mb_Cn_answer 329 = .ok (.return_, 1) := by decide +kernel
theorem dc_Cn_begins_0 : decode mb_Cn_begins 0 = .ok (.aload_n 0, 1) := by decide +kernel
theorem dc_Cn_begins_1 : decode mb_Cn_begins 1 = .ok (.getfield 14, 3) := by decide +kernel
theorem dc_Cn_begins_4 : decode mb_Cn_begins 4 = .ok (.iconst 0, 1) := by decide +kernel
theorem dc_Cn_begins_5 : decode mb_Cn_begins 5 = .ok (.invokevirtual 55, 3) := by decide +kernel
theorem dc_Cn_begins_8 : decode mb_Cn_begins 8 = .ok (.iload_n 1, 1) := by decide +kernel
theorem dc_Cn_begins_9 : decode mb_Cn_begins 9 = .ok (.if_icmp .ne 18, 3) := by decide +kernel
theorem dc_Cn_begins_12 : decode mb_Cn_begins 12 = .ok (.aload_n 0, 1) := by decide +kernel
theorem dc_Cn_begins_13 : decode mb_Cn_begins 13 = .ok (.getfield 14, 3) := by decide +kernel
theorem dc_Cn_begins_16 : decode mb_Cn_begins 16 = .ok (.getfield 59, 3) := by decide +kernel
theorem dc_Cn_begins_19 : decode mb_Cn_begins 19 = .ok (.iload_n 2, 1) := by decide +kernel
theorem dc_Cn_begins_20 : decode mb_Cn_begins 20 = .ok (.if_icmp .ne 7, 3) := by decide +kernel
theorem dc_Cn_begins_23 : decode mb_Cn_begins 23 = .ok (.iconst 1, 1) := by decide +kernel
theorem dc_Cn_begins_24 : decode mb_Cn_begins 24 = .ok (.goto 4, 3) := by decide +kernel
theorem dc_Cn_begins_27 : decode mb_Cn_begins 27 = .ok (.iconst 0, 1) := by decide +kernel
theorem dc_Cn_begins_28 : decode mb_Cn_begins 28 = .ok (.ireturn, 1) := by decide +kernel
theorem dc_Cn_needsAssociation_0 : decode mb_Cn_needsAssociation 0 = .ok (.aload_n 0, 1) := by decide +kernel
theorem dc_Cn_needsAssociation_1 : decode mb_Cn_needsAssociation 1 = .ok (.getfield 14, 3) := by decide +kernel
theorem dc_Cn_needsAssociation_4 : decode mb_Cn_needsAssociation 4 = .ok (.iconst 0, 1) := by decide +kernel
theorem dc_Cn_needsAssociation_5 : decode mb_Cn_needsAssociation 5 = .ok (.invokevirtual 55, 3) := by decide +kernel
theorem dc_Cn_needsAssociation_8 : decode mb_Cn_needsAssociation 8 = .ok (.istore_n 1, 1) := by decide +kernel
theorem dc_Cn_needsAssociation_9 : decode mb_Cn_needsAssociation 9 = .ok (.iload_n 1, 1) := by decide +kernel
theorem dc_Cn_needsAssociation_10 : decode mb_Cn_needsAssociation 10 = .ok (.sipush 192, 3) := by decide +kernel
theorem dc_Cn_needsAssociation_13 : decode mb_Cn_needsAssociation 13 = .ok (.if_icmp .eq 17, 3) := by decide +kernel
theorem dc_Cn_needsAssociation_16 : decode mb_Cn_needsAssociation 16 = .ok (.iload_n 1, 1) := by decide +kernel
theorem dc_Cn_needsAssociation_17 : decode mb_Cn_needsAssociation 17 = .ok (.sipush 193, 3) := by decide +kernel
theorem dc_Cn_needsAssociation_20 : decode mb_Cn_needsAssociation 20 = .ok (.if_icmp .eq 10, 3) := by decide +kernel
theorem dc_Cn_needsAssociation_23 : decode mb_Cn_needsAssociation 23 = .ok (.iload_n 1, 1) := by decide +kernel
theorem dc_Cn_needsAssociation_24 : decode mb_Cn_needsAssociation 24 = .ok (.sipush 195, 3) := by decide +kernel
theorem dc_Cn_needsAssociation_27 : decode mb_Cn_needsAssociation 27 = .ok (.if_icmp .ne 7, 3) := by decide +kernel
theorem dc_Cn_needsAssociation_30 : decode mb_Cn_needsAssociation 30 = .ok (.iconst 1, 1) := by decide +kernel
theorem dc_Cn_needsAssociation_31 : decode mb_Cn_needsAssociation 31 = .ok (.goto 4, 3) := by decide +kernel
theorem dc_Cn_needsAssociation_34 : decode mb_Cn_needsAssociation 34 = .ok (.iconst 0, 1) := by decide +kernel
theorem dc_Cn_needsAssociation_35 : decode mb_Cn_needsAssociation 35 = .ok (.ireturn, 1) := by decide +kernel
theorem dc_Cn_associate_0 : decode mb_Cn_associate 0 = .ok (.aload_n 0, 1) := by decide +kernel
theorem dc_Cn_associate_1 : decode mb_Cn_associate 1 = .ok (.getfield 14, 3) := by decide +kernel
theorem dc_Cn_associate_4 : decode mb_Cn_associate 4 = .ok (.iconst 1, 1) := by decide +kernel
theorem dc_Cn_associate_5 : decode mb_Cn_associate 5 = .ok (.invokevirtual 55, 3) := by decide +kernel
theorem dc_Cn_associate_8 : decode mb_Cn_associate 8 = .ok (.istore_n 2, 1) := by decide +kernel
theorem dc_Cn_associate_9 : decode mb_Cn_associate 9 = .ok (.iload_n 2, 1) := by decide +kernel
theorem dc_Cn_associate_10 : decode mb_Cn_associate 10 = .ok (.iconst 1, 1) := by decide +kernel
theorem dc_Cn_associate_11 : decode mb_Cn_associate 11 = .ok (.if_icmp .eq 23, 3) := by decide +kernel
theorem dc_Cn_associate_14 : decode mb_Cn_associate 14 = .ok (.iload_n 2, 1) := by decide +kernel
theorem dc_Cn_associate_15 : decode mb_Cn_associate 15 = .ok (.iconst 2, 1) := by decide +kernel
theorem dc_Cn_associate_16 : decode mb_Cn_associate 16 = .ok (.if_icmp .ne 22, 3) := by decide +kernel
theorem dc_Cn_associate_19 : decode mb_Cn_associate 19 = .ok (.aload_n 0, 1) := by decide +kernel
theorem dc_Cn_associate_20 : decode mb_Cn_associate 20 = .ok (.getfield 14, 3) := by decide +kernel
theorem dc_Cn_associate_23 : decode mb_Cn_associate 23 = .ok (.iconst 2, 1) := by decide +kernel
theorem dc_Cn_associate_24 : decode mb_Cn_associate 24 = .ok (.invokevirtual 126, 3) := by decide +kernel
theorem dc_Cn_associate_27 : decode mb_Cn_associate 27 = .ok (.aload_n 0, 1) := by decide +kernel
theorem dc_Cn_associate_28 : decode mb_Cn_associate 28 = .ok (.getfield 45, 3) := by decide +kernel
theorem dc_Cn_associate_31 : decode mb_Cn_associate 31 = .ok (.if_icmp .ne 7, 3) := by decide +kernel
theorem dc_Cn_associate_34 : decode mb_Cn_associate 34 = .ok (.iconst 1, 1) := by decide +kernel
theorem dc_Cn_associate_35 : decode mb_Cn_associate 35 = .ok (.goto 4, 3) := by decide +kernel
theorem dc_Cn_associate_38 : decode mb_Cn_associate 38 = .ok (.iconst 0, 1) := by decide +kernel
theorem dc_Cn_associate_39 : decode mb_Cn_associate 39 = .ok (.istore_n 3, 1) := by decide +kernel
theorem dc_Cn_associate_40 : decode mb_Cn_associate 40 = .ok (.aload_n 0, 1) := by decide +kernel
theorem dc_Cn_associate_41 : decode mb_Cn_associate 41 = .ok (.iload_n 3, 1) := by decide +kernel
theorem dc_Cn_associate_42 : decode mb_Cn_associate 42 = .ok (.ifCond .eq 7, 3) := by decide +kernel
theorem dc_Cn_associate_45 : decode mb_Cn_associate 45 = .ok (.iload_n 2, 1) := by decide +kernel
theorem dc_Cn_associate_46 : decode mb_Cn_associate 46 = .ok (.goto 4, 3) := by decide +kernel
theorem dc_Cn_associate_49 : decode mb_Cn_associate 49 = .ok (.iconst 0, 1) := by decide +kernel
theorem dc_Cn_associate_50 : decode mb_Cn_associate 50 = .ok (.putfield 39, 3) := by decide +kernel
theorem dc_Cn_associate_53 : decode mb_Cn_associate 53 = .ok (.aload_n 1, 1) := by decide +kernel
theorem dc_Cn_associate_54 : decode mb_Cn_associate 54 = .ok (.bipush 97, 2) := by decide +kernel
theorem dc_Cn_associate_56 : decode mb_Cn_associate 56 = .ok (.iload_n 3, 1) := by decide +kernel
theorem dc_Cn_associate_57 : decode mb_Cn_associate 57 = .ok (.ifCond .eq 7, 3) := by decide +kernel
theorem dc_Cn_associate_60 : decode mb_Cn_associate 60 = .ok (.iconst 0, 1) := by decide +kernel
theorem dc_Cn_associate_61 : decode mb_Cn_associate 61 = .ok (.goto 4, 3) := by decide +kernel
theorem dc_Cn_associate_64 : decode mb_Cn_associate 64 = .ok (.iconst 1, 1) := by decide +kernel
theorem dc_Cn_associate_65 : decode mb_Cn_associate 65 = .ok (.invokestatic 119, 3) := by decide +kernel
theorem dc_Cn_associate_68 : decode mb_Cn_associate 68 = .ok (.return_, 1) := by decide +kernel
theorem dc_Cn_answerGet_0 : decode mb_Cn_answerGet 0 = .ok (.aload_n 0, 1) := by decide +kernel
theorem dc_Cn_answerGet_1 : decode mb_Cn_answerGet 1 = .ok (.getfield 14, 3) := by decide +kernel
theorem dc_Cn_answerGet_4 : decode mb_Cn_answerGet 4 = .ok (.iconst 2, 1) := by decide +kernel
theorem dc_Cn_answerGet_5 : decode mb_Cn_answerGet 5 = .ok (.invokevirtual 55, 3) := by decide +kernel
theorem dc_Cn_answerGet_8 : decode mb_Cn_answerGet 8 = .ok (.istore 5, 2) := by decide +kernel
theorem dc_Cn_answerGet_10 : decode mb_Cn_answerGet 10 = .ok (.aload_n 0, 1) := by decide +kernel
theorem dc_Cn_answerGet_11 : decode mb_Cn_answerGet 11 = .ok (.getfield 14, 3) := by decide +kernel
theorem dc_Cn_answerGet_14 : decode mb_Cn_answerGet 14 = .ok (.iconst 3, 1) := by decide +kernel
theorem dc_Cn_answerGet_15 : decode mb_Cn_answerGet 15 = .ok (.invokevirtual 55, 3) := by decide +kernel
theorem dc_Cn_answerGet_18 : decode mb_Cn_answerGet 18 = .ok (.istore 6, 2) := by decide +kernel
theorem dc_Cn_answerGet_20 : decode mb_Cn_answerGet 20 = .ok (.iload 5, 2) := by decide +kernel
theorem dc_Cn_answerGet_22 : decode mb_Cn_answerGet 22 = .ok (.iload 6, 2) := by decide +kernel
theorem dc_Cn_answerGet_24 : decode mb_Cn_answerGet 24 = .ok (.iload_n 2, 1) := by decide +kernel
theorem dc_Cn_answerGet_25 : decode mb_Cn_answerGet 25 = .ok (.invokestatic 139, 3) := by decide +kernel
theorem dc_Cn_answerGet_28 : decode mb_Cn_answerGet 28 = .ok (.istore 7, 2) := by decide +kernel
theorem dc_Cn_answerGet_30 : decode mb_Cn_answerGet 30 = .ok (.iload 7, 2) := by decide +kernel
theorem dc_Cn_answerGet_32 : decode mb_Cn_answerGet 32 = .ok (.ifCond .eq 10, 3) := by decide +kernel
theorem dc_Cn_answerGet_35 : decode mb_Cn_answerGet 35 = .ok (.aload_n 1, 1) := by decide +kernel
theorem dc_Cn_answerGet_36 : decode mb_Cn_answerGet 36 = .ok (.iload 7, 2) := by decide +kernel
theorem dc_Cn_answerGet_38 : decode mb_Cn_answerGet 38 = .ok (.invokestatic 143, 3) := by decide +kernel
theorem dc_Cn_answerGet_41 : decode mb_Cn_answerGet 41 = .ok (.return_, 1) := by decide +kernel
theorem dc_Cn_answerGet_42 : decode mb_Cn_answerGet 42 = .ok (.aload_n 0, 1) := by decide +kernel
theorem dc_Cn_answerGet_43 : decode mb_Cn_answerGet 43 = .ok (.getfield 25, 3) := by decide +kernel
theorem dc_Cn_answerGet_46 : decode mb_Cn_answerGet 46 = .ok (.invokevirtual 78, 3) := by decide +kernel
theorem dc_Cn_answerGet_49 : decode mb_Cn_answerGet 49 = .ok (.aload_n 0, 1) := by decide +kernel
theorem dc_Cn_answerGet_50 : decode mb_Cn_answerGet 50 = .ok (.getfield 51, 3) := by decide +kernel
theorem dc_Cn_answerGet_53 : decode mb_Cn_answerGet 53 = .ok (.aload_n 0, 1) := by decide +kernel
theorem dc_Cn_answerGet_54 : decode mb_Cn_answerGet 54 = .ok (.getfield 25, 3) := by decide +kernel
theorem dc_Cn_answerGet_57 : decode mb_Cn_answerGet 57 = .ok (.iload 5, 2) := by decide +kernel
theorem dc_Cn_answerGet_59 : decode mb_Cn_answerGet 59 = .ok (.iload 6, 2) := by decide +kernel
theorem dc_Cn_answerGet_61 : decode mb_Cn_answerGet 61 = .ok (.iload_n 3, 1) := by decide +kernel
theorem dc_Cn_answerGet_62 : decode mb_Cn_answerGet 62 = .ok (.iload 4, 2) := by decide +kernel
theorem dc_Cn_answerGet_64 : decode mb_Cn_answerGet 64 = .ok (.invokevirtual 146, 3) := by decide +kernel
theorem dc_Cn_answerGet_67 : decode mb_Cn_answerGet 67 = .ok (.aload_n 0, 1) := by decide +kernel
theorem dc_Cn_answerGet_68 : decode mb_Cn_answerGet 68 = .ok (.getfield 25, 3) := by decide +kernel
theorem dc_Cn_answerGet_71 : decode mb_Cn_answerGet 71 = .ok (.getfield 59, 3) := by decide +kernel
theorem dc_Cn_answerGet_74 : decode mb_Cn_answerGet 74 = .ok (.bipush 40, 2) := by decide +kernel
theorem dc_Cn_answerGet_76 : decode mb_Cn_answerGet 76 = .ok (.if_icmp .le 12, 3) := by decide +kernel
theorem dc_Cn_answerGet_79 : decode mb_Cn_answerGet 79 = .ok (.aload_n 0, 1) := by decide +kernel
theorem dc_Cn_answerGet_80 : decode mb_Cn_answerGet 80 = .ok (.aload_n 1, 1) := by decide +kernel
theorem dc_Cn_answerGet_81 : decode mb_Cn_answerGet 81 = .ok (.iconst 1, 1) := by decide +kernel
theorem dc_Cn_answerGet_82 : decode mb_Cn_answerGet 82 = .ok (.invokevirtual 150, 3) := by decide +kernel
theorem dc_Cn_answerGet_85 : decode mb_Cn_answerGet 85 = .ok (.goto 32, 3) := by decide +kernel
theorem dc_Cn_answerGet_88 : decode mb_Cn_answerGet 88 = .ok (.aload_n 1, 1) := by decide +kernel
theorem dc_Cn_answerGet_89 : decode mb_Cn_answerGet 89 = .ok (.sipush 196, 3) := by decide +kernel
theorem dc_Cn_answerGet_92 : decode mb_Cn_answerGet 92 = .ok (.iconst 1, 1) := by decide +kernel
theorem dc_Cn_answerGet_93 : decode mb_Cn_answerGet 93 = .ok (.invokestatic 119, 3) := by decide +kernel
theorem dc_Cn_answerGet_96 : decode mb_Cn_answerGet 96 = .ok (.aload_n 1, 1) := by decide +kernel
theorem dc_Cn_answerGet_97 : decode mb_Cn_answerGet 97 = .ok (.iconst 0, 1) := by decide +kernel
theorem dc_Cn_answerGet_98 : decode mb_Cn_answerGet 98 = .ok (.invokevirtual 112, 3) := by decide +kernel
theorem dc_Cn_answerGet_101 : decode mb_Cn_answerGet 101 = .ok (.aload_n 1, 1) := by decide +kernel
theorem dc_Cn_answerGet_102 : decode mb_Cn_answerGet 102 = .ok (.aload_n 0, 1) := by decide +kernel
theorem dc_Cn_answerGet_103 : decode mb_Cn_answerGet 103 = .ok (.getfield 25, 3) := by decide +kernel
theorem dc_Cn_answerGet_106 : decode mb_Cn_answerGet 106 = .ok (.iconst 0, 1) := by decide +kernel
theorem dc_Cn_answerGet_107 : decode mb_Cn_answerGet 107 = .ok (.aload_n 0, 1) := by decide +kernel
theorem dc_Cn_answerGet_108 : decode mb_Cn_answerGet 108 = .ok (.getfield 25, 3) := by decide +kernel
theorem dc_Cn_answerGet_111 : decode mb_Cn_answerGet 111 = .ok (.getfield 59, 3) := by decide +kernel
theorem dc_Cn_answerGet_114 : decode mb_Cn_answerGet 114 = .ok (.invokevirtual 85, 3) := by decide +kernel
theorem dc_Cn_answerGet_117 : decode mb_Cn_answerGet 117 = .ok (.return_, 1) := by decide +kernel
theorem dc_Cn_answerNextBlock_0 : decode mb_Cn_answerNextBlock 0 = .ok (.iload_n 2, 1) := by decide +kernel
theorem dc_Cn_answerNextBlock_1 : decode mb_Cn_answerNextBlock 1 = .ok (.ifCond .ne 12, 3) := by decide +kernel
theorem dc_Cn_answerNextBlock_4 : decode mb_Cn_answerNextBlock 4 = .ok (.aload_n 1, 1) := by decide +kernel
theorem dc_Cn_answerNextBlock_5 : decode mb_Cn_answerNextBlock 5 = .ok (.bipush 16, 2) := by decide +kernel
theorem dc_Cn_answerNextBlock_7 : decode mb_Cn_answerNextBlock 7 = .ok (.invokestatic 143, 3) := by decide +kernel
theorem dc_Cn_answerNextBlock_10 : decode mb_Cn_answerNextBlock 10 = .ok (.goto 32, 3) := by decide +kernel
theorem dc_Cn_answerNextBlock_13 : decode mb_Cn_answerNextBlock 13 = .ok (.aload_n 0, 1) := by decide +kernel
theorem dc_Cn_answerNextBlock_14 : decode mb_Cn_answerNextBlock 14 = .ok (.getfield 14, 3) := by decide +kernel
theorem dc_Cn_answerNextBlock_17 : decode mb_Cn_answerNextBlock 17 = .ok (.iconst 2, 1) := by decide +kernel
theorem dc_Cn_answerNextBlock_18 : decode mb_Cn_answerNextBlock 18 = .ok (.invokevirtual 55, 3) := by decide +kernel
theorem dc_Cn_answerNextBlock_21 : decode mb_Cn_answerNextBlock 21 = .ok (.iload_n 2, 1) := by decide +kernel
theorem dc_Cn_answerNextBlock_22 : decode mb_Cn_answerNextBlock 22 = .ok (.if_icmp .eq 12, 3) := by decide +kernel
theorem dc_Cn_answerNextBlock_25 : decode mb_Cn_answerNextBlock 25 = .ok (.aload_n 1, 1) := by decide +kernel
theorem dc_Cn_answerNextBlock_26 : decode mb_Cn_answerNextBlock 26 = .ok (.bipush 19, 2) := by decide +kernel
theorem dc_Cn_answerNextBlock_28 : decode mb_Cn_answerNextBlock 28 = .ok (.invokestatic 143, 3) := by decide +kernel
theorem dc_Cn_answerNextBlock_31 : decode mb_Cn_answerNextBlock 31 = .ok (.goto 11, 3) := by decide +kernel
theorem dc_Cn_answerNextBlock_34 : decode mb_Cn_answerNextBlock 34 = .ok (.aload_n 0, 1) := by decide +kernel
theorem dc_Cn_answerNextBlock_35 : decode mb_Cn_answerNextBlock 35 = .ok (.aload_n 1, 1) := by decide +kernel
theorem dc_Cn_answerNextBlock_36 : decode mb_Cn_answerNextBlock 36 = .ok (.iload_n 2, 1) := by decide +kernel
theorem dc_Cn_answerNextBlock_37 : decode mb_Cn_answerNextBlock 37 = .ok (.iconst 1, 1) := by decide +kernel
theorem dc_Cn_answerNextBlock_38 : decode mb_Cn_answerNextBlock 38 = .ok (.iadd, 1) := by decide +kernel
theorem dc_Cn_answerNextBlock_39 : decode mb_Cn_answerNextBlock 39 = .ok (.invokevirtual 150, 3) := by decide +kernel
theorem dc_Cn_answerNextBlock_42 : decode mb_Cn_answerNextBlock 42 = .ok (.return_, 1) := by decide +kernel
theorem dc_Cn_sendBlock_0 : decode mb_Cn_sendBlock 0 = .ok (.bipush 40, 2) := by decide +kernel
theorem dc_Cn_sendBlock_2 : decode mb_Cn_sendBlock 2 = .ok (.iload_n 2, 1) := by decide +kernel
theorem dc_Cn_sendBlock_3 : decode mb_Cn_sendBlock 3 = .ok (.iconst 1, 1) := by decide +kernel
theorem dc_Cn_sendBlock_4 : decode mb_Cn_sendBlock 4 = .ok (.isub, 1) := by decide +kernel
theorem dc_Cn_sendBlock_5 : decode mb_Cn_sendBlock 5 = .ok (.imul, 1) := by decide +kernel
theorem dc_Cn_sendBlock_6 : decode mb_Cn_sendBlock 6 = .ok (.istore_n 3, 1) := by decide +kernel
theorem dc_Cn_sendBlock_7 : decode mb_Cn_sendBlock 7 = .ok (.aload_n 0, 1) := by decide +kernel
theorem dc_Cn_sendBlock_8 : decode mb_Cn_sendBlock 8 = .ok (.getfield 25, 3) := by decide +kernel
theorem dc_Cn_sendBlock_11 : decode mb_Cn_sendBlock 11 = .ok (.getfield 59, 3) := by decide +kernel
theorem dc_Cn_sendBlock_14 : decode mb_Cn_sendBlock 14 = .ok (.iload_n 3, 1) := by decide +kernel
theorem dc_Cn_sendBlock_15 : decode mb_Cn_sendBlock 15 = .ok (.isub, 1) := by decide +kernel
theorem dc_Cn_sendBlock_16 : decode mb_Cn_sendBlock 16 = .ok (.istore 4, 2) := by decide +kernel
theorem dc_Cn_sendBlock_18 : decode mb_Cn_sendBlock 18 = .ok (.iload 4, 2) := by decide +kernel
theorem dc_Cn_sendBlock_20 : decode mb_Cn_sendBlock 20 = .ok (.bipush 40, 2) := by decide +kernel
theorem dc_Cn_sendBlock_22 : decode mb_Cn_sendBlock 22 = .ok (.if_icmp .gt 7, 3) := by decide +kernel
theorem dc_Cn_sendBlock_25 : decode mb_Cn_sendBlock 25 = .ok (.iconst 1, 1) := by decide +kernel
theorem dc_Cn_sendBlock_26 : decode mb_Cn_sendBlock 26 = .ok (.goto 4, 3) := by decide +kernel
theorem dc_Cn_sendBlock_29 : decode mb_Cn_sendBlock 29 = .ok (.iconst 0, 1) := by decide +kernel
theorem dc_Cn_sendBlock_30 : decode mb_Cn_sendBlock 30 = .ok (.istore 5, 2) := by decide +kernel
theorem dc_Cn_sendBlock_32 : decode mb_Cn_sendBlock 32 = .ok (.aload_n 1, 1) := by decide +kernel
theorem dc_Cn_sendBlock_33 : decode mb_Cn_sendBlock 33 = .ok (.sipush 196, 3) := by decide +kernel
theorem dc_Cn_sendBlock_36 : decode mb_Cn_sendBlock 36 = .ok (.iconst 2, 1) := by decide +kernel
theorem dc_Cn_sendBlock_37 : decode mb_Cn_sendBlock 37 = .ok (.invokestatic 119, 3) := by decide +kernel
theorem dc_Cn_sendBlock_40 : decode mb_Cn_sendBlock 40 = .ok (.aload_n 1, 1) := by decide +kernel
theorem dc_Cn_sendBlock_41 : decode mb_Cn_sendBlock 41 = .ok (.iload 5, 2) := by decide +kernel
theorem dc_Cn_sendBlock_43 : decode mb_Cn_sendBlock 43 = .ok (.ifCond .eq 7, 3) := by decide +kernel
theorem dc_Cn_sendBlock_46 : decode mb_Cn_sendBlock 46 = .ok (.iconst 1, 1) := by decide +kernel
theorem dc_Cn_sendBlock_47 : decode mb_Cn_sendBlock 47 = .ok (.goto 4, 3) := by decide +kernel
theorem dc_Cn_sendBlock_50 : decode mb_Cn_sendBlock 50 = .ok (.iconst 0, 1) := by decide +kernel
theorem dc_Cn_sendBlock_51 : decode mb_Cn_sendBlock 51 = .ok (.iload_n 2, 1) := by decide +kernel
theorem dc_Cn_sendBlock_52 : decode mb_Cn_sendBlock 52 = .ok (.invokestatic 119, 3) := by decide +kernel
theorem dc_Cn_sendBlock_55 : decode mb_Cn_sendBlock 55 = .ok (.aload_n 1, 1) := by decide +kernel
theorem dc_Cn_sendBlock_56 : decode mb_Cn_sendBlock 56 = .ok (.aload_n 0, 1) := by decide +kernel
theorem dc_Cn_sendBlock_57 : decode mb_Cn_sendBlock 57 = .ok (.getfield 25, 3) := by decide +kernel
theorem dc_Cn_sendBlock_60 : decode mb_Cn_sendBlock 60 = .ok (.iload_n 3, 1) := by decide +kernel
theorem dc_Cn_sendBlock_61 : decode mb_Cn_sendBlock 61 = .ok (.iload 5, 2) := by decide +kernel
theorem dc_Cn_sendBlock_63 : decode mb_Cn_sendBlock 63 = .ok (.ifCond .eq 8, 3) := by decide +kernel
theorem dc_Cn_sendBlock_66 : decode mb_Cn_sendBlock 66 = .ok (.iload 4, 2) := by decide +kernel
theorem dc_Cn_sendBlock_68 : decode mb_Cn_sendBlock 68 = .ok (.goto 5, 3) := by decide +kernel
theorem dc_Cn_sendBlock_71 : decode mb_Cn_sendBlock 71 = .ok (.bipush 40, 2) := by decide +kernel
theorem dc_Cn_sendBlock_73 : decode mb_Cn_sendBlock 73 = .ok (.invokevirtual 85, 3) := by decide +kernel
theorem dc_Cn_sendBlock_76 : decode mb_Cn_sendBlock 76 = .ok (.aload_n 0, 1) := by decide +kernel
theorem dc_Cn_sendBlock_77 : decode mb_Cn_sendBlock 77 = .ok (.iload 5, 2) := by decide +kernel
theorem dc_Cn_sendBlock_79 : decode mb_Cn_sendBlock 79 = .ok (.ifCond .eq 7, 3) := by decide +kernel
theorem dc_Cn_sendBlock_82 : decode mb_Cn_sendBlock 82 = .ok (.iconst 0, 1) := by decide +kernel
theorem dc_Cn_sendBlock_83 : decode mb_Cn_sendBlock 83 = .ok (.goto 4, 3) := by decide +kernel
theorem dc_Cn_sendBlock_86 : decode mb_Cn_sendBlock 86 = .ok (.iload_n 2, 1) := by decide +kernel
theorem dc_Cn_sendBlock_87 : decode mb_Cn_sendBlock 87 = .ok (.putfield 42, 3) := by decide +kernel
theorem dc_Cn_sendBlock_90 : decode mb_Cn_sendBlock 90 = .ok (.return_, 1) := by decide +kernel

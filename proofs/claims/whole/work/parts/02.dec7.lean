theorem dc_Mo_emitValue_0 : decode mb_Mo_emitValue 0 = .ok (.iload_n 2, 1) := by decide +kernel
theorem dc_Mo_emitValue_1 : decode mb_Mo_emitValue 1 = .ok (.iconst 1, 1) := by decide +kernel
theorem dc_Mo_emitValue_2 : decode mb_Mo_emitValue 2 = .ok (.if_icmp .ne 27, 3) := by decide +kernel
theorem dc_Mo_emitValue_5 : decode mb_Mo_emitValue 5 = .ok (.aload_n 0, 1) := by decide +kernel
theorem dc_Mo_emitValue_6 : decode mb_Mo_emitValue 6 = .ok (.bipush 9, 2) := by decide +kernel
theorem dc_Mo_emitValue_8 : decode mb_Mo_emitValue 8 = .ok (.invokevirtual 142, 3) := by decide +kernel
theorem dc_Mo_emitValue_11 : decode mb_Mo_emitValue 11 = .ok (.aload_n 0, 1) := by decide +kernel
theorem dc_Mo_emitValue_12 : decode mb_Mo_emitValue 12 = .ok (.iconst 2, 1) := by decide +kernel
theorem dc_Mo_emitValue_13 : decode mb_Mo_emitValue 13 = .ok (.invokevirtual 142, 3) := by decide +kernel
theorem dc_Mo_emitValue_16 : decode mb_Mo_emitValue 16 = .ok (.aload_n 0, 1) := by decide +kernel
theorem dc_Mo_emitValue_17 : decode mb_Mo_emitValue 17 = .ok (.iconst 1, 1) := by decide +kernel
theorem dc_Mo_emitValue_18 : decode mb_Mo_emitValue 18 = .ok (.invokevirtual 142, 3) := by decide +kernel
theorem dc_Mo_emitValue_21 : decode mb_Mo_emitValue 21 = .ok (.aload_n 0, 1) := by decide +kernel
theorem dc_Mo_emitValue_22 : decode mb_Mo_emitValue 22 = .ok (.iload_n 1, 1) := by decide +kernel
theorem dc_Mo_emitValue_23 : decode mb_Mo_emitValue 23 = .ok (.invokevirtual 142, 3) := by decide +kernel
theorem dc_Mo_emitValue_26 : decode mb_Mo_emitValue 26 = .ok (.goto 193, 3) := by decide +kernel
theorem dc_Mo_emitValue_29 : decode mb_Mo_emitValue 29 = .ok (.iload_n 1, 1) := by decide +kernel
theorem dc_Mo_emitValue_30 : decode mb_Mo_emitValue 30 = .ok (.ifCond .ne 16, 3) := by decide +kernel
theorem dc_Mo_emitValue_33 : decode mb_Mo_emitValue 33 = .ok (.aload_n 0, 1) := by decide +kernel
theorem dc_Mo_emitValue_34 : decode mb_Mo_emitValue 34 = .ok (.bipush 6, 2) := by decide +kernel
theorem dc_Mo_emitValue_36 : decode mb_Mo_emitValue 36 = .ok (.aload_n 0, 1) := by decide +kernel
theorem dc_Mo_emitValue_37 : decode mb_Mo_emitValue 37 = .ok (.getfield 53, 3) := by decide +kernel
theorem dc_Mo_emitValue_40 : decode mb_Mo_emitValue 40 = .ok (.invokevirtual 182, 3) := by decide +kernel
theorem dc_Mo_emitValue_43 : decode mb_Mo_emitValue 43 = .ok (.goto 176, 3) := by decide +kernel
theorem dc_Mo_emitValue_46 : decode mb_Mo_emitValue 46 = .ok (.iload_n 1, 1) := by decide +kernel
theorem dc_Mo_emitValue_47 : decode mb_Mo_emitValue 47 = .ok (.iconst 4, 1) := by decide +kernel
theorem dc_Mo_emitValue_48 : decode mb_Mo_emitValue 48 = .ok (.if_icmp .ge 22, 3) := by decide +kernel
theorem dc_Mo_emitValue_51 : decode mb_Mo_emitValue 51 = .ok (.iload_n 2, 1) := by decide +kernel
theorem dc_Mo_emitValue_52 : decode mb_Mo_emitValue 52 = .ok (.iconst 2, 1) := by decide +kernel
theorem dc_Mo_emitValue_53 : decode mb_Mo_emitValue 53 = .ok (.if_icmp .ne 17, 3) := by decide +kernel
theorem dc_Mo_emitValue_56 : decode mb_Mo_emitValue 56 = .ok (.aload_n 0, 1) := by decide +kernel
theorem dc_Mo_emitValue_57 : decode mb_Mo_emitValue 57 = .ok (.iconst 5, 1) := by decide +kernel
theorem dc_Mo_emitValue_58 : decode mb_Mo_emitValue 58 = .ok (.aload_n 0, 1) := by decide +kernel
theorem dc_Mo_emitValue_59 : decode mb_Mo_emitValue 59 = .ok (.getfield 7, 3) := by decide +kernel
theorem dc_Mo_emitValue_62 : decode mb_Mo_emitValue 62 = .ok (.iload_n 1, 1) := by decide +kernel
theorem dc_Mo_emitValue_63 : decode mb_Mo_emitValue 63 = .ok (.iaload, 1) := by decide +kernel
theorem dc_Mo_emitValue_64 : decode mb_Mo_emitValue 64 = .ok (.invokevirtual 182, 3) := by decide +kernel
theorem dc_Mo_emitValue_67 : decode mb_Mo_emitValue 67 = .ok (.goto 152, 3) := by decide +kernel
theorem dc_Mo_emitValue_70 : decode mb_Mo_emitValue 70 = .ok (.iload_n 1, 1) := by decide +kernel
theorem dc_Mo_emitValue_71 : decode mb_Mo_emitValue 71 = .ok (.iconst 4, 1) := by decide +kernel
theorem dc_Mo_emitValue_72 : decode mb_Mo_emitValue 72 = .ok (.if_icmp .ge 43, 3) := by decide +kernel
theorem dc_Mo_emitValue_75 : decode mb_Mo_emitValue 75 = .ok (.aload_n 0, 1) := by decide +kernel
theorem dc_Mo_emitValue_76 : decode mb_Mo_emitValue 76 = .ok (.iconst 2, 1) := by decide +kernel
theorem dc_Mo_emitValue_77 : decode mb_Mo_emitValue 77 = .ok (.invokevirtual 142, 3) := by decide +kernel
theorem dc_Mo_emitValue_80 : decode mb_Mo_emitValue 80 = .ok (.aload_n 0, 1) := by decide +kernel
theorem dc_Mo_emitValue_81 : decode mb_Mo_emitValue 81 = .ok (.iconst 2, 1) := by decide +kernel
theorem dc_Mo_emitValue_82 : decode mb_Mo_emitValue 82 = .ok (.invokevirtual 142, 3) := by decide +kernel
theorem dc_Mo_emitValue_85 : decode mb_Mo_emitValue 85 = .ok (.aload_n 0, 1) := by decide +kernel
theorem dc_Mo_emitValue_86 : decode mb_Mo_emitValue 86 = .ok (.bipush 15, 2) := by decide +kernel
theorem dc_Mo_emitValue_88 : decode mb_Mo_emitValue 88 = .ok (.invokevirtual 142, 3) := by decide +kernel
theorem dc_Mo_emitValue_91 : decode mb_Mo_emitValue 91 = .ok (.aload_n 0, 1) := by decide +kernel
theorem dc_Mo_emitValue_92 : decode mb_Mo_emitValue 92 = .ok (.iload_n 1, 1) := by decide +kernel
theorem dc_Mo_emitValue_93 : decode mb_Mo_emitValue 93 = .ok (.iconst 2, 1) := by decide +kernel
theorem dc_Mo_emitValue_94 : decode mb_Mo_emitValue 94 = .ok (.isub, 1) := by decide +kernel
theorem dc_Mo_emitValue_95 : decode mb_Mo_emitValue 95 = .ok (.invokevirtual 142, 3) := by decide +kernel
theorem dc_Mo_emitValue_98 : decode mb_Mo_emitValue 98 = .ok (.aload_n 0, 1) := by decide +kernel
theorem dc_Mo_emitValue_99 : decode mb_Mo_emitValue 99 = .ok (.bipush 22, 2) := by decide +kernel
theorem dc_Mo_emitValue_101 : decode mb_Mo_emitValue 101 = .ok (.invokevirtual 142, 3) := by decide +kernel
theorem dc_Mo_emitValue_104 : decode mb_Mo_emitValue 104 = .ok (.aload_n 0, 1) := by decide +kernel
theorem dc_Mo_emitValue_105 : decode mb_Mo_emitValue 105 = .ok (.bipush 27, 2) := by decide +kernel
theorem dc_Mo_emitValue_107 : decode mb_Mo_emitValue 107 = .ok (.iload_n 1, 1) := by decide +kernel
theorem dc_Mo_emitValue_108 : decode mb_Mo_emitValue 108 = .ok (.iadd, 1) := by decide +kernel
theorem dc_Mo_emitValue_109 : decode mb_Mo_emitValue 109 = .ok (.invokevirtual 142, 3) := by decide +kernel
theorem dc_Mo_emitValue_112 : decode mb_Mo_emitValue 112 = .ok (.goto 107, 3) := by decide +kernel
theorem dc_Mo_emitValue_115 : decode mb_Mo_emitValue 115 = .ok (.iload_n 2, 1) := by decide +kernel
theorem dc_Mo_emitValue_116 : decode mb_Mo_emitValue 116 = .ok (.iconst 2, 1) := by decide +kernel
theorem dc_Mo_emitValue_117 : decode mb_Mo_emitValue 117 = .ok (.if_icmp .ne 11, 3) := by decide +kernel
theorem dc_Mo_emitValue_120 : decode mb_Mo_emitValue 120 = .ok (.aload_n 0, 1) := by decide +kernel
theorem dc_Mo_emitValue_121 : decode mb_Mo_emitValue 121 = .ok (.iload_n 3, 1) := by decide +kernel
theorem dc_Mo_emitValue_122 : decode mb_Mo_emitValue 122 = .ok (.invokevirtual 185, 3) := by decide +kernel
theorem dc_Mo_emitValue_125 : decode mb_Mo_emitValue 125 = .ok (.goto 94, 3) := by decide +kernel
theorem dc_Mo_emitValue_128 : decode mb_Mo_emitValue 128 = .ok (.iload_n 2, 1) := by decide +kernel
theorem dc_Mo_emitValue_129 : decode mb_Mo_emitValue 129 = .ok (.iconst 3, 1) := by decide +kernel
theorem dc_Mo_emitValue_130 : decode mb_Mo_emitValue 130 = .ok (.if_icmp .ne 54, 3) := by decide +kernel
theorem dc_Mo_emitValue_133 : decode mb_Mo_emitValue 133 = .ok (.aload_n 0, 1) := by decide +kernel
theorem dc_Mo_emitValue_134 : decode mb_Mo_emitValue 134 = .ok (.iconst 1, 1) := by decide +kernel
theorem dc_Mo_emitValue_135 : decode mb_Mo_emitValue 135 = .ok (.invokevirtual 142, 3) := by decide +kernel
theorem dc_Mo_emitValue_138 : decode mb_Mo_emitValue 138 = .ok (.aload_n 0, 1) := by decide +kernel
theorem dc_Mo_emitValue_139 : decode mb_Mo_emitValue 139 = .ok (.aload_n 0, 1) := by decide +kernel
theorem dc_Mo_emitValue_140 : decode mb_Mo_emitValue 140 = .ok (.getfield 13, 3) := by decide +kernel
theorem dc_Mo_emitValue_143 : decode mb_Mo_emitValue 143 = .ok (.invokevirtual 142, 3) := by decide +kernel
theorem dc_Mo_emitValue_146 : decode mb_Mo_emitValue 146 = .ok (.iconst 0, 1) := by decide +kernel
theorem dc_Mo_emitValue_147 : decode mb_Mo_emitValue 147 = .ok (.istore 4, 2) := by decide +kernel
theorem dc_Mo_emitValue_149 : decode mb_Mo_emitValue 149 = .ok (.iload 4, 2) := by decide +kernel
theorem dc_Mo_emitValue_151 : decode mb_Mo_emitValue 151 = .ok (.aload_n 0, 1) := by decide +kernel
theorem dc_Mo_emitValue_152 : decode mb_Mo_emitValue 152 = .ok (.getfield 13, 3) := by decide +kernel
theorem dc_Mo_emitValue_155 : decode mb_Mo_emitValue 155 = .ok (.if_icmp .ge 26, 3) := by decide +kernel
theorem dc_Mo_emitValue_158 : decode mb_Mo_emitValue 158 = .ok (.aload_n 0, 1) := by decide +kernel
theorem dc_Mo_emitValue_159 : decode mb_Mo_emitValue 159 = .ok (.bipush 17, 2) := by decide +kernel
theorem dc_Mo_emitValue_161 : decode mb_Mo_emitValue 161 = .ok (.invokevirtual 142, 3) := by decide +kernel
theorem dc_Mo_emitValue_164 : decode mb_Mo_emitValue 164 = .ok (.aload_n 0, 1) := by decide +kernel
theorem dc_Mo_emitValue_165 : decode mb_Mo_emitValue 165 = .ok (.aload_n 0, 1) := by decide +kernel
theorem dc_Mo_emitValue_166 : decode mb_Mo_emitValue 166 = .ok (.getfield 17, 3) := by decide +kernel
theorem dc_Mo_emitValue_169 : decode mb_Mo_emitValue 169 = .ok (.iload 4, 2) := by decide +kernel
theorem dc_Mo_emitValue_171 : decode mb_Mo_emitValue 171 = .ok (.iaload, 1) := by decide +kernel
theorem dc_Mo_emitValue_172 : decode mb_Mo_emitValue 172 = .ok (.invokevirtual 142, 3) := by decide +kernel
theorem dc_Mo_emitValue_175 : decode mb_Mo_emitValue 175 = .ok (.iinc 4 1, 3) := by decide +kernel
theorem dc_Mo_emitValue_178 : decode mb_Mo_emitValue 178 = .ok (.goto (-29), 3) := by decide +kernel
theorem dc_Mo_emitValue_181 : decode mb_Mo_emitValue 181 = .ok (.goto 38, 3) := by decide +kernel
theorem dc_Mo_emitValue_184 : decode mb_Mo_emitValue 184 = .ok (.aload_n 0, 1) := by decide +kernel
theorem dc_Mo_emitValue_185 : decode mb_Mo_emitValue 185 = .ok (.bipush 6, 2) := by decide +kernel
theorem dc_Mo_emitValue_187 : decode mb_Mo_emitValue 187 = .ok (.iload_n 2, 1) := by decide +kernel
theorem dc_Mo_emitValue_188 : decode mb_Mo_emitValue 188 = .ok (.iconst 4, 1) := by decide +kernel
theorem dc_Mo_emitValue_189 : decode mb_Mo_emitValue 189 = .ok (.if_icmp .ne 10, 3) := by decide +kernel
theorem dc_Mo_emitValue_192 : decode mb_Mo_emitValue 192 = .ok (.aload_n 0, 1) := by decide +kernel
theorem dc_Mo_emitValue_193 : decode mb_Mo_emitValue 193 = .ok (.getfield 57, 3) := by decide +kernel
theorem dc_Mo_emitValue_196 : decode mb_Mo_emitValue 196 = .ok (.goto 20, 3) := by decide +kernel
theorem dc_Mo_emitValue_199 : decode mb_Mo_emitValue 199 = .ok (.iload_n 2, 1) := by decide +kernel
theorem dc_Mo_emitValue_200 : decode mb_Mo_emitValue 200 = .ok (.bipush 7, 2) := by decide +kernel
theorem dc_Mo_emitValue_202 : decode mb_Mo_emitValue 202 = .ok (.if_icmp .ne 10, 3) := by decide +kernel
theorem dc_Mo_emitValue_205 : decode mb_Mo_emitValue 205 = .ok (.aload_n 0, 1) := by decide +kernel
theorem dc_Mo_emitValue_206 : decode mb_Mo_emitValue 206 = .ok (.getfield 50, 3) := by decide +kernel
theorem dc_Mo_emitValue_209 : decode mb_Mo_emitValue 209 = .ok (.goto 7, 3) := by decide +kernel
theorem dc_Mo_emitValue_212 : decode mb_Mo_emitValue 212 = .ok (.aload_n 0, 1) := by decide +kernel
theorem dc_Mo_emitValue_213 : decode mb_Mo_emitValue 213 = .ok (.getfield 44, 3) := by decide +kernel
theorem dc_Mo_emitValue_216 : decode mb_Mo_emitValue 216 = .ok (.invokevirtual 182, 3) := by decide +kernel
theorem dc_Mo_emitValue_219 : decode mb_Mo_emitValue 219 = .ok (.return_, 1) := by decide +kernel
theorem dc_Mo_isIn_0 : decode mb_Mo_isIn 0 = .ok (.iload_n 2, 1) := by decide +kernel
theorem dc_Mo_isIn_1 : decode mb_Mo_isIn 1 = .ok (.ifCond .ne 5, 3) := by decide +kernel
theorem dc_Mo_isIn_4 : decode mb_Mo_isIn 4 = .ok (.iconst 1, 1) := by decide +kernel
theorem dc_Mo_isIn_5 : decode mb_Mo_isIn 5 = .ok (.ireturn, 1) := by decide +kernel
theorem dc_Mo_isIn_6 : decode mb_Mo_isIn 6 = .ok (.aload_n 0, 1) := by decide +kernel
theorem dc_Mo_isIn_7 : decode mb_Mo_isIn 7 = .ok (.getfield 20, 3) := by decide +kernel
theorem dc_Mo_isIn_10 : decode mb_Mo_isIn 10 = .ok (.iload_n 1, 1) := by decide +kernel
theorem dc_Mo_isIn_11 : decode mb_Mo_isIn 11 = .ok (.iaload, 1) := by decide +kernel
theorem dc_Mo_isIn_12 : decode mb_Mo_isIn 12 = .ok (.i2l, 1) := by decide +kernel
theorem dc_Mo_isIn_13 : decode mb_Mo_isIn 13 = .ok (.lstore_n 3, 1) := by decide +kernel
theorem dc_Mo_isIn_14 : decode mb_Mo_isIn 14 = .ok (.lload_n 3, 1) := by decide +kernel
theorem dc_Mo_isIn_15 : decode mb_Mo_isIn 15 = .ok (.aload_n 0, 1) := by decide +kernel
theorem dc_Mo_isIn_16 : decode mb_Mo_isIn 16 = .ok (.iconst 5, 1) := by decide +kernel
theorem dc_Mo_isIn_17 : decode mb_Mo_isIn 17 = .ok (.invokevirtual 145, 3) := by decide +kernel
theorem dc_Mo_isIn_20 : decode mb_Mo_isIn 20 = .ok (.i2l, 1) := by decide +kernel
theorem dc_Mo_isIn_21 : decode mb_Mo_isIn 21 = .ok (.ldc2_w 189, 3) := by decide +kernel
theorem dc_Mo_isIn_24 : decode mb_Mo_isIn 24 = .ok (.land, 1) := by decide +kernel
theorem dc_Mo_isIn_25 : decode mb_Mo_isIn 25 = .ok (.lcmp, 1) := by decide +kernel
theorem dc_Mo_isIn_26 : decode mb_Mo_isIn 26 = .ok (.ifCond .lt 23, 3) := by decide +kernel
theorem dc_Mo_isIn_29 : decode mb_Mo_isIn 29 = .ok (.lload_n 3, 1) := by decide +kernel
theorem dc_Mo_isIn_30 : decode mb_Mo_isIn 30 = .ok (.aload_n 0, 1) := by decide +kernel
theorem dc_Mo_isIn_31 : decode mb_Mo_isIn 31 = .ok (.bipush 9, 2) := by decide +kernel
theorem dc_Mo_isIn_33 : decode mb_Mo_isIn 33 = .ok (.invokevirtual 145, 3) := by decide +kernel
theorem dc_Mo_isIn_36 : decode mb_Mo_isIn 36 = .ok (.i2l, 1) := by decide +kernel
theorem dc_Mo_isIn_37 : decode mb_Mo_isIn 37 = .ok (.ldc2_w 189, 3) := by decide +kernel
theorem dc_Mo_isIn_40 : decode mb_Mo_isIn 40 = .ok (.land, 1) := by decide +kernel
theorem dc_Mo_isIn_41 : decode mb_Mo_isIn 41 = .ok (.lcmp, 1) := by decide +kernel
theorem dc_Mo_isIn_42 : decode mb_Mo_isIn 42 = .ok (.ifCond .gt 7, 3) := by decide +kernel
theorem dc_Mo_isIn_45 : decode mb_Mo_isIn 45 = .ok (.iconst 1, 1) := by decide +kernel
theorem dc_Mo_isIn_46 : decode mb_Mo_isIn 46 = .ok (.goto 4, 3) := by decide +kernel
theorem dc_Mo_isIn_49 : decode mb_Mo_isIn 49 = .ok (.iconst 0, 1) := by decide +kernel
theorem dc_Mo_isIn_50 : decode mb_Mo_isIn 50 = .ok (.ireturn, 1) := by decide +kernel
theorem dc_Mo_emitEntries_0 : decode mb_Mo_emitEntries 0 = .ok (.iconst 0, 1) := by decide +kernel
theorem dc_Mo_emitEntries_1 : decode mb_Mo_emitEntries 1 = .ok (.istore_n 2, 1) := by decide +kernel
theorem dc_Mo_emitEntries_2 : decode mb_Mo_emitEntries 2 = .ok (.iconst 0, 1) := by decide +kernel
theorem dc_Mo_emitEntries_3 : decode mb_Mo_emitEntries 3 = .ok (.istore_n 3, 1) := by decide +kernel
theorem dc_Mo_emitEntries_4 : decode mb_Mo_emitEntries 4 = .ok (.iload_n 3, 1) := by decide +kernel
theorem dc_Mo_emitEntries_5 : decode mb_Mo_emitEntries 5 = .ok (.aload_n 0, 1) := by decide +kernel
theorem dc_Mo_emitEntries_6 : decode mb_Mo_emitEntries 6 = .ok (.getfield 50, 3) := by decide +kernel
theorem dc_Mo_emitEntries_9 : decode mb_Mo_emitEntries 9 = .ok (.if_icmp .ge 26, 3) := by decide +kernel
theorem dc_Mo_emitEntries_12 : decode mb_Mo_emitEntries 12 = .ok (.iload_n 2, 1) := by decide +kernel
theorem dc_Mo_emitEntries_13 : decode mb_Mo_emitEntries 13 = .ok (.aload_n 0, 1) := by decide +kernel
theorem dc_Mo_emitEntries_14 : decode mb_Mo_emitEntries 14 = .ok (.iload_n 3, 1) := by decide +kernel
theorem dc_Mo_emitEntries_15 : decode mb_Mo_emitEntries 15 = .ok (.iload_n 1, 1) := by decide +kernel
theorem dc_Mo_emitEntries_16 : decode mb_Mo_emitEntries 16 = .ok (.invokevirtual 191, 3) := by decide +kernel
theorem dc_Mo_emitEntries_19 : decode mb_Mo_emitEntries 19 = .ok (.ifCond .eq 7, 3) := by decide +kernel
theorem dc_Mo_emitEntries_22 : decode mb_Mo_emitEntries 22 = .ok (.iconst 1, 1) := by decide +kernel
theorem dc_Mo_emitEntries_23 : decode mb_Mo_emitEntries 23 = .ok (.goto 4, 3) := by decide +kernel
theorem dc_Mo_emitEntries_26 : decode mb_Mo_emitEntries 26 = .ok (.iconst 0, 1) := by decide +kernel
theorem dc_Mo_emitEntries_27 : decode mb_Mo_emitEntries 27 = .ok (.iadd, 1) := by decide +kernel
theorem dc_Mo_emitEntries_28 : decode mb_Mo_emitEntries 28 = .ok (.istore_n 2, 1) := by decide +kernel
theorem dc_Mo_emitEntries_29 : decode mb_Mo_emitEntries 29 = .ok (.iinc 3 1, 3) := by decide +kernel
theorem dc_Mo_emitEntries_32 : decode mb_Mo_emitEntries 32 = .ok (.goto (-28), 3) := by decide +kernel
theorem dc_Mo_emitEntries_35 : decode mb_Mo_emitEntries 35 = .ok (.aload_n 0, 1) := by decide +kernel
theorem dc_Mo_emitEntries_36 : decode mb_Mo_emitEntries 36 = .ok (.iconst 1, 1) := by decide +kernel
theorem dc_Mo_emitEntries_37 : decode mb_Mo_emitEntries 37 = .ok (.invokevirtual 142, 3) := by decide +kernel
theorem dc_Mo_emitEntries_40 : decode mb_Mo_emitEntries 40 = .ok (.aload_n 0, 1) := by decide +kernel
theorem dc_Mo_emitEntries_41 : decode mb_Mo_emitEntries 41 = .ok (.iload_n 2, 1) := by decide +kernel
theorem dc_Mo_emitEntries_42 : decode mb_Mo_emitEntries 42 = .ok (.invokevirtual 142, 3) := by decide +kernel
theorem dc_Mo_emitEntries_45 : decode mb_Mo_emitEntries 45 = .ok (.iconst 0, 1) := by decide +kernel
theorem dc_Mo_emitEntries_46 : decode mb_Mo_emitEntries 46 = .ok (.istore_n 3, 1) := by decide +kernel
theorem dc_Mo_emitEntries_47 : decode mb_Mo_emitEntries 47 = .ok (.iload_n 3, 1) := by decide +kernel
theorem dc_Mo_emitEntries_48 : decode mb_Mo_emitEntries 48 = .ok (.aload_n 0, 1) := by decide +kernel
theorem dc_Mo_emitEntries_49 : decode mb_Mo_emitEntries 49 = .ok (.getfield 50, 3) := by decide +kernel
theorem dc_Mo_emitEntries_52 : decode mb_Mo_emitEntries 52 = .ok (.if_icmp .ge 79, 3) := by decide +kernel
theorem dc_Mo_emitEntries_55 : decode mb_Mo_emitEntries 55 = .ok (.aload_n 0, 1) := by decide +kernel
theorem dc_Mo_emitEntries_56 : decode mb_Mo_emitEntries 56 = .ok (.iload_n 3, 1) := by decide +kernel
theorem dc_Mo_emitEntries_57 : decode mb_Mo_emitEntries 57 = .ok (.iload_n 1, 1) := by decide +kernel
theorem dc_Mo_emitEntries_58 : decode mb_Mo_emitEntries 58 = .ok (.invokevirtual 191, 3) := by decide +kernel
theorem dc_Mo_emitEntries_61 : decode mb_Mo_emitEntries 61 = .ok (.ifCond .eq 64, 3) := by decide +kernel
theorem dc_Mo_emitEntries_64 : decode mb_Mo_emitEntries 64 = .ok (.aload_n 0, 1) := by decide +kernel
theorem dc_Mo_emitEntries_65 : decode mb_Mo_emitEntries 65 = .ok (.iconst 2, 1) := by decide +kernel
theorem dc_Mo_emitEntries_66 : decode mb_Mo_emitEntries 66 = .ok (.invokevirtual 142, 3) := by decide +kernel
theorem dc_Mo_emitEntries_69 : decode mb_Mo_emitEntries 69 = .ok (.aload_n 0, 1) := by decide +kernel
theorem dc_Mo_emitEntries_70 : decode mb_Mo_emitEntries 70 = .ok (.aload_n 0, 1) := by decide +kernel
theorem dc_Mo_emitEntries_71 : decode mb_Mo_emitEntries 71 = .ok (.getfield 13, 3) := by decide +kernel
theorem dc_Mo_emitEntries_74 : decode mb_Mo_emitEntries 74 = .ok (.iconst 1, 1) := by decide +kernel
theorem dc_Mo_emitEntries_75 : decode mb_Mo_emitEntries 75 = .ok (.iadd, 1) := by decide +kernel
theorem dc_Mo_emitEntries_76 : decode mb_Mo_emitEntries 76 = .ok (.invokevirtual 142, 3) := by decide +kernel
theorem dc_Mo_emitEntries_79 : decode mb_Mo_emitEntries 79 = .ok (.aload_n 0, 1) := by decide +kernel
theorem dc_Mo_emitEntries_80 : decode mb_Mo_emitEntries 80 = .ok (.bipush 6, 2) := by decide +kernel
theorem dc_Mo_emitEntries_82 : decode mb_Mo_emitEntries 82 = .ok (.aload_n 0, 1) := by decide +kernel
theorem dc_Mo_emitEntries_83 : decode mb_Mo_emitEntries 83 = .ok (.getfield 20, 3) := by decide +kernel
theorem dc_Mo_emitEntries_86 : decode mb_Mo_emitEntries 86 = .ok (.iload_n 3, 1) := by decide +kernel
theorem dc_Mo_emitEntries_87 : decode mb_Mo_emitEntries 87 = .ok (.iaload, 1) := by decide +kernel
theorem dc_Mo_emitEntries_88 : decode mb_Mo_emitEntries 88 = .ok (.invokevirtual 182, 3) := by decide +kernel
theorem dc_Mo_emitEntries_91 : decode mb_Mo_emitEntries 91 = .ok (.iconst 0, 1) := by decide +kernel
theorem dc_Mo_emitEntries_92 : decode mb_Mo_emitEntries 92 = .ok (.istore 4, 2) := by decide +kernel
theorem dc_Mo_emitEntries_94 : decode mb_Mo_emitEntries 94 = .ok (.iload 4, 2) := by decide +kernel
theorem dc_Mo_emitEntries_96 : decode mb_Mo_emitEntries 96 = .ok (.aload_n 0, 1) := by decide +kernel
theorem dc_Mo_emitEntries_97 : decode mb_Mo_emitEntries 97 = .ok (.getfield 13, 3) := by decide +kernel
theorem dc_Mo_emitEntries_100 : decode mb_Mo_emitEntries 100 = .ok (.if_icmp .ge 25, 3) := by decide +kernel
theorem dc_Mo_emitEntries_103 : decode mb_Mo_emitEntries 103 = .ok (.aload_n 0, 1) := by decide +kernel
theorem dc_Mo_emitEntries_104 : decode mb_Mo_emitEntries 104 = .ok (.iconst 5, 1) := by decide +kernel
theorem dc_Mo_emitEntries_105 : decode mb_Mo_emitEntries 105 = .ok (.aload_n 0, 1) := by decide +kernel
theorem dc_Mo_emitEntries_106 : decode mb_Mo_emitEntries 106 = .ok (.getfield 23, 3) := by decide +kernel
theorem dc_Mo_emitEntries_109 : decode mb_Mo_emitEntries 109 = .ok (.iconst 3, 1) := by decide +kernel
theorem dc_Mo_emitEntries_110 : decode mb_Mo_emitEntries 110 = .ok (.iload_n 3, 1) := by decide +kernel
theorem dc_Mo_emitEntries_111 : decode mb_Mo_emitEntries 111 = .ok (.imul, 1) := by decide +kernel
theorem dc_Mo_emitEntries_112 : decode mb_Mo_emitEntries 112 = .ok (.iload 4, 2) := by decide +kernel
theorem dc_Mo_emitEntries_114 : decode mb_Mo_emitEntries 114 = .ok (.iadd, 1) := by decide +kernel
theorem dc_Mo_emitEntries_115 : decode mb_Mo_emitEntries 115 = .ok (.iaload, 1) := by decide +kernel
theorem dc_Mo_emitEntries_116 : decode mb_Mo_emitEntries 116 = .ok (.invokevirtual 182, 3) := by decide +kernel
theorem dc_Mo_emitEntries_119 : decode mb_Mo_emitEntries 119 = .ok (.iinc 4 1, 3) := by decide +kernel
theorem dc_Mo_emitEntries_122 : decode mb_Mo_emitEntries 122 = .ok (.goto (-28), 3) := by decide +kernel
theorem dc_Mo_emitEntries_125 : decode mb_Mo_emitEntries 125 = .ok (.iinc 3 1, 3) := by decide +kernel
theorem dc_Mo_emitEntries_128 : decode mb_Mo_emitEntries 128 = .ok (.goto (-81), 3) := by decide +kernel
theorem dc_Mo_emitEntries_131 : decode mb_Mo_emitEntries 131 = .ok (.return_, 1) := by decide +kernel
theorem dc_Mo_set_0 : decode mb_Mo_set 0 = .ok (.iload_n 1, 1) := by decide +kernel
theorem dc_Mo_set_1 : decode mb_Mo_set 1 = .ok (.iconst 4, 1) := by decide +kernel
theorem dc_Mo_set_2 : decode mb_Mo_set 2 = .ok (.if_icmp .le 5, 3) := by decide +kernel
theorem dc_Mo_set_5 : decode mb_Mo_set 5 = .ok (.iconst 4, 1) := by decide +kernel
theorem dc_Mo_set_6 : decode mb_Mo_set 6 = .ok (.ireturn, 1) := by decide +kernel
theorem dc_Mo_set_7 : decode mb_Mo_set 7 = .ok (.iload_n 1, 1) := by decide +kernel
theorem dc_Mo_set_8 : decode mb_Mo_set 8 = .ok (.iload_n 2, 1) := by decide +kernel
theorem dc_Mo_set_9 : decode mb_Mo_set 9 = .ok (.invokestatic 175, 3) := by decide +kernel
theorem dc_Mo_set_12 : decode mb_Mo_set 12 = .ok (.ifCond .ne 6, 3) := by decide +kernel
theorem dc_Mo_set_15 : decode mb_Mo_set 15 = .ok (.bipush 9, 2) := by decide +kernel
theorem dc_Mo_set_17 : decode mb_Mo_set 17 = .ok (.ireturn, 1) := by decide +kernel
theorem dc_Mo_set_18 : decode mb_Mo_set 18 = .ok (.iload_n 1, 1) := by decide +kernel
theorem dc_Mo_set_19 : decode mb_Mo_set 19 = .ok (.iconst 4, 1) := by decide +kernel
theorem dc_Mo_set_20 : decode mb_Mo_set 20 = .ok (.if_icmp .ge 16, 3) := by decide +kernel
theorem dc_Mo_set_23 : decode mb_Mo_set 23 = .ok (.iload_n 2, 1) := by decide +kernel
theorem dc_Mo_set_24 : decode mb_Mo_set 24 = .ok (.iconst 2, 1) := by decide +kernel
theorem dc_Mo_set_25 : decode mb_Mo_set 25 = .ok (.if_icmp .ne 7, 3) := by decide +kernel
theorem dc_Mo_set_28 : decode mb_Mo_set 28 = .ok (.iconst 1, 1) := by decide +kernel
theorem dc_Mo_set_29 : decode mb_Mo_set 29 = .ok (.goto 28, 3) := by decide +kernel
theorem dc_Mo_set_32 : decode mb_Mo_set 32 = .ok (.iconst 0, 1) := by decide +kernel
theorem dc_Mo_set_33 : decode mb_Mo_set 33 = .ok (.goto 24, 3) := by decide +kernel
theorem dc_Mo_set_36 : decode mb_Mo_set 36 = .ok (.iload_n 2, 1) := by decide +kernel
theorem dc_Mo_set_37 : decode mb_Mo_set 37 = .ok (.iconst 3, 1) := by decide +kernel
theorem dc_Mo_set_38 : decode mb_Mo_set 38 = .ok (.if_icmp .eq 14, 3) := by decide +kernel
theorem dc_Mo_set_41 : decode mb_Mo_set 41 = .ok (.iload_n 2, 1) := by decide +kernel
theorem dc_Mo_set_42 : decode mb_Mo_set 42 = .ok (.iconst 4, 1) := by decide +kernel
theorem dc_Mo_set_43 : decode mb_Mo_set 43 = .ok (.if_icmp .eq 9, 3) := by decide +kernel
theorem dc_Mo_set_46 : decode mb_Mo_set 46 = .ok (.iload_n 2, 1) := by decide +kernel
theorem dc_Mo_set_47 : decode mb_Mo_set 47 = .ok (.bipush 8, 2) := by decide +kernel
theorem dc_Mo_set_49 : decode mb_Mo_set 49 = .ok (.if_icmp .ne 7, 3) := by decide +kernel
theorem dc_Mo_set_52 : decode mb_Mo_set 52 = .ok (.iconst 1, 1) := by decide +kernel
theorem dc_Mo_set_53 : decode mb_Mo_set 53 = .ok (.goto 4, 3) := by decide +kernel
theorem dc_Mo_set_56 : decode mb_Mo_set 56 = .ok (.iconst 0, 1) := by decide +kernel
theorem dc_Mo_set_57 : decode mb_Mo_set 57 = .ok (.istore 4, 2) := by decide +kernel
theorem dc_Mo_set_59 : decode mb_Mo_set 59 = .ok (.aload_n 0, 1) := by decide +kernel
theorem dc_Mo_set_60 : decode mb_Mo_set 60 = .ok (.getfield 71, 3) := by decide +kernel
theorem dc_Mo_set_63 : decode mb_Mo_set 63 = .ok (.iconst 2, 1) := by decide +kernel
theorem dc_Mo_set_64 : decode mb_Mo_set 64 = .ok (.if_icmp .ne 8, 3) := by decide +kernel
theorem dc_Mo_set_67 : decode mb_Mo_set 67 = .ok (.iload 4, 2) := by decide +kernel
theorem dc_Mo_set_69 : decode mb_Mo_set 69 = .ok (.ifCond .ne 5, 3) := by decide +kernel
theorem dc_Mo_set_72 : decode mb_Mo_set 72 = .ok (.iconst 3, 1) := by decide +kernel
theorem dc_Mo_set_73 : decode mb_Mo_set 73 = .ok (.ireturn, 1) := by decide +kernel
theorem dc_Mo_set_74 : decode mb_Mo_set 74 = .ok (.iload_n 1, 1) := by decide +kernel
theorem dc_Mo_set_75 : decode mb_Mo_set 75 = .ok (.iconst 4, 1) := by decide +kernel
theorem dc_Mo_set_76 : decode mb_Mo_set 76 = .ok (.if_icmp .ne 14, 3) := by decide +kernel
theorem dc_Mo_set_79 : decode mb_Mo_set 79 = .ok (.iload_n 2, 1) := by decide +kernel
theorem dc_Mo_set_80 : decode mb_Mo_set 80 = .ok (.iconst 3, 1) := by decide +kernel
theorem dc_Mo_set_81 : decode mb_Mo_set 81 = .ok (.if_icmp .ne 9, 3) := by decide +kernel
theorem dc_Mo_set_84 : decode mb_Mo_set 84 = .ok (.aload_n 0, 1) := by decide +kernel
theorem dc_Mo_set_85 : decode mb_Mo_set 85 = .ok (.iload_n 3, 1) := by decide +kernel
theorem dc_Mo_set_86 : decode mb_Mo_set 86 = .ok (.invokevirtual 195, 3) := by decide +kernel
theorem dc_Mo_set_89 : decode mb_Mo_set 89 = .ok (.ireturn, 1) := by decide +kernel
theorem dc_Mo_set_90 : decode mb_Mo_set 90 = .ok (.iload_n 3, 1) := by decide +kernel
theorem dc_Mo_set_91 : decode mb_Mo_set 91 = .ok (.iconst 5, 1) := by decide +kernel
theorem dc_Mo_set_92 : decode mb_Mo_set 92 = .ok (.if_icmp .ne 26, 3) := by decide +kernel
theorem dc_Mo_set_95 : decode mb_Mo_set 95 = .ok (.aload_n 0, 1) := by decide +kernel
theorem dc_Mo_set_96 : decode mb_Mo_set 96 = .ok (.iconst 3, 1) := by decide +kernel
theorem dc_Mo_set_97 : decode mb_Mo_set 97 = .ok (.invokevirtual 139, 3) := by decide +kernel
theorem dc_Mo_set_100 : decode mb_Mo_set 100 = .ok (.iload_n 1, 1) := by decide +kernel
theorem dc_Mo_set_101 : decode mb_Mo_set 101 = .ok (.ifCond .le 12, 3) := by decide +kernel
theorem dc_Mo_set_104 : decode mb_Mo_set 104 = .ok (.iload_n 1, 1) := by decide +kernel
theorem dc_Mo_set_105 : decode mb_Mo_set 105 = .ok (.iconst 4, 1) := by decide +kernel
theorem dc_Mo_set_106 : decode mb_Mo_set 106 = .ok (.if_icmp .ge 7, 3) := by decide +kernel
theorem dc_Mo_set_109 : decode mb_Mo_set 109 = .ok (.iconst 5, 1) := by decide +kernel
theorem dc_Mo_set_110 : decode mb_Mo_set 110 = .ok (.goto 5, 3) := by decide +kernel
theorem dc_Mo_set_113 : decode mb_Mo_set 113 = .ok (.bipush 6, 2) := by decide +kernel
theorem dc_Mo_set_115 : decode mb_Mo_set 115 = .ok (.if_icmp .eq 6, 3) := by decide +kernel
theorem dc_Mo_set_118 : decode mb_Mo_set 118 = .ok (.bipush 12, 2) := by decide +kernel
theorem dc_Mo_set_120 : decode mb_Mo_set 120 = .ok (.ireturn, 1) := by decide +kernel
theorem dc_Mo_set_121 : decode mb_Mo_set 121 = .ok (.aload_n 0, 1) := by decide +kernel
theorem dc_Mo_set_122 : decode mb_Mo_set 122 = .ok (.iconst 4, 1) := by decide +kernel
theorem dc_Mo_set_123 : decode mb_Mo_set 123 = .ok (.invokevirtual 145, 3) := by decide +kernel
theorem dc_Mo_set_126 : decode mb_Mo_set 126 = .ok (.istore 5, 2) := by decide +kernel
theorem dc_Mo_set_128 : decode mb_Mo_set 128 = .ok (.iload_n 1, 1) := by decide +kernel
theorem dc_Mo_set_129 : decode mb_Mo_set 129 = .ok (.ifCond .le 18, 3) := by decide +kernel
theorem dc_Mo_set_132 : decode mb_Mo_set 132 = .ok (.iload_n 1, 1) := by decide +kernel
theorem dc_Mo_set_133 : decode mb_Mo_set 133 = .ok (.iconst 4, 1) := by decide +kernel
theorem dc_Mo_set_134 : decode mb_Mo_set 134 = .ok (.if_icmp .ge 13, 3) := by decide +kernel
theorem dc_Mo_set_137 : decode mb_Mo_set 137 = .ok (.aload_n 0, 1) := by decide +kernel
theorem dc_Mo_set_138 : decode mb_Mo_set 138 = .ok (.getfield 7, 3) := by decide +kernel
theorem dc_Mo_set_141 : decode mb_Mo_set 141 = .ok (.iload_n 1, 1) := by decide +kernel
theorem dc_Mo_set_142 : decode mb_Mo_set 142 = .ok (.iload 5, 2) := by decide +kernel
theorem dc_Mo_set_144 : decode mb_Mo_set 144 = .ok (.iastore, 1) := by decide +kernel
theorem dc_Mo_set_145 : decode mb_Mo_set 145 = .ok (.iconst 0, 1) := by decide +kernel
theorem dc_Mo_set_146 : decode mb_Mo_set 146 = .ok (.ireturn, 1) := by decide +kernel
theorem dc_Mo_set_147 : decode mb_Mo_set 147 = .ok (.iload 5, 2) := by decide +kernel
theorem dc_Mo_set_149 : decode mb_Mo_set 149 = .ok (.ifCond .lt 22, 3) := by decide +kernel
theorem dc_Mo_set_152 : decode mb_Mo_set 152 = .ok (.iload_n 2, 1) := by decide +kernel
theorem dc_Mo_set_153 : decode mb_Mo_set 153 = .ok (.bipush 8, 2) := by decide +kernel
theorem dc_Mo_set_155 : decode mb_Mo_set 155 = .ok (.if_icmp .ne 19, 3) := by decide +kernel
theorem dc_Mo_set_158 : decode mb_Mo_set 158 = .ok (.iload 5, 2) := by decide +kernel
theorem dc_Mo_set_160 : decode mb_Mo_set 160 = .ok (.iconst 1, 1) := by decide +kernel
theorem dc_Mo_set_161 : decode mb_Mo_set 161 = .ok (.if_icmp .lt 10, 3) := by decide +kernel
theorem dc_Mo_set_164 : decode mb_Mo_set 164 = .ok (.iload 5, 2) := by decide +kernel
theorem dc_Mo_set_166 : decode mb_Mo_set 166 = .ok (.bipush 12, 2) := by decide +kernel
theorem dc_Mo_set_168 : decode mb_Mo_set 168 = .ok (.if_icmp .le 6, 3) := by decide +kernel
theorem dc_Mo_set_171 : decode mb_Mo_set 171 = .ok (.bipush 12, 2) := by decide +kernel
theorem dc_Mo_set_173 : decode mb_Mo_set 173 = .ok (.ireturn, 1) := by decide +kernel
theorem dc_Mo_set_174 : decode mb_Mo_set 174 = .ok (.iload_n 1, 1) := by decide +kernel
theorem dc_Mo_set_175 : decode mb_Mo_set 175 = .ok (.ifCond .ne 12, 3) := by decide +kernel
theorem dc_Mo_set_178 : decode mb_Mo_set 178 = .ok (.aload_n 0, 1) := by decide +kernel
theorem dc_Mo_set_179 : decode mb_Mo_set 179 = .ok (.iload 5, 2) := by decide +kernel
theorem dc_Mo_set_181 : decode mb_Mo_set 181 = .ok (.putfield 53, 3) := by decide +kernel
theorem dc_Mo_set_184 : decode mb_Mo_set 184 = .ok (.goto 23, 3) := by decide +kernel
theorem dc_Mo_set_187 : decode mb_Mo_set 187 = .ok (.iload_n 2, 1) := by decide +kernel
theorem dc_Mo_set_188 : decode mb_Mo_set 188 = .ok (.iconst 4, 1) := by decide +kernel
theorem dc_Mo_set_189 : decode mb_Mo_set 189 = .ok (.if_icmp .ne 12, 3) := by decide +kernel
theorem dc_Mo_set_192 : decode mb_Mo_set 192 = .ok (.aload_n 0, 1) := by decide +kernel
theorem dc_Mo_set_193 : decode mb_Mo_set 193 = .ok (.iload 5, 2) := by decide +kernel
theorem dc_Mo_set_195 : decode mb_Mo_set 195 = .ok (.putfield 57, 3) := by decide +kernel
theorem dc_Mo_set_198 : decode mb_Mo_set 198 = .ok (.goto 9, 3) := by decide +kernel
theorem dc_Mo_set_201 : decode mb_Mo_set 201 = .ok (.aload_n 0, 1) := by decide +kernel
theorem dc_Mo_set_202 : decode mb_Mo_set 202 = .ok (.iload 5, 2) := by decide +kernel
theorem dc_Mo_set_204 : decode mb_Mo_set 204 = .ok (.putfield 44, 3) := by decide +kernel
theorem dc_Mo_set_207 : decode mb_Mo_set 207 = .ok (.aload_n 0, 1) := by decide +kernel
theorem dc_Mo_set_208 : decode mb_Mo_set 208 = .ok (.iload_n 1, 1) := by decide +kernel
theorem dc_Mo_set_209 : decode mb_Mo_set 209 = .ok (.iconst 4, 1) := by decide +kernel
theorem dc_Mo_set_210 : decode mb_Mo_set 210 = .ok (.if_icmp .ne 13, 3) := by decide +kernel
theorem dc_Mo_set_213 : decode mb_Mo_set 213 = .ok (.iload_n 2, 1) := by decide +kernel
theorem dc_Mo_set_214 : decode mb_Mo_set 214 = .ok (.bipush 8, 2) := by decide +kernel
theorem dc_Mo_set_216 : decode mb_Mo_set 216 = .ok (.if_icmp .ne 7, 3) := by decide +kernel
theorem dc_Mo_set_219 : decode mb_Mo_set 219 = .ok (.iconst 0, 1) := by decide +kernel
theorem dc_Mo_set_220 : decode mb_Mo_set 220 = .ok (.goto 7, 3) := by decide +kernel
theorem dc_Mo_set_223 : decode mb_Mo_set 223 = .ok (.aload_n 0, 1) := by decide +kernel
theorem dc_Mo_set_224 : decode mb_Mo_set 224 = .ok (.getfield 50, 3) := by decide +kernel
theorem dc_Mo_set_227 : decode mb_Mo_set 227 = .ok (.putfield 50, 3) := by decide +kernel
theorem dc_Mo_set_230 : decode mb_Mo_set 230 = .ok (.iconst 0, 1) := by decide +kernel
theorem dc_Mo_set_231 : decode mb_Mo_set 231 = .ok (.ireturn, 1) := by decide +kernel
theorem dc_Mo_setColumns_0 : decode mb_Mo_setColumns 0 = .ok (.iload_n 1, 1) := by decide +kernel
theorem dc_Mo_setColumns_1 : decode mb_Mo_setColumns 1 = .ok (.iconst 2, 1) := by decide +kernel
theorem dc_Mo_setColumns_2 : decode mb_Mo_setColumns 2 = .ok (.if_icmp .ge 7, 3) := by decide +kernel
theorem dc_Mo_setColumns_5 : decode mb_Mo_setColumns 5 = .ok (.iconst 0, 1) := by decide +kernel
theorem dc_Mo_setColumns_6 : decode mb_Mo_setColumns 6 = .ok (.goto 8, 3) := by decide +kernel
theorem dc_Mo_setColumns_9 : decode mb_Mo_setColumns 9 = .ok (.aload_n 0, 1) := by decide +kernel
theorem dc_Mo_setColumns_10 : decode mb_Mo_setColumns 10 = .ok (.iconst 4, 1) := by decide +kernel
theorem dc_Mo_setColumns_11 : decode mb_Mo_setColumns 11 = .ok (.invokevirtual 139, 3) := by decide +kernel
theorem dc_Mo_setColumns_14 : decode mb_Mo_setColumns 14 = .ok (.istore_n 2, 1) := by decide +kernel
theorem dc_Mo_setColumns_15 : decode mb_Mo_setColumns 15 = .ok (.iload_n 1, 1) := by decide +kernel
theorem dc_Mo_setColumns_16 : decode mb_Mo_setColumns 16 = .ok (.iconst 2, 1) := by decide +kernel
theorem dc_Mo_setColumns_17 : decode mb_Mo_setColumns 17 = .ok (.if_icmp .lt 31, 3) := by decide +kernel
theorem dc_Mo_setColumns_20 : decode mb_Mo_setColumns 20 = .ok (.aload_n 0, 1) := by decide +kernel
theorem dc_Mo_setColumns_21 : decode mb_Mo_setColumns 21 = .ok (.iconst 3, 1) := by decide +kernel
theorem dc_Mo_setColumns_22 : decode mb_Mo_setColumns 22 = .ok (.invokevirtual 139, 3) := by decide +kernel
theorem dc_Mo_setColumns_25 : decode mb_Mo_setColumns 25 = .ok (.iconst 1, 1) := by decide +kernel
theorem dc_Mo_setColumns_26 : decode mb_Mo_setColumns 26 = .ok (.if_icmp .ne 22, 3) := by decide +kernel
theorem dc_Mo_setColumns_29 : decode mb_Mo_setColumns 29 = .ok (.iload_n 2, 1) := by decide +kernel
theorem dc_Mo_setColumns_30 : decode mb_Mo_setColumns 30 = .ok (.iconst 1, 1) := by decide +kernel
theorem dc_Mo_setColumns_31 : decode mb_Mo_setColumns 31 = .ok (.if_icmp .lt 17, 3) := by decide +kernel
theorem dc_Mo_setColumns_34 : decode mb_Mo_setColumns 34 = .ok (.iload_n 2, 1) := by decide +kernel
theorem dc_Mo_setColumns_35 : decode mb_Mo_setColumns 35 = .ok (.iconst 3, 1) := by decide +kernel
theorem dc_Mo_setColumns_36 : decode mb_Mo_setColumns 36 = .ok (.if_icmp .gt 12, 3) := by decide +kernel
theorem dc_Mo_setColumns_39 : decode mb_Mo_setColumns 39 = .ok (.iload_n 1, 1) := by decide +kernel
theorem dc_Mo_setColumns_40 : decode mb_Mo_setColumns 40 = .ok (.iconst 2, 1) := by decide +kernel
theorem dc_Mo_setColumns_41 : decode mb_Mo_setColumns 41 = .ok (.iconst 2, 1) := by decide +kernel
theorem dc_Mo_setColumns_42 : decode mb_Mo_setColumns 42 = .ok (.iload_n 2, 1) := by decide +kernel
theorem dc_Mo_setColumns_43 : decode mb_Mo_setColumns 43 = .ok (.imul, 1) := by decide +kernel
theorem dc_Mo_setColumns_44 : decode mb_Mo_setColumns 44 = .ok (.iadd, 1) := by decide +kernel
theorem dc_Mo_setColumns_45 : decode mb_Mo_setColumns 45 = .ok (.if_icmp .eq 6, 3) := by decide +kernel
theorem dc_Mo_setColumns_48 : decode mb_Mo_setColumns 48 = .ok (.bipush 12, 2) := by decide +kernel
theorem dc_Mo_setColumns_50 : decode mb_Mo_setColumns 50 = .ok (.ireturn, 1) := by decide +kernel
theorem dc_Mo_setColumns_51 : decode mb_Mo_setColumns 51 = .ok (.iconst 0, 1) := by decide +kernel
theorem dc_Mo_setColumns_52 : decode mb_Mo_setColumns 52 = .ok (.istore_n 3, 1) := by decide +kernel
theorem dc_Mo_setColumns_53 : decode mb_Mo_setColumns 53 = .ok (.iconst 0, 1) := by decide +kernel
theorem dc_Mo_setColumns_54 : decode mb_Mo_setColumns 54 = .ok (.istore 4, 2) := by decide +kernel
theorem dc_Mo_setColumns_56 : decode mb_Mo_setColumns 56 = .ok (.iload 4, 2) := by decide +kernel
theorem dc_Mo_setColumns_58 : decode mb_Mo_setColumns 58 = .ok (.iload_n 2, 1) := by decide +kernel
theorem dc_Mo_setColumns_59 : decode mb_Mo_setColumns 59 = .ok (.if_icmp .ge 65, 3) := by decide +kernel
theorem dc_Mo_setColumns_62 : decode mb_Mo_setColumns 62 = .ok (.aload_n 0, 1) := by decide +kernel
theorem dc_Mo_setColumns_63 : decode mb_Mo_setColumns 63 = .ok (.bipush 6, 2) := by decide +kernel
theorem dc_Mo_setColumns_65 : decode mb_Mo_setColumns 65 = .ok (.iconst 2, 1) := by decide +kernel
theorem dc_Mo_setColumns_66 : decode mb_Mo_setColumns 66 = .ok (.iload 4, 2) := by decide +kernel
theorem dc_Mo_setColumns_68 : decode mb_Mo_setColumns 68 = .ok (.imul, 1) := by decide +kernel
theorem dc_Mo_setColumns_69 : decode mb_Mo_setColumns 69 = .ok (.iadd, 1) := by decide +kernel
theorem dc_Mo_setColumns_70 : decode mb_Mo_setColumns 70 = .ok (.invokevirtual 139, 3) := by decide +kernel
theorem dc_Mo_setColumns_73 : decode mb_Mo_setColumns 73 = .ok (.istore 5, 2) := by decide +kernel
theorem dc_Mo_setColumns_75 : decode mb_Mo_setColumns 75 = .ok (.aload_n 0, 1) := by decide +kernel
theorem dc_Mo_setColumns_76 : decode mb_Mo_setColumns 76 = .ok (.iconst 5, 1) := by decide +kernel
theorem dc_Mo_setColumns_77 : decode mb_Mo_setColumns 77 = .ok (.iconst 2, 1) := by decide +kernel
theorem dc_Mo_setColumns_78 : decode mb_Mo_setColumns 78 = .ok (.iload 4, 2) := by decide +kernel
theorem dc_Mo_setColumns_80 : decode mb_Mo_setColumns 80 = .ok (.imul, 1) := by decide +kernel
theorem dc_Mo_setColumns_81 : decode mb_Mo_setColumns 81 = .ok (.iadd, 1) := by decide +kernel
theorem dc_Mo_setColumns_82 : decode mb_Mo_setColumns 82 = .ok (.invokevirtual 139, 3) := by decide +kernel
theorem dc_Mo_setColumns_85 : decode mb_Mo_setColumns 85 = .ok (.bipush 17, 2) := by decide +kernel
theorem dc_Mo_setColumns_87 : decode mb_Mo_setColumns 87 = .ok (.if_icmp .ne 21, 3) := by decide +kernel
theorem dc_Mo_setColumns_90 : decode mb_Mo_setColumns 90 = .ok (.iload 5, 2) := by decide +kernel
theorem dc_Mo_setColumns_92 : decode mb_Mo_setColumns 92 = .ok (.invokestatic 63, 3) := by decide +kernel
theorem dc_Mo_setColumns_95 : decode mb_Mo_setColumns 95 = .ok (.ifCond .eq 13, 3) := by decide +kernel
theorem dc_Mo_setColumns_98 : decode mb_Mo_setColumns 98 = .ok (.iload_n 3, 1) := by decide +kernel
theorem dc_Mo_setColumns_99 : decode mb_Mo_setColumns 99 = .ok (.iload 5, 2) := by decide +kernel
theorem dc_Mo_setColumns_101 : decode mb_Mo_setColumns 101 = .ok (.ishr, 1) := by decide +kernel
theorem dc_Mo_setColumns_102 : decode mb_Mo_setColumns 102 = .ok (.iconst 1, 1) := by decide +kernel
theorem dc_Mo_setColumns_103 : decode mb_Mo_setColumns 103 = .ok (.iand, 1) := by decide +kernel
theorem dc_Mo_setColumns_104 : decode mb_Mo_setColumns 104 = .ok (.iconst 1, 1) := by decide +kernel
theorem dc_Mo_setColumns_105 : decode mb_Mo_setColumns 105 = .ok (.if_icmp .ne 6, 3) := by decide +kernel
theorem dc_Mo_setColumns_108 : decode mb_Mo_setColumns 108 = .ok (.bipush 12, 2) := by decide +kernel
theorem dc_Mo_setColumns_110 : decode mb_Mo_setColumns 110 = .ok (.ireturn, 1) := by decide +kernel
theorem dc_Mo_setColumns_111 : decode mb_Mo_setColumns 111 = .ok (.iload_n 3, 1) := by decide +kernel
theorem dc_Mo_setColumns_112 : decode mb_Mo_setColumns 112 = .ok (.iconst 1, 1) := by decide +kernel
theorem dc_Mo_setColumns_113 : decode mb_Mo_setColumns 113 = .ok (.iload 5, 2) := by decide +kernel
theorem dc_Mo_setColumns_115 : decode mb_Mo_setColumns 115 = .ok (.ishl, 1) := by decide +kernel
theorem dc_Mo_setColumns_116 : decode mb_Mo_setColumns 116 = .ok (.ior, 1) := by decide +kernel
theorem dc_Mo_setColumns_117 : decode mb_Mo_setColumns 117 = .ok (.istore_n 3, 1) := by decide +kernel
theorem dc_Mo_setColumns_118 : decode mb_Mo_setColumns 118 = .ok (.iinc 4 1, 3) := by decide +kernel
theorem dc_Mo_setColumns_121 : decode mb_Mo_setColumns 121 = .ok (.goto (-65), 3) := by decide +kernel
theorem dc_Mo_setColumns_124 : decode mb_Mo_setColumns 124 = .ok (.iconst 0, 1) := by decide +kernel
theorem dc_Mo_setColumns_125 : decode mb_Mo_setColumns 125 = .ok (.istore 4, 2) := by decide +kernel
theorem dc_Mo_setColumns_127 : decode mb_Mo_setColumns 127 = .ok (.iload 4, 2) := by decide +kernel
theorem dc_Mo_setColumns_129 : decode mb_Mo_setColumns 129 = .ok (.iload_n 2, 1) := by decide +kernel
theorem dc_Mo_setColumns_130 : decode mb_Mo_setColumns 130 = .ok (.if_icmp .ge 27, 3) := by decide +kernel
theorem dc_Mo_setColumns_133 : decode mb_Mo_setColumns 133 = .ok (.aload_n 0, 1) := by decide +kernel
theorem dc_Mo_setColumns_134 : decode mb_Mo_setColumns 134 = .ok (.getfield 17, 3) := by decide +kernel
theorem dc_Mo_setColumns_137 : decode mb_Mo_setColumns 137 = .ok (.iload 4, 2) := by decide +kernel
theorem dc_Mo_setColumns_139 : decode mb_Mo_setColumns 139 = .ok (.aload_n 0, 1) := by decide +kernel
theorem dc_Mo_setColumns_140 : decode mb_Mo_setColumns 140 = .ok (.bipush 6, 2) := by decide +kernel
theorem dc_Mo_setColumns_142 : decode mb_Mo_setColumns 142 = .ok (.iconst 2, 1) := by decide +kernel
theorem dc_Mo_setColumns_143 : decode mb_Mo_setColumns 143 = .ok (.iload 4, 2) := by decide +kernel
theorem dc_Mo_setColumns_145 : decode mb_Mo_setColumns 145 = .ok (.imul, 1) := by decide +kernel
theorem dc_Mo_setColumns_146 : decode mb_Mo_setColumns 146 = .ok (.iadd, 1) := by decide +kernel
theorem dc_Mo_setColumns_147 : decode mb_Mo_setColumns 147 = .ok (.invokevirtual 139, 3) := by decide +kernel
theorem dc_Mo_setColumns_150 : decode mb_Mo_setColumns 150 = .ok (.iastore, 1) := by decide +kernel
theorem dc_Mo_setColumns_151 : decode mb_Mo_setColumns 151 = .ok (.iinc 4 1, 3) := by decide +kernel
theorem dc_Mo_setColumns_154 : decode mb_Mo_setColumns 154 = .ok (.goto (-27), 3) := by decide +kernel
theorem dc_Mo_setColumns_157 : decode mb_Mo_setColumns 157 = .ok (.aload_n 0, 1) := by decide +kernel
theorem dc_Mo_setColumns_158 : decode mb_Mo_setColumns 158 = .ok (.iload_n 2, 1) := by decide +kernel
theorem dc_Mo_setColumns_159 : decode mb_Mo_setColumns 159 = .ok (.putfield 13, 3) := by decide +kernel
theorem dc_Mo_setColumns_162 : decode mb_Mo_setColumns 162 = .ok (.aload_n 0, 1) := by decide +kernel
theorem dc_Mo_setColumns_163 : decode mb_Mo_setColumns 163 = .ok (.iconst 0, 1) := by decide +kernel
theorem dc_Mo_setColumns_164 : decode mb_Mo_setColumns 164 = .ok (.putfield 50, 3) := by decide +kernel
theorem dc_Mo_setColumns_167 : decode mb_Mo_setColumns 167 = .ok (.iconst 0, 1) := by decide +kernel
theorem dc_Mo_setColumns_168 : decode mb_Mo_setColumns 168 = .ok (.ireturn, 1) := by decide +kernel
theorem dc_Mo_act_0 : decode mb_Mo_act 0 = .ok (.iload_n 1, 1) := by decide +kernel
theorem dc_Mo_act_1 : decode mb_Mo_act 1 = .ok (.iconst 4, 1) := by decide +kernel
theorem dc_Mo_act_2 : decode mb_Mo_act 2 = .ok (.if_icmp .le 5, 3) := by decide +kernel
theorem dc_Mo_act_5 : decode mb_Mo_act 5 = .ok (.iconst 4, 1) := by decide +kernel
theorem dc_Mo_act_6 : decode mb_Mo_act 6 = .ok (.ireturn, 1) := by decide +kernel
theorem dc_Mo_act_7 : decode mb_Mo_act 7 = .ok (.iload_n 1, 1) := by decide +kernel
theorem dc_Mo_act_8 : decode mb_Mo_act 8 = .ok (.ifCond .ne 16, 3) := by decide +kernel
theorem dc_Mo_act_11 : decode mb_Mo_act 11 = .ok (.iload_n 2, 1) := by decide +kernel
theorem dc_Mo_act_12 : decode mb_Mo_act 12 = .ok (.iconst 3, 1) := by decide +kernel
theorem dc_Mo_act_13 : decode mb_Mo_act 13 = .ok (.if_icmp .ne 7, 3) := by decide +kernel
theorem dc_Mo_act_16 : decode mb_Mo_act 16 = .ok (.iconst 1, 1) := by decide +kernel
theorem dc_Mo_act_17 : decode mb_Mo_act 17 = .ok (.goto 40, 3) := by decide +kernel
theorem dc_Mo_act_20 : decode mb_Mo_act 20 = .ok (.iconst 0, 1) := by decide +kernel
theorem dc_Mo_act_21 : decode mb_Mo_act 21 = .ok (.goto 36, 3) := by decide +kernel
theorem dc_Mo_act_24 : decode mb_Mo_act 24 = .ok (.iload_n 1, 1) := by decide +kernel
theorem dc_Mo_act_25 : decode mb_Mo_act 25 = .ok (.iconst 4, 1) := by decide +kernel
theorem dc_Mo_act_26 : decode mb_Mo_act 26 = .ok (.if_icmp .ge 16, 3) := by decide +kernel
theorem dc_Mo_act_29 : decode mb_Mo_act 29 = .ok (.iload_n 2, 1) := by decide +kernel
theorem dc_Mo_act_30 : decode mb_Mo_act 30 = .ok (.iconst 1, 1) := by decide +kernel
theorem dc_Mo_act_31 : decode mb_Mo_act 31 = .ok (.if_icmp .ne 7, 3) := by decide +kernel
theorem dc_Mo_act_34 : decode mb_Mo_act 34 = .ok (.iconst 1, 1) := by decide +kernel
theorem dc_Mo_act_35 : decode mb_Mo_act 35 = .ok (.goto 22, 3) := by decide +kernel
theorem dc_Mo_act_38 : decode mb_Mo_act 38 = .ok (.iconst 0, 1) := by decide +kernel
theorem dc_Mo_act_39 : decode mb_Mo_act 39 = .ok (.goto 18, 3) := by decide +kernel
theorem dc_Mo_act_42 : decode mb_Mo_act 42 = .ok (.iload_n 2, 1) := by decide +kernel
theorem dc_Mo_act_43 : decode mb_Mo_act 43 = .ok (.iconst 1, 1) := by decide +kernel
theorem dc_Mo_act_44 : decode mb_Mo_act 44 = .ok (.if_icmp .eq 8, 3) := by decide +kernel
theorem dc_Mo_act_47 : decode mb_Mo_act 47 = .ok (.iload_n 2, 1) := by decide +kernel
theorem dc_Mo_act_48 : decode mb_Mo_act 48 = .ok (.iconst 2, 1) := by decide +kernel
theorem dc_Mo_act_49 : decode mb_Mo_act 49 = .ok (.if_icmp .ne 7, 3) := by decide +kernel
theorem dc_Mo_act_52 : decode mb_Mo_act 52 = .ok (.iconst 1, 1) := by decide +kernel
theorem dc_Mo_act_53 : decode mb_Mo_act 53 = .ok (.goto 4, 3) := by decide +kernel
theorem dc_Mo_act_56 : decode mb_Mo_act 56 = .ok (.iconst 0, 1) := by decide +kernel
theorem dc_Mo_act_57 : decode mb_Mo_act 57 = .ok (.istore 4, 2) := by decide +kernel
theorem dc_Mo_act_59 : decode mb_Mo_act 59 = .ok (.iload 4, 2) := by decide +kernel
theorem dc_Mo_act_61 : decode mb_Mo_act 61 = .ok (.ifCond .ne 6, 3) := by decide +kernel
theorem dc_Mo_act_64 : decode mb_Mo_act 64 = .ok (.bipush 9, 2) := by decide +kernel
theorem dc_Mo_act_66 : decode mb_Mo_act 66 = .ok (.ireturn, 1) := by decide +kernel
theorem dc_Mo_act_67 : decode mb_Mo_act 67 = .ok (.aload_n 0, 1) := by decide +kernel
theorem dc_Mo_act_68 : decode mb_Mo_act 68 = .ok (.getfield 71, 3) := by decide +kernel
theorem dc_Mo_act_71 : decode mb_Mo_act 71 = .ok (.iconst 2, 1) := by decide +kernel
theorem dc_Mo_act_72 : decode mb_Mo_act 72 = .ok (.if_icmp .eq 5, 3) := by decide +kernel
theorem dc_Mo_act_75 : decode mb_Mo_act 75 = .ok (.iconst 3, 1) := by decide +kernel
theorem dc_Mo_act_76 : decode mb_Mo_act 76 = .ok (.ireturn, 1) := by decide +kernel
theorem dc_Mo_act_77 : decode mb_Mo_act 77 = .ok (.iload_n 1, 1) := by decide +kernel
theorem dc_Mo_act_78 : decode mb_Mo_act 78 = .ok (.ifCond .ne 10, 3) := by decide +kernel
theorem dc_Mo_act_81 : decode mb_Mo_act 81 = .ok (.iload_n 3, 1) := by decide +kernel
theorem dc_Mo_act_82 : decode mb_Mo_act 82 = .ok (.ifCond .ne 6, 3) := by decide +kernel
theorem dc_Mo_act_85 : decode mb_Mo_act 85 = .ok (.bipush 13, 2) := by decide +kernel
theorem dc_Mo_act_87 : decode mb_Mo_act 87 = .ok (.ireturn, 1) := by decide +kernel
theorem dc_Mo_act_88 : decode mb_Mo_act 88 = .ok (.iload_n 1, 1) := by decide +kernel
theorem dc_Mo_act_89 : decode mb_Mo_act 89 = .ok (.ifCond .ne 18, 3) := by decide +kernel
theorem dc_Mo_act_92 : decode mb_Mo_act 92 = .ok (.aload_n 0, 1) := by decide +kernel
theorem dc_Mo_act_93 : decode mb_Mo_act 93 = .ok (.aload_n 0, 1) := by decide +kernel
theorem dc_Mo_act_94 : decode mb_Mo_act 94 = .ok (.getfield 53, 3) := by decide +kernel
theorem dc_Mo_act_97 : decode mb_Mo_act 97 = .ok (.iload_n 3, 1) := by decide +kernel
theorem dc_Mo_act_98 : decode mb_Mo_act 98 = .ok (.idiv, 1) := by decide +kernel
theorem dc_Mo_act_99 : decode mb_Mo_act 99 = .ok (.iload_n 3, 1) := by decide +kernel
theorem dc_Mo_act_100 : decode mb_Mo_act 100 = .ok (.imul, 1) := by decide +kernel
theorem dc_Mo_act_101 : decode mb_Mo_act 101 = .ok (.putfield 53, 3) := by decide +kernel
theorem dc_Mo_act_104 : decode mb_Mo_act 104 = .ok (.goto 35, 3) := by decide +kernel
theorem dc_Mo_act_107 : decode mb_Mo_act 107 = .ok (.iload_n 1, 1) := by decide +kernel
theorem dc_Mo_act_108 : decode mb_Mo_act 108 = .ok (.iconst 4, 1) := by decide +kernel
theorem dc_Mo_act_109 : decode mb_Mo_act 109 = .ok (.if_icmp .ge 13, 3) := by decide +kernel
theorem dc_Mo_act_112 : decode mb_Mo_act 112 = .ok (.aload_n 0, 1) := by decide +kernel
theorem dc_Mo_act_113 : decode mb_Mo_act 113 = .ok (.getfield 7, 3) := by decide +kernel
theorem dc_Mo_act_116 : decode mb_Mo_act 116 = .ok (.iload_n 1, 1) := by decide +kernel
theorem dc_Mo_act_117 : decode mb_Mo_act 117 = .ok (.iconst 0, 1) := by decide +kernel
theorem dc_Mo_act_118 : decode mb_Mo_act 118 = .ok (.iastore, 1) := by decide +kernel
theorem dc_Mo_act_119 : decode mb_Mo_act 119 = .ok (.goto 20, 3) := by decide +kernel
theorem dc_Mo_act_122 : decode mb_Mo_act 122 = .ok (.iload_n 2, 1) := by decide +kernel
theorem dc_Mo_act_123 : decode mb_Mo_act 123 = .ok (.iconst 1, 1) := by decide +kernel
theorem dc_Mo_act_124 : decode mb_Mo_act 124 = .ok (.if_icmp .ne 11, 3) := by decide +kernel
theorem dc_Mo_act_127 : decode mb_Mo_act 127 = .ok (.aload_n 0, 1) := by decide +kernel
theorem dc_Mo_act_128 : decode mb_Mo_act 128 = .ok (.iconst 0, 1) := by decide +kernel
theorem dc_Mo_act_129 : decode mb_Mo_act 129 = .ok (.putfield 50, 3) := by decide +kernel
theorem dc_Mo_act_132 : decode mb_Mo_act 132 = .ok (.goto 7, 3) := by decide +kernel
theorem dc_Mo_act_135 : decode mb_Mo_act 135 = .ok (.aload_n 0, 1) := by decide +kernel
theorem dc_Mo_act_136 : decode mb_Mo_act 136 = .ok (.invokevirtual 60, 3) := by decide +kernel
theorem dc_Mo_act_139 : decode mb_Mo_act 139 = .ok (.iconst 0, 1) := by decide +kernel
theorem dc_Mo_act_140 : decode mb_Mo_act 140 = .ok (.ireturn, 1) := by decide +kernel
theorem dc_La_cell_0 : decode mb_La_cell 0 = .ok (.iload_n 1, 1) := by decide +kernel
theorem dc_La_cell_1 : decode mb_La_cell 1 = .ok (.aload_n 0, 1) := by decide +kernel
theorem dc_La_cell_2 : decode mb_La_cell 2 = .ok (.arraylength, 1) := by decide +kernel
theorem dc_La_cell_3 : decode mb_La_cell 3 = .ok (.if_icmp .ge 9, 3) := by decide +kernel
theorem dc_La_cell_6 : decode mb_La_cell 6 = .ok (.aload_n 0, 1) := by decide +kernel
theorem dc_La_cell_7 : decode mb_La_cell 7 = .ok (.iload_n 1, 1) := by decide +kernel
theorem dc_La_cell_8 : decode mb_La_cell 8 = .ok (.iaload, 1) := by decide +kernel
theorem dc_La_cell_9 : decode mb_La_cell 9 = .ok (.goto 4, 3) := by decide +kernel
theorem dc_La_cell_12 : decode mb_La_cell 12 = .ok (.iconst 0, 1) := by decide +kernel
theorem dc_La_cell_13 : decode mb_La_cell 13 = .ok (.ireturn, 1) := by decide +kernel
theorem dc_La_run_0 : decode mb_La_run 0 = .ok (.aload_n 0, 1) := by decide +kernel
theorem dc_La_run_1 : decode mb_La_run 1 = .ok (.iload_n 1, 1) := by decide +kernel
theorem dc_La_run_2 : decode mb_La_run 2 = .ok (.invokevirtual 7, 3) := by decide +kernel
theorem dc_La_run_5 : decode mb_La_run 5 = .ok (.goto 6, 3) := by decide +kernel
theorem dc_La_run_8 : decode mb_La_run 8 = .ok (.astore_n 2, 1) := by decide +kernel
theorem dc_La_run_9 : decode mb_La_run 9 = .ok (.iconst 1, 1) := by decide +kernel
theorem dc_La_run_10 : decode mb_La_run 10 = .ok (.ireturn, 1) := by decide +kernel
theorem dc_La_run_11 : decode mb_La_run 11 = .ok (.iconst 0, 1) := by decide +kernel
theorem dc_La_run_12 : decode mb_La_run 12 = .ok (.ireturn, 1) := by decide +kernel
theorem dc_La_count_0 : decode mb_La_count 0 = .ok (.aload_n 3, 1) := by decide +kernel
theorem dc_La_count_1 : decode mb_La_count 1 = .ok (.iconst 0, 1) := by decide +kernel
theorem dc_La_count_2 : decode mb_La_count 2 = .ok (.aload_n 0, 1) := by decide +kernel
theorem dc_La_count_3 : decode mb_La_count 3 = .ok (.iload_n 1, 1) := by decide +kernel
theorem dc_La_count_4 : decode mb_La_count 4 = .ok (.iload_n 2, 1) := by decide +kernel
theorem dc_La_count_5 : decode mb_La_count 5 = .ok (.invokevirtual 15, 3) := by decide +kernel
theorem dc_La_count_8 : decode mb_La_count 8 = .ok (.i2l, 1) := by decide +kernel
theorem dc_La_count_9 : decode mb_La_count 9 = .ok (.lastore, 1) := by decide +kernel
theorem dc_La_count_10 : decode mb_La_count 10 = .ok (.goto 7, 3) := by decide +kernel
theorem dc_La_count_13 : decode mb_La_count 13 = .ok (.astore 4, 2) := by decide +kernel
theorem dc_La_count_15 : decode mb_La_count 15 = .ok (.iconst 1, 1) := by decide +kernel
theorem dc_La_count_16 : decode mb_La_count 16 = .ok (.ireturn, 1) := by decide +kernel
theorem dc_La_count_17 : decode mb_La_count 17 = .ok (.iconst 0, 1) := by decide +kernel
theorem dc_La_count_18 : decode mb_La_count 18 = .ok (.ireturn, 1) := by decide +kernel
theorem dc_La_register_0 : decode mb_La_register 0 = .ok (.aload_n 2, 1) := by decide +kernel
theorem dc_La_register_1 : decode mb_La_register 1 = .ok (.iconst 0, 1) := by decide +kernel
theorem dc_La_register_2 : decode mb_La_register 2 = .ok (.aload_n 0, 1) := by decide +kernel
theorem dc_La_register_3 : decode mb_La_register 3 = .ok (.iload_n 1, 1) := by decide +kernel
theorem dc_La_register_4 : decode mb_La_register 4 = .ok (.invokevirtual 21, 3) := by decide +kernel
theorem dc_La_register_7 : decode mb_La_register 7 = .ok (.i2l, 1) := by decide +kernel
theorem dc_La_register_8 : decode mb_La_register 8 = .ok (.lastore, 1) := by decide +kernel
theorem dc_La_register_9 : decode mb_La_register 9 = .ok (.goto 6, 3) := by decide +kernel
theorem dc_La_register_12 : decode mb_La_register 12 = .ok (.astore_n 3, 1) := by decide +kernel
theorem dc_La_register_13 : decode mb_La_register 13 = .ok (.iconst 1, 1) := by decide +kernel
theorem dc_La_register_14 : decode mb_La_register 14 = .ok (.ireturn, 1) := by decide +kernel
theorem dc_La_register_15 : decode mb_La_register 15 = .ok (.iconst 0, 1) := by decide +kernel
theorem dc_La_register_16 : decode mb_La_register 16 = .ok (.ireturn, 1) := by decide +kernel
theorem dc_La_entry_0 : decode mb_La_entry 0 = .ok (.aload_n 3, 1) := by decide +kernel
theorem dc_La_entry_1 : decode mb_La_entry 1 = .ok (.iconst 0, 1) := by decide +kernel
theorem dc_La_entry_2 : decode mb_La_entry 2 = .ok (.aload_n 0, 1) := by decide +kernel
theorem dc_La_entry_3 : decode mb_La_entry 3 = .ok (.iload_n 1, 1) := by decide +kernel
theorem dc_La_entry_4 : decode mb_La_entry 4 = .ok (.iload_n 2, 1) := by decide +kernel
theorem dc_La_entry_5 : decode mb_La_entry 5 = .ok (.invokevirtual 25, 3) := by decide +kernel
theorem dc_La_entry_8 : decode mb_La_entry 8 = .ok (.i2l, 1) := by decide +kernel
theorem dc_La_entry_9 : decode mb_La_entry 9 = .ok (.lastore, 1) := by decide +kernel
theorem dc_La_entry_10 : decode mb_La_entry 10 = .ok (.goto 11, 3) := by decide +kernel
theorem dc_La_entry_13 : decode mb_La_entry 13 = .ok (.astore 4, 2) := by decide +kernel
theorem dc_La_entry_15 : decode mb_La_entry 15 = .ok (.iconst 1, 1) := by decide +kernel
theorem dc_La_entry_16 : decode mb_La_entry 16 = .ok (.ireturn, 1) := by decide +kernel
theorem dc_La_entry_17 : decode mb_La_entry 17 = .ok (.astore 4, 2) := by decide +kernel
theorem dc_La_entry_19 : decode mb_La_entry 19 = .ok (.iconst 2, 1) := by decide +kernel
theorem dc_La_entry_20 : decode mb_La_entry 20 = .ok (.ireturn, 1) := by decide +kernel
theorem dc_La_entry_21 : decode mb_La_entry 21 = .ok (.iconst 0, 1) := by decide +kernel
theorem dc_La_entry_22 : decode mb_La_entry 22 = .ok (.ireturn, 1) := by decide +kernel
theorem dc_La_put_0 : decode mb_La_put 0 = .ok (.aload_n 2, 1) := by decide +kernel
theorem dc_La_put_1 : decode mb_La_put 1 = .ok (.iconst 0, 1) := by decide +kernel
theorem dc_La_put_2 : decode mb_La_put 2 = .ok (.aload_n 0, 1) := by decide +kernel
theorem dc_La_put_3 : decode mb_La_put 3 = .ok (.iload_n 1, 1) := by decide +kernel
theorem dc_La_put_4 : decode mb_La_put 4 = .ok (.invokevirtual 30, 3) := by decide +kernel
theorem dc_La_put_7 : decode mb_La_put 7 = .ok (.i2l, 1) := by decide +kernel
theorem dc_La_put_8 : decode mb_La_put 8 = .ok (.lastore, 1) := by decide +kernel
theorem dc_La_put_9 : decode mb_La_put 9 = .ok (.goto 9, 3) := by decide +kernel
theorem dc_La_put_12 : decode mb_La_put 12 = .ok (.astore_n 3, 1) := by decide +kernel
theorem dc_La_put_13 : decode mb_La_put 13 = .ok (.iconst 1, 1) := by decide +kernel
theorem dc_La_put_14 : decode mb_La_put 14 = .ok (.ireturn, 1) := by decide +kernel
theorem dc_La_put_15 : decode mb_La_put 15 = .ok (.astore_n 3, 1) := by decide +kernel
theorem dc_La_put_16 : decode mb_La_put 16 = .ok (.iconst 2, 1) := by decide +kernel
theorem dc_La_put_17 : decode mb_La_put 17 = .ok (.ireturn, 1) := by decide +kernel
theorem dc_La_put_18 : decode mb_La_put 18 = .ok (.iconst 0, 1) := by decide +kernel
theorem dc_La_put_19 : decode mb_La_put 19 = .ok (.ireturn, 1) := by decide +kernel

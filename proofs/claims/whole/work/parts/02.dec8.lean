theorem dc_La_putInt_0 : decode mb_La_putInt 0 = .ok (.aload_n 2, 1) := by decide +kernel
theorem dc_La_putInt_1 : decode mb_La_putInt 1 = .ok (.iconst 0, 1) := by decide +kernel
theorem dc_La_putInt_2 : decode mb_La_putInt 2 = .ok (.aload_n 0, 1) := by decide +kernel
theorem dc_La_putInt_3 : decode mb_La_putInt 3 = .ok (.iload_n 1, 1) := by decide +kernel
theorem dc_La_putInt_4 : decode mb_La_putInt 4 = .ok (.invokevirtual 35, 3) := by decide +kernel
theorem dc_La_putInt_7 : decode mb_La_putInt 7 = .ok (.i2l, 1) := by decide +kernel
theorem dc_La_putInt_8 : decode mb_La_putInt 8 = .ok (.lastore, 1) := by decide +kernel
theorem dc_La_putInt_9 : decode mb_La_putInt 9 = .ok (.goto 6, 3) := by decide +kernel
theorem dc_La_putInt_12 : decode mb_La_putInt 12 = .ok (.astore_n 3, 1) := by decide +kernel
theorem dc_La_putInt_13 : decode mb_La_putInt 13 = .ok (.iconst 1, 1) := by decide +kernel
theorem dc_La_putInt_14 : decode mb_La_putInt 14 = .ok (.ireturn, 1) := by decide +kernel
theorem dc_La_putInt_15 : decode mb_La_putInt 15 = .ok (.iconst 0, 1) := by decide +kernel
theorem dc_La_putInt_16 : decode mb_La_putInt 16 = .ok (.ireturn, 1) := by decide +kernel
theorem dc_La_poke_0 : decode mb_La_poke 0 = .ok (.aload_n 0, 1) := by decide +kernel
theorem dc_La_poke_1 : decode mb_La_poke 1 = .ok (.iload_n 1, 1) := by decide +kernel
theorem dc_La_poke_2 : decode mb_La_poke 2 = .ok (.iload_n 2, 1) := by decide +kernel
theorem dc_La_poke_3 : decode mb_La_poke 3 = .ok (.invokevirtual 38, 3) := by decide +kernel
theorem dc_La_poke_6 : decode mb_La_poke 6 = .ok (.goto 9, 3) := by decide +kernel
theorem dc_La_poke_9 : decode mb_La_poke 9 = .ok (.astore_n 3, 1) := by decide +kernel
theorem dc_La_poke_10 : decode mb_La_poke 10 = .ok (.iconst 1, 1) := by decide +kernel
theorem dc_La_poke_11 : decode mb_La_poke 11 = .ok (.ireturn, 1) := by decide +kernel
theorem dc_La_poke_12 : decode mb_La_poke 12 = .ok (.astore_n 3, 1) := by decide +kernel
theorem dc_La_poke_13 : decode mb_La_poke 13 = .ok (.iconst 2, 1) := by decide +kernel
theorem dc_La_poke_14 : decode mb_La_poke 14 = .ok (.ireturn, 1) := by decide +kernel
theorem dc_La_poke_15 : decode mb_La_poke 15 = .ok (.iconst 0, 1) := by decide +kernel
theorem dc_La_poke_16 : decode mb_La_poke 16 = .ok (.ireturn, 1) := by decide +kernel
theorem dc_La_frame_0 : decode mb_La_frame 0 = .ok (.aload_n 2, 1) := by decide +kernel
theorem dc_La_frame_1 : decode mb_La_frame 1 = .ok (.iconst 0, 1) := by decide +kernel
theorem dc_La_frame_2 : decode mb_La_frame 2 = .ok (.aload_n 0, 1) := by decide +kernel
theorem dc_La_frame_3 : decode mb_La_frame 3 = .ok (.iload_n 1, 1) := by decide +kernel
theorem dc_La_frame_4 : decode mb_La_frame 4 = .ok (.invokevirtual 42, 3) := by decide +kernel
theorem dc_La_frame_7 : decode mb_La_frame 7 = .ok (.i2l, 1) := by decide +kernel
theorem dc_La_frame_8 : decode mb_La_frame 8 = .ok (.lastore, 1) := by decide +kernel
theorem dc_La_frame_9 : decode mb_La_frame 9 = .ok (.goto 9, 3) := by decide +kernel
theorem dc_La_frame_12 : decode mb_La_frame 12 = .ok (.astore_n 3, 1) := by decide +kernel
theorem dc_La_frame_13 : decode mb_La_frame 13 = .ok (.iconst 1, 1) := by decide +kernel
theorem dc_La_frame_14 : decode mb_La_frame 14 = .ok (.ireturn, 1) := by decide +kernel
theorem dc_La_frame_15 : decode mb_La_frame 15 = .ok (.astore_n 3, 1) := by decide +kernel
theorem dc_La_frame_16 : decode mb_La_frame 16 = .ok (.iconst 2, 1) := by decide +kernel
theorem dc_La_frame_17 : decode mb_La_frame 17 = .ok (.ireturn, 1) := by decide +kernel
theorem dc_La_frame_18 : decode mb_La_frame 18 = .ok (.iconst 0, 1) := by decide +kernel
theorem dc_La_frame_19 : decode mb_La_frame 19 = .ok (.ireturn, 1) := by decide +kernel
theorem dc_La_ask_0 : decode mb_La_ask 0 = .ok (.aload_n 1, 1) := by decide +kernel
theorem dc_La_ask_1 : decode mb_La_ask 1 = .ok (.iconst 0, 1) := by decide +kernel
theorem dc_La_ask_2 : decode mb_La_ask 2 = .ok (.aload_n 0, 1) := by decide +kernel
theorem dc_La_ask_3 : decode mb_La_ask 3 = .ok (.invokevirtual 45, 3) := by decide +kernel
theorem dc_La_ask_6 : decode mb_La_ask 6 = .ok (.i2l, 1) := by decide +kernel
theorem dc_La_ask_7 : decode mb_La_ask 7 = .ok (.lastore, 1) := by decide +kernel
theorem dc_La_ask_8 : decode mb_La_ask 8 = .ok (.goto 6, 3) := by decide +kernel
theorem dc_La_ask_11 : decode mb_La_ask 11 = .ok (.astore_n 2, 1) := by decide +kernel
theorem dc_La_ask_12 : decode mb_La_ask 12 = .ok (.iconst 1, 1) := by decide +kernel
theorem dc_La_ask_13 : decode mb_La_ask 13 = .ok (.ireturn, 1) := by decide +kernel
theorem dc_La_ask_14 : decode mb_La_ask 14 = .ok (.iconst 0, 1) := by decide +kernel
theorem dc_La_ask_15 : decode mb_La_ask 15 = .ok (.ireturn, 1) := by decide +kernel
theorem dc_La_reply_0 : decode mb_La_reply 0 = .ok (.aload_n 2, 1) := by decide +kernel
theorem dc_La_reply_1 : decode mb_La_reply 1 = .ok (.iconst 0, 1) := by decide +kernel
theorem dc_La_reply_2 : decode mb_La_reply 2 = .ok (.aload_n 0, 1) := by decide +kernel
theorem dc_La_reply_3 : decode mb_La_reply 3 = .ok (.iload_n 1, 1) := by decide +kernel
theorem dc_La_reply_4 : decode mb_La_reply 4 = .ok (.invokevirtual 49, 3) := by decide +kernel
theorem dc_La_reply_7 : decode mb_La_reply 7 = .ok (.i2l, 1) := by decide +kernel
theorem dc_La_reply_8 : decode mb_La_reply 8 = .ok (.lastore, 1) := by decide +kernel
theorem dc_La_reply_9 : decode mb_La_reply 9 = .ok (.goto 6, 3) := by decide +kernel
theorem dc_La_reply_12 : decode mb_La_reply 12 = .ok (.astore_n 3, 1) := by decide +kernel
theorem dc_La_reply_13 : decode mb_La_reply 13 = .ok (.iconst 1, 1) := by decide +kernel
theorem dc_La_reply_14 : decode mb_La_reply 14 = .ok (.ireturn, 1) := by decide +kernel
theorem dc_La_reply_15 : decode mb_La_reply 15 = .ok (.iconst 0, 1) := by decide +kernel
theorem dc_La_reply_16 : decode mb_La_reply 16 = .ok (.ireturn, 1) := by decide +kernel
theorem dc_La_law_0 : decode mb_La_law 0 = .ok (.new 8, 3) := by decide +kernel
theorem dc_La_law_3 : decode mb_La_law 3 = .ok (.dup, 1) := by decide +kernel
theorem dc_La_law_4 : decode mb_La_law 4 = .ok (.aload_n 0, 1) := by decide +kernel
theorem dc_La_law_5 : decode mb_La_law 5 = .ok (.iconst 0, 1) := by decide +kernel
theorem dc_La_law_6 : decode mb_La_law 6 = .ok (.invokestatic 52, 3) := by decide +kernel
theorem dc_La_law_9 : decode mb_La_law 9 = .ok (.aload_n 0, 1) := by decide +kernel
theorem dc_La_law_10 : decode mb_La_law 10 = .ok (.iconst 1, 1) := by decide +kernel
theorem dc_La_law_11 : decode mb_La_law 11 = .ok (.invokestatic 52, 3) := by decide +kernel
theorem dc_La_law_14 : decode mb_La_law 14 = .ok (.invokespecial 58, 3) := by decide +kernel
theorem dc_La_law_17 : decode mb_La_law 17 = .ok (.astore_n 1, 1) := by decide +kernel
theorem dc_La_law_18 : decode mb_La_law 18 = .ok (.new 60, 3) := by decide +kernel
theorem dc_La_law_21 : decode mb_La_law 21 = .ok (.dup, 1) := by decide +kernel
theorem dc_La_law_22 : decode mb_La_law 22 = .ok (.aload_n 0, 1) := by decide +kernel
theorem dc_La_law_23 : decode mb_La_law 23 = .ok (.iconst 0, 1) := by decide +kernel
theorem dc_La_law_24 : decode mb_La_law 24 = .ok (.invokestatic 52, 3) := by decide +kernel
theorem dc_La_law_27 : decode mb_La_law 27 = .ok (.aload_n 0, 1) := by decide +kernel
theorem dc_La_law_28 : decode mb_La_law 28 = .ok (.iconst 1, 1) := by decide +kernel
theorem dc_La_law_29 : decode mb_La_law 29 = .ok (.invokestatic 52, 3) := by decide +kernel
theorem dc_La_law_32 : decode mb_La_law 32 = .ok (.invokespecial 62, 3) := by decide +kernel
theorem dc_La_law_35 : decode mb_La_law 35 = .ok (.astore_n 2, 1) := by decide +kernel
theorem dc_La_law_36 : decode mb_La_law 36 = .ok (.iconst 1, 1) := by decide +kernel
theorem dc_La_law_37 : decode mb_La_law 37 = .ok (.newarray .long, 2) := by decide +kernel
theorem dc_La_law_39 : decode mb_La_law 39 = .ok (.astore_n 3, 1) := by decide +kernel
theorem dc_La_law_40 : decode mb_La_law 40 = .ok (.iconst 2, 1) := by decide +kernel
theorem dc_La_law_41 : decode mb_La_law 41 = .ok (.istore 4, 2) := by decide +kernel
theorem dc_La_law_43 : decode mb_La_law 43 = .ok (.iload 4, 2) := by decide +kernel
theorem dc_La_law_45 : decode mb_La_law 45 = .ok (.aload_n 0, 1) := by decide +kernel
theorem dc_La_law_46 : decode mb_La_law 46 = .ok (.arraylength, 1) := by decide +kernel
theorem dc_La_law_47 : decode mb_La_law 47 = .ok (.iconst 3, 1) := by decide +kernel
theorem dc_La_law_48 : decode mb_La_law 48 = .ok (.isub, 1) := by decide +kernel
theorem dc_La_law_49 : decode mb_La_law 49 = .ok (.if_icmp .gt 724, 3) := by decide +kernel
theorem dc_La_law_52 : decode mb_La_law 52 = .ok (.aload_n 0, 1) := by decide +kernel
theorem dc_La_law_53 : decode mb_La_law 53 = .ok (.iload 4, 2) := by decide +kernel
theorem dc_La_law_55 : decode mb_La_law 55 = .ok (.iaload, 1) := by decide +kernel
theorem dc_La_law_56 : decode mb_La_law 56 = .ok (.bipush 15, 2) := by decide +kernel
theorem dc_La_law_58 : decode mb_La_law 58 = .ok (.iand, 1) := by decide +kernel
theorem dc_La_law_59 : decode mb_La_law 59 = .ok (.tableswitch 708 0 14 #[73, 109, 177, 190, 246, 259, 327, 340, 396, 452, 500, 556, 600, 611, 652], 73) := by decide +kernel
theorem dc_La_law_132 : decode mb_La_law 132 = .ok (.aload_n 1, 1) := by decide +kernel
theorem dc_La_law_133 : decode mb_La_law 133 = .ok (.aload_n 0, 1) := by decide +kernel
theorem dc_La_law_134 : decode mb_La_law 134 = .ok (.iload 4, 2) := by decide +kernel
theorem dc_La_law_136 : decode mb_La_law 136 = .ok (.iconst 1, 1) := by decide +kernel
theorem dc_La_law_137 : decode mb_La_law 137 = .ok (.iadd, 1) := by decide +kernel
theorem dc_La_law_138 : decode mb_La_law 138 = .ok (.iaload, 1) := by decide +kernel
theorem dc_La_law_139 : decode mb_La_law 139 = .ok (.invokestatic 63, 3) := by decide +kernel
theorem dc_La_law_142 : decode mb_La_law 142 = .ok (.istore 5, 2) := by decide +kernel
theorem dc_La_law_144 : decode mb_La_law 144 = .ok (.aload_n 2, 1) := by decide +kernel
theorem dc_La_law_145 : decode mb_La_law 145 = .ok (.aload_n 0, 1) := by decide +kernel
theorem dc_La_law_146 : decode mb_La_law 146 = .ok (.iload 4, 2) := by decide +kernel
theorem dc_La_law_148 : decode mb_La_law 148 = .ok (.iconst 1, 1) := by decide +kernel
theorem dc_La_law_149 : decode mb_La_law 149 = .ok (.iadd, 1) := by decide +kernel
theorem dc_La_law_150 : decode mb_La_law 150 = .ok (.iaload, 1) := by decide +kernel
theorem dc_La_law_151 : decode mb_La_law 151 = .ok (.invokevirtual 66, 3) := by decide +kernel
theorem dc_La_law_154 : decode mb_La_law 154 = .ok (.aload_n 2, 1) := by decide +kernel
theorem dc_La_law_155 : decode mb_La_law 155 = .ok (.invokevirtual 67, 3) := by decide +kernel
theorem dc_La_law_158 : decode mb_La_law 158 = .ok (.iload 5, 2) := by decide +kernel
theorem dc_La_law_160 : decode mb_La_law 160 = .ok (.if_icmp .eq 5, 3) := by decide +kernel
theorem dc_La_law_163 : decode mb_La_law 163 = .ok (.iconst 0, 1) := by decide +kernel
theorem dc_La_law_164 : decode mb_La_law 164 = .ok (.ireturn, 1) := by decide +kernel
theorem dc_La_law_165 : decode mb_La_law 165 = .ok (.goto 602, 3) := by decide +kernel
theorem dc_La_law_168 : decode mb_La_law 168 = .ok (.aload_n 1, 1) := by decide +kernel
theorem dc_La_law_169 : decode mb_La_law 169 = .ok (.aload_n 0, 1) := by decide +kernel
theorem dc_La_law_170 : decode mb_La_law 170 = .ok (.iload 4, 2) := by decide +kernel
theorem dc_La_law_172 : decode mb_La_law 172 = .ok (.iconst 1, 1) := by decide +kernel
theorem dc_La_law_173 : decode mb_La_law 173 = .ok (.iadd, 1) := by decide +kernel
theorem dc_La_law_174 : decode mb_La_law 174 = .ok (.iaload, 1) := by decide +kernel
theorem dc_La_law_175 : decode mb_La_law 175 = .ok (.aload_n 0, 1) := by decide +kernel
theorem dc_La_law_176 : decode mb_La_law 176 = .ok (.iload 4, 2) := by decide +kernel
theorem dc_La_law_178 : decode mb_La_law 178 = .ok (.iconst 2, 1) := by decide +kernel
theorem dc_La_law_179 : decode mb_La_law 179 = .ok (.iadd, 1) := by decide +kernel
theorem dc_La_law_180 : decode mb_La_law 180 = .ok (.iaload, 1) := by decide +kernel
theorem dc_La_law_181 : decode mb_La_law 181 = .ok (.aload_n 3, 1) := by decide +kernel
theorem dc_La_law_182 : decode mb_La_law 182 = .ok (.invokestatic 70, 3) := by decide +kernel
theorem dc_La_law_185 : decode mb_La_law 185 = .ok (.istore 5, 2) := by decide +kernel
theorem dc_La_law_187 : decode mb_La_law 187 = .ok (.aload_n 2, 1) := by decide +kernel
theorem dc_La_law_188 : decode mb_La_law 188 = .ok (.aload_n 0, 1) := by decide +kernel
theorem dc_La_law_189 : decode mb_La_law 189 = .ok (.iload 4, 2) := by decide +kernel
theorem dc_La_law_191 : decode mb_La_law 191 = .ok (.iconst 1, 1) := by decide +kernel
theorem dc_La_law_192 : decode mb_La_law 192 = .ok (.iadd, 1) := by decide +kernel
theorem dc_La_law_193 : decode mb_La_law 193 = .ok (.iaload, 1) := by decide +kernel
theorem dc_La_law_194 : decode mb_La_law 194 = .ok (.aload_n 0, 1) := by decide +kernel
theorem dc_La_law_195 : decode mb_La_law 195 = .ok (.iload 4, 2) := by decide +kernel
theorem dc_La_law_197 : decode mb_La_law 197 = .ok (.iconst 2, 1) := by decide +kernel
theorem dc_La_law_198 : decode mb_La_law 198 = .ok (.iadd, 1) := by decide +kernel
theorem dc_La_law_199 : decode mb_La_law 199 = .ok (.iaload, 1) := by decide +kernel
theorem dc_La_law_200 : decode mb_La_law 200 = .ok (.invokevirtual 73, 3) := by decide +kernel
theorem dc_La_law_203 : decode mb_La_law 203 = .ok (.istore 6, 2) := by decide +kernel
theorem dc_La_law_205 : decode mb_La_law 205 = .ok (.aload_n 2, 1) := by decide +kernel
theorem dc_La_law_206 : decode mb_La_law 206 = .ok (.invokevirtual 67, 3) := by decide +kernel
theorem dc_La_law_209 : decode mb_La_law 209 = .ok (.iload 5, 2) := by decide +kernel
theorem dc_La_law_211 : decode mb_La_law 211 = .ok (.if_icmp .eq 5, 3) := by decide +kernel
theorem dc_La_law_214 : decode mb_La_law 214 = .ok (.iconst 0, 1) := by decide +kernel
theorem dc_La_law_215 : decode mb_La_law 215 = .ok (.ireturn, 1) := by decide +kernel
theorem dc_La_law_216 : decode mb_La_law 216 = .ok (.iload 5, 2) := by decide +kernel
theorem dc_La_law_218 : decode mb_La_law 218 = .ok (.ifCond .ne 15, 3) := by decide +kernel
theorem dc_La_law_221 : decode mb_La_law 221 = .ok (.aload_n 3, 1) := by decide +kernel
theorem dc_La_law_222 : decode mb_La_law 222 = .ok (.iconst 0, 1) := by decide +kernel
theorem dc_La_law_223 : decode mb_La_law 223 = .ok (.laload, 1) := by decide +kernel
theorem dc_La_law_224 : decode mb_La_law 224 = .ok (.iload 6, 2) := by decide +kernel
theorem dc_La_law_226 : decode mb_La_law 226 = .ok (.i2l, 1) := by decide +kernel
theorem dc_La_law_227 : decode mb_La_law 227 = .ok (.lcmp, 1) := by decide +kernel
theorem dc_La_law_228 : decode mb_La_law 228 = .ok (.ifCond .eq 5, 3) := by decide +kernel
theorem dc_La_law_231 : decode mb_La_law 231 = .ok (.iconst 0, 1) := by decide +kernel
theorem dc_La_law_232 : decode mb_La_law 232 = .ok (.ireturn, 1) := by decide +kernel
theorem dc_La_law_233 : decode mb_La_law 233 = .ok (.goto 534, 3) := by decide +kernel
theorem dc_La_law_236 : decode mb_La_law 236 = .ok (.aload_n 1, 1) := by decide +kernel
theorem dc_La_law_237 : decode mb_La_law 237 = .ok (.invokevirtual 74, 3) := by decide +kernel
theorem dc_La_law_240 : decode mb_La_law 240 = .ok (.aload_n 2, 1) := by decide +kernel
theorem dc_La_law_241 : decode mb_La_law 241 = .ok (.invokevirtual 77, 3) := by decide +kernel
theorem dc_La_law_244 : decode mb_La_law 244 = .ok (.if_icmp .eq 523, 3) := by decide +kernel
theorem dc_La_law_247 : decode mb_La_law 247 = .ok (.iconst 0, 1) := by decide +kernel
theorem dc_La_law_248 : decode mb_La_law 248 = .ok (.ireturn, 1) := by decide +kernel
theorem dc_La_law_249 : decode mb_La_law 249 = .ok (.aload_n 1, 1) := by decide +kernel
theorem dc_La_law_250 : decode mb_La_law 250 = .ok (.aload_n 0, 1) := by decide +kernel
theorem dc_La_law_251 : decode mb_La_law 251 = .ok (.iload 4, 2) := by decide +kernel
theorem dc_La_law_253 : decode mb_La_law 253 = .ok (.iconst 1, 1) := by decide +kernel
theorem dc_La_law_254 : decode mb_La_law 254 = .ok (.iadd, 1) := by decide +kernel
theorem dc_La_law_255 : decode mb_La_law 255 = .ok (.iaload, 1) := by decide +kernel
theorem dc_La_law_256 : decode mb_La_law 256 = .ok (.aload_n 3, 1) := by decide +kernel
theorem dc_La_law_257 : decode mb_La_law 257 = .ok (.invokestatic 78, 3) := by decide +kernel
theorem dc_La_law_260 : decode mb_La_law 260 = .ok (.istore 5, 2) := by decide +kernel
theorem dc_La_law_262 : decode mb_La_law 262 = .ok (.aload_n 2, 1) := by decide +kernel
theorem dc_La_law_263 : decode mb_La_law 263 = .ok (.aload_n 0, 1) := by decide +kernel
theorem dc_La_law_264 : decode mb_La_law 264 = .ok (.iload 4, 2) := by decide +kernel
theorem dc_La_law_266 : decode mb_La_law 266 = .ok (.iconst 1, 1) := by decide +kernel
theorem dc_La_law_267 : decode mb_La_law 267 = .ok (.iadd, 1) := by decide +kernel
theorem dc_La_law_268 : decode mb_La_law 268 = .ok (.iaload, 1) := by decide +kernel
theorem dc_La_law_269 : decode mb_La_law 269 = .ok (.invokevirtual 81, 3) := by decide +kernel
theorem dc_La_law_272 : decode mb_La_law 272 = .ok (.istore 6, 2) := by decide +kernel
theorem dc_La_law_274 : decode mb_La_law 274 = .ok (.aload_n 2, 1) := by decide +kernel
theorem dc_La_law_275 : decode mb_La_law 275 = .ok (.invokevirtual 67, 3) := by decide +kernel
theorem dc_La_law_278 : decode mb_La_law 278 = .ok (.iload 5, 2) := by decide +kernel
theorem dc_La_law_280 : decode mb_La_law 280 = .ok (.if_icmp .eq 5, 3) := by decide +kernel
theorem dc_La_law_283 : decode mb_La_law 283 = .ok (.iconst 0, 1) := by decide +kernel
theorem dc_La_law_284 : decode mb_La_law 284 = .ok (.ireturn, 1) := by decide +kernel
theorem dc_La_law_285 : decode mb_La_law 285 = .ok (.iload 5, 2) := by decide +kernel
theorem dc_La_law_287 : decode mb_La_law 287 = .ok (.ifCond .ne 15, 3) := by decide +kernel
theorem dc_La_law_290 : decode mb_La_law 290 = .ok (.aload_n 3, 1) := by decide +kernel
theorem dc_La_law_291 : decode mb_La_law 291 = .ok (.iconst 0, 1) := by decide +kernel
theorem dc_La_law_292 : decode mb_La_law 292 = .ok (.laload, 1) := by decide +kernel
theorem dc_La_law_293 : decode mb_La_law 293 = .ok (.iload 6, 2) := by decide +kernel
theorem dc_La_law_295 : decode mb_La_law 295 = .ok (.i2l, 1) := by decide +kernel
theorem dc_La_law_296 : decode mb_La_law 296 = .ok (.lcmp, 1) := by decide +kernel
theorem dc_La_law_297 : decode mb_La_law 297 = .ok (.ifCond .eq 5, 3) := by decide +kernel
theorem dc_La_law_300 : decode mb_La_law 300 = .ok (.iconst 0, 1) := by decide +kernel
theorem dc_La_law_301 : decode mb_La_law 301 = .ok (.ireturn, 1) := by decide +kernel
theorem dc_La_law_302 : decode mb_La_law 302 = .ok (.goto 465, 3) := by decide +kernel
theorem dc_La_law_305 : decode mb_La_law 305 = .ok (.aload_n 1, 1) := by decide +kernel
theorem dc_La_law_306 : decode mb_La_law 306 = .ok (.invokevirtual 82, 3) := by decide +kernel
theorem dc_La_law_309 : decode mb_La_law 309 = .ok (.aload_n 2, 1) := by decide +kernel
theorem dc_La_law_310 : decode mb_La_law 310 = .ok (.invokevirtual 85, 3) := by decide +kernel
theorem dc_La_law_313 : decode mb_La_law 313 = .ok (.if_icmp .eq 454, 3) := by decide +kernel
theorem dc_La_law_316 : decode mb_La_law 316 = .ok (.iconst 0, 1) := by decide +kernel
theorem dc_La_law_317 : decode mb_La_law 317 = .ok (.ireturn, 1) := by decide +kernel
theorem dc_La_law_318 : decode mb_La_law 318 = .ok (.aload_n 1, 1) := by decide +kernel
theorem dc_La_law_319 : decode mb_La_law 319 = .ok (.aload_n 0, 1) := by decide +kernel
theorem dc_La_law_320 : decode mb_La_law 320 = .ok (.iload 4, 2) := by decide +kernel
theorem dc_La_law_322 : decode mb_La_law 322 = .ok (.iconst 1, 1) := by decide +kernel
theorem dc_La_law_323 : decode mb_La_law 323 = .ok (.iadd, 1) := by decide +kernel
theorem dc_La_law_324 : decode mb_La_law 324 = .ok (.iaload, 1) := by decide +kernel
theorem dc_La_law_325 : decode mb_La_law 325 = .ok (.aload_n 0, 1) := by decide +kernel
theorem dc_La_law_326 : decode mb_La_law 326 = .ok (.iload 4, 2) := by decide +kernel
theorem dc_La_law_328 : decode mb_La_law 328 = .ok (.iconst 2, 1) := by decide +kernel
theorem dc_La_law_329 : decode mb_La_law 329 = .ok (.iadd, 1) := by decide +kernel
theorem dc_La_law_330 : decode mb_La_law 330 = .ok (.iaload, 1) := by decide +kernel
theorem dc_La_law_331 : decode mb_La_law 331 = .ok (.aload_n 3, 1) := by decide +kernel
theorem dc_La_law_332 : decode mb_La_law 332 = .ok (.invokestatic 86, 3) := by decide +kernel
theorem dc_La_law_335 : decode mb_La_law 335 = .ok (.istore 5, 2) := by decide +kernel
theorem dc_La_law_337 : decode mb_La_law 337 = .ok (.aload_n 2, 1) := by decide +kernel
theorem dc_La_law_338 : decode mb_La_law 338 = .ok (.aload_n 0, 1) := by decide +kernel
theorem dc_La_law_339 : decode mb_La_law 339 = .ok (.iload 4, 2) := by decide +kernel
theorem dc_La_law_341 : decode mb_La_law 341 = .ok (.iconst 1, 1) := by decide +kernel
theorem dc_La_law_342 : decode mb_La_law 342 = .ok (.iadd, 1) := by decide +kernel
theorem dc_La_law_343 : decode mb_La_law 343 = .ok (.iaload, 1) := by decide +kernel
theorem dc_La_law_344 : decode mb_La_law 344 = .ok (.aload_n 0, 1) := by decide +kernel
theorem dc_La_law_345 : decode mb_La_law 345 = .ok (.iload 4, 2) := by decide +kernel
theorem dc_La_law_347 : decode mb_La_law 347 = .ok (.iconst 2, 1) := by decide +kernel
theorem dc_La_law_348 : decode mb_La_law 348 = .ok (.iadd, 1) := by decide +kernel
theorem dc_La_law_349 : decode mb_La_law 349 = .ok (.iaload, 1) := by decide +kernel
theorem dc_La_law_350 : decode mb_La_law 350 = .ok (.invokevirtual 88, 3) := by decide +kernel
theorem dc_La_law_353 : decode mb_La_law 353 = .ok (.istore 6, 2) := by decide +kernel
theorem dc_La_law_355 : decode mb_La_law 355 = .ok (.aload_n 2, 1) := by decide +kernel
theorem dc_La_law_356 : decode mb_La_law 356 = .ok (.invokevirtual 67, 3) := by decide +kernel
theorem dc_La_law_359 : decode mb_La_law 359 = .ok (.iload 5, 2) := by decide +kernel
theorem dc_La_law_361 : decode mb_La_law 361 = .ok (.if_icmp .eq 5, 3) := by decide +kernel
theorem dc_La_law_364 : decode mb_La_law 364 = .ok (.iconst 0, 1) := by decide +kernel
theorem dc_La_law_365 : decode mb_La_law 365 = .ok (.ireturn, 1) := by decide +kernel
theorem dc_La_law_366 : decode mb_La_law 366 = .ok (.iload 5, 2) := by decide +kernel
theorem dc_La_law_368 : decode mb_La_law 368 = .ok (.ifCond .ne 15, 3) := by decide +kernel
theorem dc_La_law_371 : decode mb_La_law 371 = .ok (.aload_n 3, 1) := by decide +kernel
theorem dc_La_law_372 : decode mb_La_law 372 = .ok (.iconst 0, 1) := by decide +kernel
theorem dc_La_law_373 : decode mb_La_law 373 = .ok (.laload, 1) := by decide +kernel
theorem dc_La_law_374 : decode mb_La_law 374 = .ok (.iload 6, 2) := by decide +kernel
theorem dc_La_law_376 : decode mb_La_law 376 = .ok (.i2l, 1) := by decide +kernel
theorem dc_La_law_377 : decode mb_La_law 377 = .ok (.lcmp, 1) := by decide +kernel
theorem dc_La_law_378 : decode mb_La_law 378 = .ok (.ifCond .eq 5, 3) := by decide +kernel
theorem dc_La_law_381 : decode mb_La_law 381 = .ok (.iconst 0, 1) := by decide +kernel
theorem dc_La_law_382 : decode mb_La_law 382 = .ok (.ireturn, 1) := by decide +kernel
theorem dc_La_law_383 : decode mb_La_law 383 = .ok (.goto 384, 3) := by decide +kernel
theorem dc_La_law_386 : decode mb_La_law 386 = .ok (.aload_n 1, 1) := by decide +kernel
theorem dc_La_law_387 : decode mb_La_law 387 = .ok (.invokevirtual 89, 3) := by decide +kernel
theorem dc_La_law_390 : decode mb_La_law 390 = .ok (.aload_n 2, 1) := by decide +kernel
theorem dc_La_law_391 : decode mb_La_law 391 = .ok (.invokevirtual 92, 3) := by decide +kernel
theorem dc_La_law_394 : decode mb_La_law 394 = .ok (.if_icmp .eq 373, 3) := by decide +kernel
theorem dc_La_law_397 : decode mb_La_law 397 = .ok (.iconst 0, 1) := by decide +kernel
theorem dc_La_law_398 : decode mb_La_law 398 = .ok (.ireturn, 1) := by decide +kernel
theorem dc_La_law_399 : decode mb_La_law 399 = .ok (.aload_n 1, 1) := by decide +kernel
theorem dc_La_law_400 : decode mb_La_law 400 = .ok (.aload_n 0, 1) := by decide +kernel
theorem dc_La_law_401 : decode mb_La_law 401 = .ok (.iload 4, 2) := by decide +kernel
theorem dc_La_law_403 : decode mb_La_law 403 = .ok (.iconst 1, 1) := by decide +kernel
theorem dc_La_law_404 : decode mb_La_law 404 = .ok (.iadd, 1) := by decide +kernel
theorem dc_La_law_405 : decode mb_La_law 405 = .ok (.iaload, 1) := by decide +kernel
theorem dc_La_law_406 : decode mb_La_law 406 = .ok (.aload_n 3, 1) := by decide +kernel
theorem dc_La_law_407 : decode mb_La_law 407 = .ok (.invokestatic 93, 3) := by decide +kernel
theorem dc_La_law_410 : decode mb_La_law 410 = .ok (.istore 5, 2) := by decide +kernel
theorem dc_La_law_412 : decode mb_La_law 412 = .ok (.aload_n 2, 1) := by decide +kernel
theorem dc_La_law_413 : decode mb_La_law 413 = .ok (.aload_n 0, 1) := by decide +kernel
theorem dc_La_law_414 : decode mb_La_law 414 = .ok (.iload 4, 2) := by decide +kernel
theorem dc_La_law_416 : decode mb_La_law 416 = .ok (.iconst 1, 1) := by decide +kernel
theorem dc_La_law_417 : decode mb_La_law 417 = .ok (.iadd, 1) := by decide +kernel
theorem dc_La_law_418 : decode mb_La_law 418 = .ok (.iaload, 1) := by decide +kernel
theorem dc_La_law_419 : decode mb_La_law 419 = .ok (.invokevirtual 95, 3) := by decide +kernel
theorem dc_La_law_422 : decode mb_La_law 422 = .ok (.istore 6, 2) := by decide +kernel
theorem dc_La_law_424 : decode mb_La_law 424 = .ok (.aload_n 2, 1) := by decide +kernel
theorem dc_La_law_425 : decode mb_La_law 425 = .ok (.invokevirtual 67, 3) := by decide +kernel
theorem dc_La_law_428 : decode mb_La_law 428 = .ok (.iload 5, 2) := by decide +kernel
theorem dc_La_law_430 : decode mb_La_law 430 = .ok (.if_icmp .eq 5, 3) := by decide +kernel
theorem dc_La_law_433 : decode mb_La_law 433 = .ok (.iconst 0, 1) := by decide +kernel
theorem dc_La_law_434 : decode mb_La_law 434 = .ok (.ireturn, 1) := by decide +kernel
theorem dc_La_law_435 : decode mb_La_law 435 = .ok (.iload 5, 2) := by decide +kernel
theorem dc_La_law_437 : decode mb_La_law 437 = .ok (.ifCond .ne 15, 3) := by decide +kernel
theorem dc_La_law_440 : decode mb_La_law 440 = .ok (.aload_n 3, 1) := by decide +kernel
theorem dc_La_law_441 : decode mb_La_law 441 = .ok (.iconst 0, 1) := by decide +kernel
theorem dc_La_law_442 : decode mb_La_law 442 = .ok (.laload, 1) := by decide +kernel
theorem dc_La_law_443 : decode mb_La_law 443 = .ok (.iload 6, 2) := by decide +kernel
theorem dc_La_law_445 : decode mb_La_law 445 = .ok (.i2l, 1) := by decide +kernel
theorem dc_La_law_446 : decode mb_La_law 446 = .ok (.lcmp, 1) := by decide +kernel
theorem dc_La_law_447 : decode mb_La_law 447 = .ok (.ifCond .eq 5, 3) := by decide +kernel
theorem dc_La_law_450 : decode mb_La_law 450 = .ok (.iconst 0, 1) := by decide +kernel
theorem dc_La_law_451 : decode mb_La_law 451 = .ok (.ireturn, 1) := by decide +kernel
theorem dc_La_law_452 : decode mb_La_law 452 = .ok (.goto 315, 3) := by decide +kernel
theorem dc_La_law_455 : decode mb_La_law 455 = .ok (.aload_n 1, 1) := by decide +kernel
theorem dc_La_law_456 : decode mb_La_law 456 = .ok (.aload_n 0, 1) := by decide +kernel
theorem dc_La_law_457 : decode mb_La_law 457 = .ok (.iload 4, 2) := by decide +kernel
theorem dc_La_law_459 : decode mb_La_law 459 = .ok (.iconst 1, 1) := by decide +kernel
theorem dc_La_law_460 : decode mb_La_law 460 = .ok (.iadd, 1) := by decide +kernel
theorem dc_La_law_461 : decode mb_La_law 461 = .ok (.iaload, 1) := by decide +kernel
theorem dc_La_law_462 : decode mb_La_law 462 = .ok (.aload_n 3, 1) := by decide +kernel
theorem dc_La_law_463 : decode mb_La_law 463 = .ok (.invokestatic 96, 3) := by decide +kernel
theorem dc_La_law_466 : decode mb_La_law 466 = .ok (.istore 5, 2) := by decide +kernel
theorem dc_La_law_468 : decode mb_La_law 468 = .ok (.aload_n 2, 1) := by decide +kernel
theorem dc_La_law_469 : decode mb_La_law 469 = .ok (.aload_n 0, 1) := by decide +kernel
theorem dc_La_law_470 : decode mb_La_law 470 = .ok (.iload 4, 2) := by decide +kernel
theorem dc_La_law_472 : decode mb_La_law 472 = .ok (.iconst 1, 1) := by decide +kernel
theorem dc_La_law_473 : decode mb_La_law 473 = .ok (.iadd, 1) := by decide +kernel
theorem dc_La_law_474 : decode mb_La_law 474 = .ok (.iaload, 1) := by decide +kernel
theorem dc_La_law_475 : decode mb_La_law 475 = .ok (.invokevirtual 98, 3) := by decide +kernel
theorem dc_La_law_478 : decode mb_La_law 478 = .ok (.istore 6, 2) := by decide +kernel
theorem dc_La_law_480 : decode mb_La_law 480 = .ok (.aload_n 2, 1) := by decide +kernel
theorem dc_La_law_481 : decode mb_La_law 481 = .ok (.invokevirtual 67, 3) := by decide +kernel
theorem dc_La_law_484 : decode mb_La_law 484 = .ok (.iload 5, 2) := by decide +kernel
theorem dc_La_law_486 : decode mb_La_law 486 = .ok (.if_icmp .eq 5, 3) := by decide +kernel
theorem dc_La_law_489 : decode mb_La_law 489 = .ok (.iconst 0, 1) := by decide +kernel
theorem dc_La_law_490 : decode mb_La_law 490 = .ok (.ireturn, 1) := by decide +kernel
theorem dc_La_law_491 : decode mb_La_law 491 = .ok (.iload 5, 2) := by decide +kernel
theorem dc_La_law_493 : decode mb_La_law 493 = .ok (.ifCond .ne 15, 3) := by decide +kernel
theorem dc_La_law_496 : decode mb_La_law 496 = .ok (.aload_n 3, 1) := by decide +kernel
theorem dc_La_law_497 : decode mb_La_law 497 = .ok (.iconst 0, 1) := by decide +kernel
theorem dc_La_law_498 : decode mb_La_law 498 = .ok (.laload, 1) := by decide +kernel
theorem dc_La_law_499 : decode mb_La_law 499 = .ok (.iload 6, 2) := by decide +kernel
theorem dc_La_law_501 : decode mb_La_law 501 = .ok (.i2l, 1) := by decide +kernel
theorem dc_La_law_502 : decode mb_La_law 502 = .ok (.lcmp, 1) := by decide +kernel
theorem dc_La_law_503 : decode mb_La_law 503 = .ok (.ifCond .eq 5, 3) := by decide +kernel
theorem dc_La_law_506 : decode mb_La_law 506 = .ok (.iconst 0, 1) := by decide +kernel
theorem dc_La_law_507 : decode mb_La_law 507 = .ok (.ireturn, 1) := by decide +kernel
theorem dc_La_law_508 : decode mb_La_law 508 = .ok (.goto 259, 3) := by decide +kernel
theorem dc_La_law_511 : decode mb_La_law 511 = .ok (.aload_n 1, 1) := by decide +kernel
theorem dc_La_law_512 : decode mb_La_law 512 = .ok (.aload_n 0, 1) := by decide +kernel
theorem dc_La_law_513 : decode mb_La_law 513 = .ok (.iload 4, 2) := by decide +kernel
theorem dc_La_law_515 : decode mb_La_law 515 = .ok (.iconst 1, 1) := by decide +kernel
theorem dc_La_law_516 : decode mb_La_law 516 = .ok (.iadd, 1) := by decide +kernel
theorem dc_La_law_517 : decode mb_La_law 517 = .ok (.iaload, 1) := by decide +kernel
theorem dc_La_law_518 : decode mb_La_law 518 = .ok (.aload_n 0, 1) := by decide +kernel
theorem dc_La_law_519 : decode mb_La_law 519 = .ok (.iload 4, 2) := by decide +kernel
theorem dc_La_law_521 : decode mb_La_law 521 = .ok (.iconst 2, 1) := by decide +kernel
theorem dc_La_law_522 : decode mb_La_law 522 = .ok (.iadd, 1) := by decide +kernel
theorem dc_La_law_523 : decode mb_La_law 523 = .ok (.iaload, 1) := by decide +kernel
theorem dc_La_law_524 : decode mb_La_law 524 = .ok (.invokestatic 99, 3) := by decide +kernel
theorem dc_La_law_527 : decode mb_La_law 527 = .ok (.istore 5, 2) := by decide +kernel
theorem dc_La_law_529 : decode mb_La_law 529 = .ok (.aload_n 2, 1) := by decide +kernel
theorem dc_La_law_530 : decode mb_La_law 530 = .ok (.aload_n 0, 1) := by decide +kernel
theorem dc_La_law_531 : decode mb_La_law 531 = .ok (.iload 4, 2) := by decide +kernel
theorem dc_La_law_533 : decode mb_La_law 533 = .ok (.iconst 1, 1) := by decide +kernel
theorem dc_La_law_534 : decode mb_La_law 534 = .ok (.iadd, 1) := by decide +kernel
theorem dc_La_law_535 : decode mb_La_law 535 = .ok (.iaload, 1) := by decide +kernel
theorem dc_La_law_536 : decode mb_La_law 536 = .ok (.aload_n 0, 1) := by decide +kernel
theorem dc_La_law_537 : decode mb_La_law 537 = .ok (.iload 4, 2) := by decide +kernel
theorem dc_La_law_539 : decode mb_La_law 539 = .ok (.iconst 2, 1) := by decide +kernel
theorem dc_La_law_540 : decode mb_La_law 540 = .ok (.iadd, 1) := by decide +kernel
theorem dc_La_law_541 : decode mb_La_law 541 = .ok (.iaload, 1) := by decide +kernel
theorem dc_La_law_542 : decode mb_La_law 542 = .ok (.invokevirtual 102, 3) := by decide +kernel
theorem dc_La_law_545 : decode mb_La_law 545 = .ok (.aload_n 2, 1) := by decide +kernel
theorem dc_La_law_546 : decode mb_La_law 546 = .ok (.invokevirtual 67, 3) := by decide +kernel
theorem dc_La_law_549 : decode mb_La_law 549 = .ok (.iload 5, 2) := by decide +kernel
theorem dc_La_law_551 : decode mb_La_law 551 = .ok (.if_icmp .eq 5, 3) := by decide +kernel
theorem dc_La_law_554 : decode mb_La_law 554 = .ok (.iconst 0, 1) := by decide +kernel
theorem dc_La_law_555 : decode mb_La_law 555 = .ok (.ireturn, 1) := by decide +kernel
theorem dc_La_law_556 : decode mb_La_law 556 = .ok (.goto 211, 3) := by decide +kernel
theorem dc_La_law_559 : decode mb_La_law 559 = .ok (.aload_n 1, 1) := by decide +kernel
theorem dc_La_law_560 : decode mb_La_law 560 = .ok (.aload_n 0, 1) := by decide +kernel
theorem dc_La_law_561 : decode mb_La_law 561 = .ok (.iload 4, 2) := by decide +kernel
theorem dc_La_law_563 : decode mb_La_law 563 = .ok (.iconst 1, 1) := by decide +kernel
theorem dc_La_law_564 : decode mb_La_law 564 = .ok (.iadd, 1) := by decide +kernel
theorem dc_La_law_565 : decode mb_La_law 565 = .ok (.iaload, 1) := by decide +kernel
theorem dc_La_law_566 : decode mb_La_law 566 = .ok (.aload_n 3, 1) := by decide +kernel
theorem dc_La_law_567 : decode mb_La_law 567 = .ok (.invokestatic 103, 3) := by decide +kernel
theorem dc_La_law_570 : decode mb_La_law 570 = .ok (.istore 5, 2) := by decide +kernel
theorem dc_La_law_572 : decode mb_La_law 572 = .ok (.aload_n 2, 1) := by decide +kernel
theorem dc_La_law_573 : decode mb_La_law 573 = .ok (.aload_n 0, 1) := by decide +kernel
theorem dc_La_law_574 : decode mb_La_law 574 = .ok (.iload 4, 2) := by decide +kernel
theorem dc_La_law_576 : decode mb_La_law 576 = .ok (.iconst 1, 1) := by decide +kernel
theorem dc_La_law_577 : decode mb_La_law 577 = .ok (.iadd, 1) := by decide +kernel
theorem dc_La_law_578 : decode mb_La_law 578 = .ok (.iaload, 1) := by decide +kernel
theorem dc_La_law_579 : decode mb_La_law 579 = .ok (.invokevirtual 105, 3) := by decide +kernel
theorem dc_La_law_582 : decode mb_La_law 582 = .ok (.istore 6, 2) := by decide +kernel
theorem dc_La_law_584 : decode mb_La_law 584 = .ok (.aload_n 2, 1) := by decide +kernel
theorem dc_La_law_585 : decode mb_La_law 585 = .ok (.invokevirtual 67, 3) := by decide +kernel
theorem dc_La_law_588 : decode mb_La_law 588 = .ok (.iload 5, 2) := by decide +kernel
theorem dc_La_law_590 : decode mb_La_law 590 = .ok (.if_icmp .eq 5, 3) := by decide +kernel
theorem dc_La_law_593 : decode mb_La_law 593 = .ok (.iconst 0, 1) := by decide +kernel
theorem dc_La_law_594 : decode mb_La_law 594 = .ok (.ireturn, 1) := by decide +kernel
theorem dc_La_law_595 : decode mb_La_law 595 = .ok (.iload 5, 2) := by decide +kernel
theorem dc_La_law_597 : decode mb_La_law 597 = .ok (.ifCond .ne 15, 3) := by decide +kernel
theorem dc_La_law_600 : decode mb_La_law 600 = .ok (.aload_n 3, 1) := by decide +kernel
theorem dc_La_law_601 : decode mb_La_law 601 = .ok (.iconst 0, 1) := by decide +kernel
theorem dc_La_law_602 : decode mb_La_law 602 = .ok (.laload, 1) := by decide +kernel
theorem dc_La_law_603 : decode mb_La_law 603 = .ok (.iload 6, 2) := by decide +kernel
theorem dc_La_law_605 : decode mb_La_law 605 = .ok (.i2l, 1) := by decide +kernel
theorem dc_La_law_606 : decode mb_La_law 606 = .ok (.lcmp, 1) := by decide +kernel
theorem dc_La_law_607 : decode mb_La_law 607 = .ok (.ifCond .eq 5, 3) := by decide +kernel
theorem dc_La_law_610 : decode mb_La_law 610 = .ok (.iconst 0, 1) := by decide +kernel
theorem dc_La_law_611 : decode mb_La_law 611 = .ok (.ireturn, 1) := by decide +kernel
theorem dc_La_law_612 : decode mb_La_law 612 = .ok (.goto 155, 3) := by decide +kernel
theorem dc_La_law_615 : decode mb_La_law 615 = .ok (.aload_n 1, 1) := by decide +kernel
theorem dc_La_law_616 : decode mb_La_law 616 = .ok (.aload_n 3, 1) := by decide +kernel
theorem dc_La_law_617 : decode mb_La_law 617 = .ok (.invokestatic 106, 3) := by decide +kernel
theorem dc_La_law_620 : decode mb_La_law 620 = .ok (.istore 5, 2) := by decide +kernel
theorem dc_La_law_622 : decode mb_La_law 622 = .ok (.aload_n 2, 1) := by decide +kernel
theorem dc_La_law_623 : decode mb_La_law 623 = .ok (.invokevirtual 109, 3) := by decide +kernel
theorem dc_La_law_626 : decode mb_La_law 626 = .ok (.istore 6, 2) := by decide +kernel
theorem dc_La_law_628 : decode mb_La_law 628 = .ok (.aload_n 2, 1) := by decide +kernel
theorem dc_La_law_629 : decode mb_La_law 629 = .ok (.invokevirtual 67, 3) := by decide +kernel
theorem dc_La_law_632 : decode mb_La_law 632 = .ok (.iload 5, 2) := by decide +kernel
theorem dc_La_law_634 : decode mb_La_law 634 = .ok (.if_icmp .eq 5, 3) := by decide +kernel
theorem dc_La_law_637 : decode mb_La_law 637 = .ok (.iconst 0, 1) := by decide +kernel
theorem dc_La_law_638 : decode mb_La_law 638 = .ok (.ireturn, 1) := by decide +kernel
theorem dc_La_law_639 : decode mb_La_law 639 = .ok (.iload 5, 2) := by decide +kernel
theorem dc_La_law_641 : decode mb_La_law 641 = .ok (.ifCond .ne 15, 3) := by decide +kernel
theorem dc_La_law_644 : decode mb_La_law 644 = .ok (.aload_n 3, 1) := by decide +kernel
theorem dc_La_law_645 : decode mb_La_law 645 = .ok (.iconst 0, 1) := by decide +kernel
theorem dc_La_law_646 : decode mb_La_law 646 = .ok (.laload, 1) := by decide +kernel
theorem dc_La_law_647 : decode mb_La_law 647 = .ok (.iload 6, 2) := by decide +kernel
theorem dc_La_law_649 : decode mb_La_law 649 = .ok (.i2l, 1) := by decide +kernel
theorem dc_La_law_650 : decode mb_La_law 650 = .ok (.lcmp, 1) := by decide +kernel
theorem dc_La_law_651 : decode mb_La_law 651 = .ok (.ifCond .eq 5, 3) := by decide +kernel
theorem dc_La_law_654 : decode mb_La_law 654 = .ok (.iconst 0, 1) := by decide +kernel
theorem dc_La_law_655 : decode mb_La_law 655 = .ok (.ireturn, 1) := by decide +kernel
theorem dc_La_law_656 : decode mb_La_law 656 = .ok (.goto 111, 3) := by decide +kernel
theorem dc_La_law_659 : decode mb_La_law 659 = .ok (.aload_n 1, 1) := by decide +kernel
theorem dc_La_law_660 : decode mb_La_law 660 = .ok (.invokevirtual 110, 3) := by decide +kernel
theorem dc_La_law_663 : decode mb_La_law 663 = .ok (.aload_n 2, 1) := by decide +kernel
theorem dc_La_law_664 : decode mb_La_law 664 = .ok (.invokevirtual 113, 3) := by decide +kernel
theorem dc_La_law_667 : decode mb_La_law 667 = .ok (.goto 100, 3) := by decide +kernel
theorem dc_La_law_670 : decode mb_La_law 670 = .ok (.aload_n 1, 1) := by decide +kernel
theorem dc_La_law_671 : decode mb_La_law 671 = .ok (.aload_n 0, 1) := by decide +kernel
theorem dc_La_law_672 : decode mb_La_law 672 = .ok (.iload 4, 2) := by decide +kernel
theorem dc_La_law_674 : decode mb_La_law 674 = .ok (.iconst 1, 1) := by decide +kernel
theorem dc_La_law_675 : decode mb_La_law 675 = .ok (.iadd, 1) := by decide +kernel
theorem dc_La_law_676 : decode mb_La_law 676 = .ok (.iaload, 1) := by decide +kernel
theorem dc_La_law_677 : decode mb_La_law 677 = .ok (.ifCond .eq 7, 3) := by decide +kernel
theorem dc_La_law_680 : decode mb_La_law 680 = .ok (.iconst 1, 1) := by decide +kernel
theorem dc_La_law_681 : decode mb_La_law 681 = .ok (.goto 4, 3) := by decide +kernel
theorem dc_La_law_684 : decode mb_La_law 684 = .ok (.iconst 0, 1) := by decide +kernel
theorem dc_La_law_685 : decode mb_La_law 685 = .ok (.invokevirtual 114, 3) := by decide +kernel
theorem dc_La_law_688 : decode mb_La_law 688 = .ok (.aload_n 2, 1) := by decide +kernel
theorem dc_La_law_689 : decode mb_La_law 689 = .ok (.aload_n 0, 1) := by decide +kernel
theorem dc_La_law_690 : decode mb_La_law 690 = .ok (.iload 4, 2) := by decide +kernel
theorem dc_La_law_692 : decode mb_La_law 692 = .ok (.iconst 1, 1) := by decide +kernel
theorem dc_La_law_693 : decode mb_La_law 693 = .ok (.iadd, 1) := by decide +kernel
theorem dc_La_law_694 : decode mb_La_law 694 = .ok (.iaload, 1) := by decide +kernel
theorem dc_La_law_695 : decode mb_La_law 695 = .ok (.ifCond .eq 7, 3) := by decide +kernel
theorem dc_La_law_698 : decode mb_La_law 698 = .ok (.iconst 1, 1) := by decide +kernel
theorem dc_La_law_699 : decode mb_La_law 699 = .ok (.goto 4, 3) := by decide +kernel
theorem dc_La_law_702 : decode mb_La_law 702 = .ok (.iconst 0, 1) := by decide +kernel
theorem dc_La_law_703 : decode mb_La_law 703 = .ok (.invokevirtual 118, 3) := by decide +kernel
theorem dc_La_law_706 : decode mb_La_law 706 = .ok (.if_icmp .eq 61, 3) := by decide +kernel
theorem dc_La_law_709 : decode mb_La_law 709 = .ok (.iconst 0, 1) := by decide +kernel
theorem dc_La_law_710 : decode mb_La_law 710 = .ok (.ireturn, 1) := by decide +kernel
theorem dc_La_law_711 : decode mb_La_law 711 = .ok (.aload_n 1, 1) := by decide +kernel
theorem dc_La_law_712 : decode mb_La_law 712 = .ok (.aload_n 0, 1) := by decide +kernel
theorem dc_La_law_713 : decode mb_La_law 713 = .ok (.iload 4, 2) := by decide +kernel
theorem dc_La_law_715 : decode mb_La_law 715 = .ok (.iconst 1, 1) := by decide +kernel
theorem dc_La_law_716 : decode mb_La_law 716 = .ok (.iadd, 1) := by decide +kernel
theorem dc_La_law_717 : decode mb_La_law 717 = .ok (.iaload, 1) := by decide +kernel
theorem dc_La_law_718 : decode mb_La_law 718 = .ok (.aload_n 3, 1) := by decide +kernel
theorem dc_La_law_719 : decode mb_La_law 719 = .ok (.invokestatic 119, 3) := by decide +kernel
theorem dc_La_law_722 : decode mb_La_law 722 = .ok (.istore 5, 2) := by decide +kernel
theorem dc_La_law_724 : decode mb_La_law 724 = .ok (.aload_n 2, 1) := by decide +kernel
theorem dc_La_law_725 : decode mb_La_law 725 = .ok (.aload_n 0, 1) := by decide +kernel
theorem dc_La_law_726 : decode mb_La_law 726 = .ok (.iload 4, 2) := by decide +kernel
theorem dc_La_law_728 : decode mb_La_law 728 = .ok (.iconst 1, 1) := by decide +kernel
theorem dc_La_law_729 : decode mb_La_law 729 = .ok (.iadd, 1) := by decide +kernel
theorem dc_La_law_730 : decode mb_La_law 730 = .ok (.iaload, 1) := by decide +kernel
theorem dc_La_law_731 : decode mb_La_law 731 = .ok (.invokevirtual 121, 3) := by decide +kernel
theorem dc_La_law_734 : decode mb_La_law 734 = .ok (.istore 6, 2) := by decide +kernel
theorem dc_La_law_736 : decode mb_La_law 736 = .ok (.aload_n 2, 1) := by decide +kernel
theorem dc_La_law_737 : decode mb_La_law 737 = .ok (.invokevirtual 67, 3) := by decide +kernel
theorem dc_La_law_740 : decode mb_La_law 740 = .ok (.iload 5, 2) := by decide +kernel
theorem dc_La_law_742 : decode mb_La_law 742 = .ok (.if_icmp .eq 5, 3) := by decide +kernel
theorem dc_La_law_745 : decode mb_La_law 745 = .ok (.iconst 0, 1) := by decide +kernel
theorem dc_La_law_746 : decode mb_La_law 746 = .ok (.ireturn, 1) := by decide +kernel
theorem dc_La_law_747 : decode mb_La_law 747 = .ok (.iload 5, 2) := by decide +kernel
theorem dc_La_law_749 : decode mb_La_law 749 = .ok (.ifCond .ne 15, 3) := by decide +kernel
theorem dc_La_law_752 : decode mb_La_law 752 = .ok (.aload_n 3, 1) := by decide +kernel
theorem dc_La_law_753 : decode mb_La_law 753 = .ok (.iconst 0, 1) := by decide +kernel
theorem dc_La_law_754 : decode mb_La_law 754 = .ok (.laload, 1) := by decide +kernel
theorem dc_La_law_755 : decode mb_La_law 755 = .ok (.iload 6, 2) := by decide +kernel
theorem dc_La_law_757 : decode mb_La_law 757 = .ok (.i2l, 1) := by decide +kernel
theorem dc_La_law_758 : decode mb_La_law 758 = .ok (.lcmp, 1) := by decide +kernel
theorem dc_La_law_759 : decode mb_La_law 759 = .ok (.ifCond .eq 5, 3) := by decide +kernel
theorem dc_La_law_762 : decode mb_La_law 762 = .ok (.iconst 0, 1) := by decide +kernel
theorem dc_La_law_763 : decode mb_La_law 763 = .ok (.ireturn, 1) := by decide +kernel
theorem dc_La_law_764 : decode mb_La_law 764 = .ok (.goto 3, 3) := by decide +kernel
theorem dc_La_law_767 : decode mb_La_law 767 = .ok (.iinc 4 3, 3) := by decide +kernel
theorem dc_La_law_770 : decode mb_La_law 770 = .ok (.goto (-727), 3) := by decide +kernel
theorem dc_La_law_773 : decode mb_La_law 773 = .ok (.iconst 1, 1) := by decide +kernel
theorem dc_La_law_774 : decode mb_La_law 774 = .ok (.ireturn, 1) := by decide +kernel

theorem dX12_guest_38 : decode cX12_guest 38 = .ok (.iconst 4, 1) := by decide +kernel
theorem dX12_guest_39 : decode cX12_guest 39 = .ok (.if_icmp .ne 8, 3) := by decide +kernel
theorem dX12_guest_42 : decode cX12_guest 42 = .ok (.aload_n 0, 1) := by decide +kernel
theorem dX12_guest_43 : decode cX12_guest 43 = .ok (.invokevirtual 101, 3) := by decide +kernel
theorem dX12_guest_46 : decode cX12_guest 46 = .ok (.ireturn, 1) := by decide +kernel
theorem dX12_guest_47 : decode cX12_guest 47 = .ok (.aload_n 0, 1) := by decide +kernel
theorem dX12_guest_48 : decode cX12_guest 48 = .ok (.iload_n 1, 1) := by decide +kernel
theorem dX12_guest_49 : decode cX12_guest 49 = .ok (.iload_n 2, 1) := by decide +kernel
theorem dX12_guest_50 : decode cX12_guest 50 = .ok (.invokevirtual 111, 3) := by decide +kernel
theorem dX12_guest_53 : decode cX12_guest 53 = .ok (.aload_n 0, 1) := by decide +kernel
theorem dX12_guest_54 : decode cX12_guest 54 = .ok (.getfield 7, 3) := by decide +kernel
theorem dX12_guest_57 : decode cX12_guest 57 = .ok (.bipush 37, 2) := by decide +kernel
theorem dX12_guest_59 : decode cX12_guest 59 = .ok (.iaload, 1) := by decide +kernel
theorem dX12_guest_60 : decode cX12_guest 60 = .ok (.iconst 1, 1) := by decide +kernel
theorem dX12_guest_61 : decode cX12_guest 61 = .ok (.isub, 1) := by decide +kernel
theorem dX12_guest_62 : decode cX12_guest 62 = .ok (.ireturn, 1) := by decide +kernel
theorem dX12_type_0 : decode cX12_type 0 = .ok (.iload_n 1, 1) := by decide +kernel
theorem dX12_type_1 : decode cX12_type 1 = .ok (.i2l, 1) := by decide +kernel
theorem dX12_type_2 : decode cX12_type 2 = .ok (.lconst 0, 1) := by decide +kernel
theorem dX12_type_3 : decode cX12_type 3 = .ok (.ldc2_w 114, 3) := by decide +kernel
theorem dX12_type_6 : decode cX12_type 6 = .ok (.invokestatic 69, 3) := by decide +kernel
theorem dX12_type_9 : decode cX12_type 9 = .ok (.ifCond .ne 10, 3) := by decide +kernel
theorem dX12_type_12 : decode cX12_type 12 = .ok (.aload_n 0, 1) := by decide +kernel
theorem dX12_type_13 : decode cX12_type 13 = .ok (.bipush (-2), 2) := by decide +kernel
theorem dX12_type_15 : decode cX12_type 15 = .ok (.invokevirtual 84, 3) := by decide +kernel
theorem dX12_type_18 : decode cX12_type 18 = .ok (.ireturn, 1) := by decide +kernel
theorem dX12_type_19 : decode cX12_type 19 = .ok (.aload_n 0, 1) := by decide +kernel
theorem dX12_type_20 : decode cX12_type 20 = .ok (.getfield 116, 3) := by decide +kernel
theorem dX12_type_23 : decode cX12_type 23 = .ok (.sipush 150, 3) := by decide +kernel
theorem dX12_type_26 : decode cX12_type 26 = .ok (.if_icmp .ne 8, 3) := by decide +kernel
theorem dX12_type_29 : decode cX12_type 29 = .ok (.aload_n 0, 1) := by decide +kernel
theorem dX12_type_30 : decode cX12_type 30 = .ok (.invokevirtual 101, 3) := by decide +kernel
theorem dX12_type_33 : decode cX12_type 33 = .ok (.ireturn, 1) := by decide +kernel
theorem dX12_type_34 : decode cX12_type 34 = .ok (.aload_n 0, 1) := by decide +kernel
theorem dX12_type_35 : decode cX12_type 35 = .ok (.getfield 23, 3) := by decide +kernel
theorem dX12_type_38 : decode cX12_type 38 = .ok (.aload_n 0, 1) := by decide +kernel
theorem dX12_type_39 : decode cX12_type 39 = .ok (.getfield 116, 3) := by decide +kernel
theorem dX12_type_42 : decode cX12_type 42 = .ok (.iload_n 1, 1) := by decide +kernel
theorem dX12_type_43 : decode cX12_type 43 = .ok (.iastore, 1) := by decide +kernel
theorem dX12_type_44 : decode cX12_type 44 = .ok (.aload_n 0, 1) := by decide +kernel
theorem dX12_type_45 : decode cX12_type 45 = .ok (.dup, 1) := by decide +kernel
theorem dX12_type_46 : decode cX12_type 46 = .ok (.getfield 116, 3) := by decide +kernel
theorem dX12_type_49 : decode cX12_type 49 = .ok (.iconst 1, 1) := by decide +kernel
theorem dX12_type_50 : decode cX12_type 50 = .ok (.iadd, 1) := by decide +kernel
theorem dX12_type_51 : decode cX12_type 51 = .ok (.putfield 116, 3) := by decide +kernel
theorem dX12_type_54 : decode cX12_type 54 = .ok (.aload_n 0, 1) := by decide +kernel
theorem dX12_type_55 : decode cX12_type 55 = .ok (.getfield 116, 3) := by decide +kernel
theorem dX12_type_58 : decode cX12_type 58 = .ok (.ireturn, 1) := by decide +kernel
theorem dX12_clear_0 : decode cX12_clear 0 = .ok (.aload_n 0, 1) := by decide +kernel
theorem dX12_clear_1 : decode cX12_clear 1 = .ok (.getfield 116, 3) := by decide +kernel
theorem dX12_clear_4 : decode cX12_clear 4 = .ok (.istore_n 1, 1) := by decide +kernel
theorem dX12_clear_5 : decode cX12_clear 5 = .ok (.aload_n 0, 1) := by decide +kernel
theorem dX12_clear_6 : decode cX12_clear 6 = .ok (.iconst 0, 1) := by decide +kernel
theorem dX12_clear_7 : decode cX12_clear 7 = .ok (.putfield 116, 3) := by decide +kernel
theorem dX12_clear_10 : decode cX12_clear 10 = .ok (.iload_n 1, 1) := by decide +kernel
theorem dX12_clear_11 : decode cX12_clear 11 = .ok (.ireturn, 1) := by decide +kernel
theorem dX12_letter_0 : decode cX12_letter 0 = .ok (.iload_n 1, 1) := by decide +kernel
theorem dX12_letter_1 : decode cX12_letter 1 = .ok (.aload_n 0, 1) := by decide +kernel
theorem dX12_letter_2 : decode cX12_letter 2 = .ok (.getfield 116, 3) := by decide +kernel
theorem dX12_letter_5 : decode cX12_letter 5 = .ok (.if_icmp .ge 12, 3) := by decide +kernel
theorem dX12_letter_8 : decode cX12_letter 8 = .ok (.aload_n 0, 1) := by decide +kernel
theorem dX12_letter_9 : decode cX12_letter 9 = .ok (.getfield 23, 3) := by decide +kernel
theorem dX12_letter_12 : decode cX12_letter 12 = .ok (.iload_n 1, 1) := by decide +kernel
theorem dX12_letter_13 : decode cX12_letter 13 = .ok (.iaload, 1) := by decide +kernel
theorem dX12_letter_14 : decode cX12_letter 14 = .ok (.goto 4, 3) := by decide +kernel
theorem dX12_letter_17 : decode cX12_letter 17 = .ok (.iconst (-1), 1) := by decide +kernel
theorem dX12_letter_18 : decode cX12_letter 18 = .ok (.ireturn, 1) := by decide +kernel
theorem dX12_step_0 : decode cX12_step 0 = .ok (.aload_n 0, 1) := by decide +kernel
theorem dX12_step_1 : decode cX12_step 1 = .ok (.aload_n 0, 1) := by decide +kernel
theorem dX12_step_2 : decode cX12_step 2 = .ok (.getfield 120, 3) := by decide +kernel
theorem dX12_step_5 : decode cX12_step 5 = .ok (.invokevirtual 123, 3) := by decide +kernel
theorem dX12_step_8 : decode cX12_step 8 = .ok (.bipush 32, 2) := by decide +kernel
theorem dX12_step_10 : decode cX12_step 10 = .ok (.if_icmp .ne 16, 3) := by decide +kernel
theorem dX12_step_13 : decode cX12_step 13 = .ok (.aload_n 0, 1) := by decide +kernel
theorem dX12_step_14 : decode cX12_step 14 = .ok (.dup, 1) := by decide +kernel
theorem dX12_step_15 : decode cX12_step 15 = .ok (.getfield 120, 3) := by decide +kernel
theorem dX12_step_18 : decode cX12_step 18 = .ok (.iconst 1, 1) := by decide +kernel
theorem dX12_step_19 : decode cX12_step 19 = .ok (.iadd, 1) := by decide +kernel
theorem dX12_step_20 : decode cX12_step 20 = .ok (.putfield 120, 3) := by decide +kernel
theorem dX12_step_23 : decode cX12_step 23 = .ok (.goto (-23), 3) := by decide +kernel
theorem dX12_step_26 : decode cX12_step 26 = .ok (.aload_n 0, 1) := by decide +kernel
theorem dX12_step_27 : decode cX12_step 27 = .ok (.aload_n 0, 1) := by decide +kernel
theorem dX12_step_28 : decode cX12_step 28 = .ok (.getfield 120, 3) := by decide +kernel
theorem dX12_step_31 : decode cX12_step 31 = .ok (.putfield 126, 3) := by decide +kernel
theorem dX12_step_34 : decode cX12_step 34 = .ok (.aload_n 0, 1) := by decide +kernel
theorem dX12_step_35 : decode cX12_step 35 = .ok (.aload_n 0, 1) := by decide +kernel
theorem dX12_step_36 : decode cX12_step 36 = .ok (.getfield 120, 3) := by decide +kernel
theorem dX12_step_39 : decode cX12_step 39 = .ok (.invokevirtual 123, 3) := by decide +kernel
theorem dX12_step_42 : decode cX12_step 42 = .ok (.istore_n 1, 1) := by decide +kernel
theorem dX12_step_43 : decode cX12_step 43 = .ok (.aload_n 0, 1) := by decide +kernel
theorem dX12_step_44 : decode cX12_step 44 = .ok (.iconst 0, 1) := by decide +kernel
theorem dX12_step_45 : decode cX12_step 45 = .ok (.putfield 129, 3) := by decide +kernel
theorem dX12_step_48 : decode cX12_step 48 = .ok (.aload_n 0, 1) := by decide +kernel
theorem dX12_step_49 : decode cX12_step 49 = .ok (.iload_n 1, 1) := by decide +kernel
theorem dX12_step_50 : decode cX12_step 50 = .ok (.ifCond .ge 7, 3) := by decide +kernel
theorem dX12_step_53 : decode cX12_step 53 = .ok (.iconst 0, 1) := by decide +kernel
theorem dX12_step_54 : decode cX12_step 54 = .ok (.goto 50, 3) := by decide +kernel
theorem dX12_step_57 : decode cX12_step 57 = .ok (.iload_n 1, 1) := by decide +kernel
theorem dX12_step_58 : decode cX12_step 58 = .ok (.i2l, 1) := by decide +kernel
theorem dX12_step_59 : decode cX12_step 59 = .ok (.ldc2_w 132, 3) := by decide +kernel
theorem dX12_step_62 : decode cX12_step 62 = .ok (.ldc2_w 134, 3) := by decide +kernel
theorem dX12_step_65 : decode cX12_step 65 = .ok (.invokestatic 69, 3) := by decide +kernel
theorem dX12_step_68 : decode cX12_step 68 = .ok (.ifCond .eq 7, 3) := by decide +kernel
theorem dX12_step_71 : decode cX12_step 71 = .ok (.iconst 1, 1) := by decide +kernel
theorem dX12_step_72 : decode cX12_step 72 = .ok (.goto 32, 3) := by decide +kernel
theorem dX12_step_75 : decode cX12_step 75 = .ok (.iload_n 1, 1) := by decide +kernel
theorem dX12_step_76 : decode cX12_step 76 = .ok (.i2l, 1) := by decide +kernel
theorem dX12_step_77 : decode cX12_step 77 = .ok (.ldc2_w 136, 3) := by decide +kernel
theorem dX12_step_80 : decode cX12_step 80 = .ok (.ldc2_w 138, 3) := by decide +kernel
theorem dX12_step_83 : decode cX12_step 83 = .ok (.invokestatic 69, 3) := by decide +kernel
theorem dX12_step_86 : decode cX12_step 86 = .ok (.ifCond .eq 7, 3) := by decide +kernel
theorem dX12_step_89 : decode cX12_step 89 = .ok (.iconst 2, 1) := by decide +kernel
theorem dX12_step_90 : decode cX12_step 90 = .ok (.goto 14, 3) := by decide +kernel
theorem dX12_step_93 : decode cX12_step 93 = .ok (.iload_n 1, 1) := by decide +kernel
theorem dX12_step_94 : decode cX12_step 94 = .ok (.bipush 59, 2) := by decide +kernel
theorem dX12_step_96 : decode cX12_step 96 = .ok (.if_icmp .ne 7, 3) := by decide +kernel
theorem dX12_step_99 : decode cX12_step 99 = .ok (.iconst 3, 1) := by decide +kernel
theorem dX12_step_100 : decode cX12_step 100 = .ok (.goto 4, 3) := by decide +kernel
theorem dX12_step_103 : decode cX12_step 103 = .ok (.iconst 4, 1) := by decide +kernel
theorem dX12_step_104 : decode cX12_step 104 = .ok (.putfield 140, 3) := by decide +kernel
theorem dX12_step_107 : decode cX12_step 107 = .ok (.aload_n 0, 1) := by decide +kernel
theorem dX12_step_108 : decode cX12_step 108 = .ok (.getfield 140, 3) := by decide +kernel
theorem dX12_step_111 : decode cX12_step 111 = .ok (.iconst 1, 1) := by decide +kernel
theorem dX12_step_112 : decode cX12_step 112 = .ok (.if_icmp .ne 37, 3) := by decide +kernel
theorem dX12_step_115 : decode cX12_step 115 = .ok (.aload_n 0, 1) := by decide +kernel
theorem dX12_step_116 : decode cX12_step 116 = .ok (.aload_n 0, 1) := by decide +kernel
theorem dX12_step_117 : decode cX12_step 117 = .ok (.getfield 120, 3) := by decide +kernel
theorem dX12_step_120 : decode cX12_step 120 = .ok (.invokevirtual 123, 3) := by decide +kernel
theorem dX12_step_123 : decode cX12_step 123 = .ok (.i2l, 1) := by decide +kernel
theorem dX12_step_124 : decode cX12_step 124 = .ok (.ldc2_w 132, 3) := by decide +kernel
theorem dX12_step_127 : decode cX12_step 127 = .ok (.ldc2_w 134, 3) := by decide +kernel
theorem dX12_step_130 : decode cX12_step 130 = .ok (.invokestatic 69, 3) := by decide +kernel
theorem dX12_step_133 : decode cX12_step 133 = .ok (.ifCond .eq 147, 3) := by decide +kernel
theorem dX12_step_136 : decode cX12_step 136 = .ok (.aload_n 0, 1) := by decide +kernel
theorem dX12_step_137 : decode cX12_step 137 = .ok (.dup, 1) := by decide +kernel
theorem dX12_step_138 : decode cX12_step 138 = .ok (.getfield 120, 3) := by decide +kernel
theorem dX12_step_141 : decode cX12_step 141 = .ok (.iconst 1, 1) := by decide +kernel
theorem dX12_step_142 : decode cX12_step 142 = .ok (.iadd, 1) := by decide +kernel
theorem dX12_step_143 : decode cX12_step 143 = .ok (.putfield 120, 3) := by decide +kernel
theorem dX12_step_146 : decode cX12_step 146 = .ok (.goto (-31), 3) := by decide +kernel
theorem dX12_step_149 : decode cX12_step 149 = .ok (.aload_n 0, 1) := by decide +kernel
theorem dX12_step_150 : decode cX12_step 150 = .ok (.getfield 140, 3) := by decide +kernel
theorem dX12_step_153 : decode cX12_step 153 = .ok (.iconst 2, 1) := by decide +kernel
theorem dX12_step_154 : decode cX12_step 154 = .ok (.if_icmp .ne 105, 3) := by decide +kernel
theorem dX12_step_157 : decode cX12_step 157 = .ok (.aload_n 0, 1) := by decide +kernel
theorem dX12_step_158 : decode cX12_step 158 = .ok (.aload_n 0, 1) := by decide +kernel
theorem dX12_step_159 : decode cX12_step 159 = .ok (.getfield 120, 3) := by decide +kernel
theorem dX12_step_162 : decode cX12_step 162 = .ok (.invokevirtual 123, 3) := by decide +kernel
theorem dX12_step_165 : decode cX12_step 165 = .ok (.i2l, 1) := by decide +kernel
theorem dX12_step_166 : decode cX12_step 166 = .ok (.ldc2_w 136, 3) := by decide +kernel
theorem dX12_step_169 : decode cX12_step 169 = .ok (.ldc2_w 138, 3) := by decide +kernel
theorem dX12_step_172 : decode cX12_step 172 = .ok (.invokestatic 69, 3) := by decide +kernel
theorem dX12_step_175 : decode cX12_step 175 = .ok (.ifCond .eq 59, 3) := by decide +kernel
theorem dX12_step_178 : decode cX12_step 178 = .ok (.aload_n 0, 1) := by decide +kernel
theorem dX12_step_179 : decode cX12_step 179 = .ok (.aload_n 0, 1) := by decide +kernel
theorem dX12_step_180 : decode cX12_step 180 = .ok (.getfield 120, 3) := by decide +kernel
theorem dX12_step_183 : decode cX12_step 183 = .ok (.aload_n 0, 1) := by decide +kernel
theorem dX12_step_184 : decode cX12_step 184 = .ok (.getfield 126, 3) := by decide +kernel
theorem dX12_step_187 : decode cX12_step 187 = .ok (.isub, 1) := by decide +kernel
theorem dX12_step_188 : decode cX12_step 188 = .ok (.iconst 2, 1) := by decide +kernel
theorem dX12_step_189 : decode cX12_step 189 = .ok (.if_icmp .ge 25, 3) := by decide +kernel
theorem dX12_step_192 : decode cX12_step 192 = .ok (.bipush 10, 2) := by decide +kernel
theorem dX12_step_194 : decode cX12_step 194 = .ok (.aload_n 0, 1) := by decide +kernel
theorem dX12_step_195 : decode cX12_step 195 = .ok (.getfield 129, 3) := by decide +kernel
theorem dX12_step_198 : decode cX12_step 198 = .ok (.imul, 1) := by decide +kernel
theorem dX12_step_199 : decode cX12_step 199 = .ok (.aload_n 0, 1) := by decide +kernel
theorem dX12_step_200 : decode cX12_step 200 = .ok (.aload_n 0, 1) := by decide +kernel
theorem dX12_step_201 : decode cX12_step 201 = .ok (.getfield 120, 3) := by decide +kernel
theorem dX12_step_204 : decode cX12_step 204 = .ok (.invokevirtual 123, 3) := by decide +kernel
theorem dX12_step_207 : decode cX12_step 207 = .ok (.iadd, 1) := by decide +kernel
theorem dX12_step_208 : decode cX12_step 208 = .ok (.bipush 48, 2) := by decide +kernel
theorem dX12_step_210 : decode cX12_step 210 = .ok (.isub, 1) := by decide +kernel
theorem dX12_step_211 : decode cX12_step 211 = .ok (.goto 7, 3) := by decide +kernel
theorem dX12_step_214 : decode cX12_step 214 = .ok (.aload_n 0, 1) := by decide +kernel
theorem dX12_step_215 : decode cX12_step 215 = .ok (.getfield 129, 3) := by decide +kernel
theorem dX12_step_218 : decode cX12_step 218 = .ok (.putfield 129, 3) := by decide +kernel
theorem dX12_step_221 : decode cX12_step 221 = .ok (.aload_n 0, 1) := by decide +kernel
theorem dX12_step_222 : decode cX12_step 222 = .ok (.dup, 1) := by decide +kernel
theorem dX12_step_223 : decode cX12_step 223 = .ok (.getfield 120, 3) := by decide +kernel
theorem dX12_step_226 : decode cX12_step 226 = .ok (.iconst 1, 1) := by decide +kernel
theorem dX12_step_227 : decode cX12_step 227 = .ok (.iadd, 1) := by decide +kernel
theorem dX12_step_228 : decode cX12_step 228 = .ok (.putfield 120, 3) := by decide +kernel
theorem dX12_step_231 : decode cX12_step 231 = .ok (.goto (-74), 3) := by decide +kernel
theorem dX12_step_234 : decode cX12_step 234 = .ok (.aload_n 0, 1) := by decide +kernel
theorem dX12_step_235 : decode cX12_step 235 = .ok (.aload_n 0, 1) := by decide +kernel
theorem dX12_step_236 : decode cX12_step 236 = .ok (.getfield 120, 3) := by decide +kernel
theorem dX12_step_239 : decode cX12_step 239 = .ok (.aload_n 0, 1) := by decide +kernel
theorem dX12_step_240 : decode cX12_step 240 = .ok (.getfield 126, 3) := by decide +kernel
theorem dX12_step_243 : decode cX12_step 243 = .ok (.isub, 1) := by decide +kernel
theorem dX12_step_244 : decode cX12_step 244 = .ok (.iconst 2, 1) := by decide +kernel
theorem dX12_step_245 : decode cX12_step 245 = .ok (.if_icmp .le 7, 3) := by decide +kernel
theorem dX12_step_248 : decode cX12_step 248 = .ok (.iconst 4, 1) := by decide +kernel
theorem dX12_step_249 : decode cX12_step 249 = .ok (.goto 4, 3) := by decide +kernel
theorem dX12_step_252 : decode cX12_step 252 = .ok (.iconst 2, 1) := by decide +kernel
theorem dX12_step_253 : decode cX12_step 253 = .ok (.putfield 140, 3) := by decide +kernel
theorem dX12_step_256 : decode cX12_step 256 = .ok (.goto 24, 3) := by decide +kernel
theorem dX12_step_259 : decode cX12_step 259 = .ok (.aload_n 0, 1) := by decide +kernel
theorem dX12_step_260 : decode cX12_step 260 = .ok (.dup, 1) := by decide +kernel
theorem dX12_step_261 : decode cX12_step 261 = .ok (.getfield 120, 3) := by decide +kernel
theorem dX12_step_264 : decode cX12_step 264 = .ok (.aload_n 0, 1) := by decide +kernel
theorem dX12_step_265 : decode cX12_step 265 = .ok (.getfield 140, 3) := by decide +kernel
theorem dX12_step_268 : decode cX12_step 268 = .ok (.ifCond .ne 7, 3) := by decide +kernel
theorem dX12_step_271 : decode cX12_step 271 = .ok (.iconst 0, 1) := by decide +kernel
theorem dX12_step_272 : decode cX12_step 272 = .ok (.goto 4, 3) := by decide +kernel
theorem dX12_step_275 : decode cX12_step 275 = .ok (.iconst 1, 1) := by decide +kernel
theorem dX12_step_276 : decode cX12_step 276 = .ok (.iadd, 1) := by decide +kernel
theorem dX12_step_277 : decode cX12_step 277 = .ok (.putfield 120, 3) := by decide +kernel
theorem dX12_step_280 : decode cX12_step 280 = .ok (.return_, 1) := by decide +kernel
theorem dX12_isWord_0 : decode cX12_isWord 0 = .ok (.iload 4, 2) := by decide +kernel
theorem dX12_isWord_2 : decode cX12_isWord 2 = .ok (.ifCond .ne 7, 3) := by decide +kernel
theorem dX12_isWord_5 : decode cX12_isWord 5 = .ok (.iconst 3, 1) := by decide +kernel
theorem dX12_isWord_6 : decode cX12_isWord 6 = .ok (.goto 4, 3) := by decide +kernel
theorem dX12_isWord_9 : decode cX12_isWord 9 = .ok (.iconst 5, 1) := by decide +kernel
theorem dX12_isWord_10 : decode cX12_isWord 10 = .ok (.istore 6, 2) := by decide +kernel
theorem dX12_isWord_12 : decode cX12_isWord 12 = .ok (.aload_n 0, 1) := by decide +kernel
theorem dX12_isWord_13 : decode cX12_isWord 13 = .ok (.getfield 140, 3) := by decide +kernel
theorem dX12_isWord_16 : decode cX12_isWord 16 = .ok (.iconst 1, 1) := by decide +kernel
theorem dX12_isWord_17 : decode cX12_isWord 17 = .ok (.if_icmp .ne 61, 3) := by decide +kernel
theorem dX12_isWord_20 : decode cX12_isWord 20 = .ok (.aload_n 0, 1) := by decide +kernel
theorem dX12_isWord_21 : decode cX12_isWord 21 = .ok (.getfield 120, 3) := by decide +kernel
theorem dX12_isWord_24 : decode cX12_isWord 24 = .ok (.aload_n 0, 1) := by decide +kernel
theorem dX12_isWord_25 : decode cX12_isWord 25 = .ok (.getfield 126, 3) := by decide +kernel
theorem dX12_isWord_28 : decode cX12_isWord 28 = .ok (.isub, 1) := by decide +kernel
theorem dX12_isWord_29 : decode cX12_isWord 29 = .ok (.iload 6, 2) := by decide +kernel
theorem dX12_isWord_31 : decode cX12_isWord 31 = .ok (.if_icmp .ne 47, 3) := by decide +kernel
theorem dX12_isWord_34 : decode cX12_isWord 34 = .ok (.aload_n 0, 1) := by decide +kernel
theorem dX12_isWord_35 : decode cX12_isWord 35 = .ok (.aload_n 0, 1) := by decide +kernel
theorem dX12_isWord_36 : decode cX12_isWord 36 = .ok (.getfield 126, 3) := by decide +kernel
theorem dX12_isWord_39 : decode cX12_isWord 39 = .ok (.invokevirtual 123, 3) := by decide +kernel
theorem dX12_isWord_42 : decode cX12_isWord 42 = .ok (.iload_n 1, 1) := by decide +kernel
theorem dX12_isWord_43 : decode cX12_isWord 43 = .ok (.if_icmp .ne 35, 3) := by decide +kernel
theorem dX12_isWord_46 : decode cX12_isWord 46 = .ok (.aload_n 0, 1) := by decide +kernel
theorem dX12_isWord_47 : decode cX12_isWord 47 = .ok (.aload_n 0, 1) := by decide +kernel
theorem dX12_isWord_48 : decode cX12_isWord 48 = .ok (.getfield 126, 3) := by decide +kernel
theorem dX12_isWord_51 : decode cX12_isWord 51 = .ok (.iconst 1, 1) := by decide +kernel
theorem dX12_isWord_52 : decode cX12_isWord 52 = .ok (.iadd, 1) := by decide +kernel
theorem dX12_isWord_53 : decode cX12_isWord 53 = .ok (.invokevirtual 123, 3) := by decide +kernel
theorem dX12_isWord_56 : decode cX12_isWord 56 = .ok (.iload_n 2, 1) := by decide +kernel
theorem dX12_isWord_57 : decode cX12_isWord 57 = .ok (.if_icmp .ne 21, 3) := by decide +kernel
theorem dX12_isWord_60 : decode cX12_isWord 60 = .ok (.aload_n 0, 1) := by decide +kernel
theorem dX12_isWord_61 : decode cX12_isWord 61 = .ok (.aload_n 0, 1) := by decide +kernel
theorem dX12_isWord_62 : decode cX12_isWord 62 = .ok (.getfield 126, 3) := by decide +kernel
theorem dX12_isWord_65 : decode cX12_isWord 65 = .ok (.iconst 2, 1) := by decide +kernel
theorem dX12_isWord_66 : decode cX12_isWord 66 = .ok (.iadd, 1) := by decide +kernel
theorem dX12_isWord_67 : decode cX12_isWord 67 = .ok (.invokevirtual 123, 3) := by decide +kernel
theorem dX12_isWord_70 : decode cX12_isWord 70 = .ok (.iload_n 3, 1) := by decide +kernel
theorem dX12_isWord_71 : decode cX12_isWord 71 = .ok (.if_icmp .ne 7, 3) := by decide +kernel
theorem dX12_isWord_74 : decode cX12_isWord 74 = .ok (.iconst 1, 1) := by decide +kernel
theorem dX12_isWord_75 : decode cX12_isWord 75 = .ok (.goto 4, 3) := by decide +kernel
theorem dX12_isWord_78 : decode cX12_isWord 78 = .ok (.iconst 0, 1) := by decide +kernel
theorem dX12_isWord_79 : decode cX12_isWord 79 = .ok (.istore 7, 2) := by decide +kernel
theorem dX12_isWord_81 : decode cX12_isWord 81 = .ok (.iload 7, 2) := by decide +kernel
theorem dX12_isWord_83 : decode cX12_isWord 83 = .ok (.ifCond .eq 43, 3) := by decide +kernel
theorem dX12_isWord_86 : decode cX12_isWord 86 = .ok (.iload 6, 2) := by decide +kernel
theorem dX12_isWord_88 : decode cX12_isWord 88 = .ok (.iconst 3, 1) := by decide +kernel
theorem dX12_isWord_89 : decode cX12_isWord 89 = .ok (.if_icmp .eq 33, 3) := by decide +kernel
theorem dX12_isWord_92 : decode cX12_isWord 92 = .ok (.aload_n 0, 1) := by decide +kernel
theorem dX12_isWord_93 : decode cX12_isWord 93 = .ok (.aload_n 0, 1) := by decide +kernel
theorem dX12_isWord_94 : decode cX12_isWord 94 = .ok (.getfield 126, 3) := by decide +kernel
theorem dX12_isWord_97 : decode cX12_isWord 97 = .ok (.iconst 3, 1) := by decide +kernel
theorem dX12_isWord_98 : decode cX12_isWord 98 = .ok (.iadd, 1) := by decide +kernel
theorem dX12_isWord_99 : decode cX12_isWord 99 = .ok (.invokevirtual 123, 3) := by decide +kernel
theorem dX12_isWord_102 : decode cX12_isWord 102 = .ok (.iload 4, 2) := by decide +kernel
theorem dX12_isWord_104 : decode cX12_isWord 104 = .ok (.if_icmp .ne 22, 3) := by decide +kernel
theorem dX12_isWord_107 : decode cX12_isWord 107 = .ok (.aload_n 0, 1) := by decide +kernel
theorem dX12_isWord_108 : decode cX12_isWord 108 = .ok (.aload_n 0, 1) := by decide +kernel
theorem dX12_isWord_109 : decode cX12_isWord 109 = .ok (.getfield 126, 3) := by decide +kernel
theorem dX12_isWord_112 : decode cX12_isWord 112 = .ok (.iconst 4, 1) := by decide +kernel
theorem dX12_isWord_113 : decode cX12_isWord 113 = .ok (.iadd, 1) := by decide +kernel
theorem dX12_isWord_114 : decode cX12_isWord 114 = .ok (.invokevirtual 123, 3) := by decide +kernel
theorem dX12_isWord_117 : decode cX12_isWord 117 = .ok (.iload 5, 2) := by decide +kernel
theorem dX12_isWord_119 : decode cX12_isWord 119 = .ok (.if_icmp .ne 7, 3) := by decide +kernel
theorem dX12_isWord_122 : decode cX12_isWord 122 = .ok (.iconst 1, 1) := by decide +kernel
theorem dX12_isWord_123 : decode cX12_isWord 123 = .ok (.goto 4, 3) := by decide +kernel
theorem dX12_isWord_126 : decode cX12_isWord 126 = .ok (.iconst 0, 1) := by decide +kernel
theorem dX12_isWord_127 : decode cX12_isWord 127 = .ok (.ireturn, 1) := by decide +kernel
theorem dX12_number_0 : decode cX12_number 0 = .ok (.aload_n 0, 1) := by decide +kernel
theorem dX12_number_1 : decode cX12_number 1 = .ok (.invokevirtual 143, 3) := by decide +kernel
theorem dX12_number_4 : decode cX12_number 4 = .ok (.aload_n 0, 1) := by decide +kernel
theorem dX12_number_5 : decode cX12_number 5 = .ok (.getfield 33, 3) := by decide +kernel
theorem dX12_number_8 : decode cX12_number 8 = .ok (.iload_n 1, 1) := by decide +kernel
theorem dX12_number_9 : decode cX12_number 9 = .ok (.aload_n 0, 1) := by decide +kernel
theorem dX12_number_10 : decode cX12_number 10 = .ok (.getfield 129, 3) := by decide +kernel
theorem dX12_number_13 : decode cX12_number 13 = .ok (.iastore, 1) := by decide +kernel
theorem dX12_number_14 : decode cX12_number 14 = .ok (.aload_n 0, 1) := by decide +kernel
theorem dX12_number_15 : decode cX12_number 15 = .ok (.getfield 140, 3) := by decide +kernel
theorem dX12_number_18 : decode cX12_number 18 = .ok (.iconst 2, 1) := by decide +kernel
theorem dX12_number_19 : decode cX12_number 19 = .ok (.if_icmp .ne 22, 3) := by decide +kernel
theorem dX12_number_22 : decode cX12_number 22 = .ok (.aload_n 0, 1) := by decide +kernel
theorem dX12_number_23 : decode cX12_number 23 = .ok (.getfield 129, 3) := by decide +kernel
theorem dX12_number_26 : decode cX12_number 26 = .ok (.i2l, 1) := by decide +kernel
theorem dX12_number_27 : decode cX12_number 27 = .ok (.iload_n 2, 1) := by decide +kernel
theorem dX12_number_28 : decode cX12_number 28 = .ok (.i2l, 1) := by decide +kernel
theorem dX12_number_29 : decode cX12_number 29 = .ok (.iload_n 3, 1) := by decide +kernel
theorem dX12_number_30 : decode cX12_number 30 = .ok (.i2l, 1) := by decide +kernel
theorem dX12_number_31 : decode cX12_number 31 = .ok (.invokestatic 69, 3) := by decide +kernel
theorem dX12_number_34 : decode cX12_number 34 = .ok (.ifCond .eq 7, 3) := by decide +kernel
theorem dX12_number_37 : decode cX12_number 37 = .ok (.iconst 1, 1) := by decide +kernel
theorem dX12_number_38 : decode cX12_number 38 = .ok (.goto 4, 3) := by decide +kernel
theorem dX12_number_41 : decode cX12_number 41 = .ok (.iconst 0, 1) := by decide +kernel
theorem dX12_number_42 : decode cX12_number 42 = .ok (.ireturn, 1) := by decide +kernel
theorem dX12_ends_0 : decode cX12_ends 0 = .ok (.aload_n 0, 1) := by decide +kernel
theorem dX12_ends_1 : decode cX12_ends 1 = .ok (.invokevirtual 143, 3) := by decide +kernel
theorem dX12_ends_4 : decode cX12_ends 4 = .ok (.aload_n 0, 1) := by decide +kernel
theorem dX12_ends_5 : decode cX12_ends 5 = .ok (.getfield 140, 3) := by decide +kernel
theorem dX12_ends_8 : decode cX12_ends 8 = .ok (.iconst 3, 1) := by decide +kernel
theorem dX12_ends_9 : decode cX12_ends 9 = .ok (.if_icmp .ne 7, 3) := by decide +kernel
theorem dX12_ends_12 : decode cX12_ends 12 = .ok (.iconst 1, 1) := by decide +kernel
theorem dX12_ends_13 : decode cX12_ends 13 = .ok (.goto 4, 3) := by decide +kernel
theorem dX12_ends_16 : decode cX12_ends 16 = .ok (.iconst 0, 1) := by decide +kernel
theorem dX12_ends_17 : decode cX12_ends 17 = .ok (.ireturn, 1) := by decide +kernel
theorem dX12_isDark_0 : decode cX12_isDark 0 = .ok (.aload_n 0, 1) := by decide +kernel
theorem dX12_isDark_1 : decode cX12_isDark 1 = .ok (.getfield 140, 3) := by decide +kernel
theorem dX12_isDark_4 : decode cX12_isDark 4 = .ok (.iconst 1, 1) := by decide +kernel
theorem dX12_isDark_5 : decode cX12_isDark 5 = .ok (.if_icmp .ne 78, 3) := by decide +kernel
theorem dX12_isDark_8 : decode cX12_isDark 8 = .ok (.aload_n 0, 1) := by decide +kernel
theorem dX12_isDark_9 : decode cX12_isDark 9 = .ok (.getfield 120, 3) := by decide +kernel
theorem dX12_isDark_12 : decode cX12_isDark 12 = .ok (.aload_n 0, 1) := by decide +kernel
theorem dX12_isDark_13 : decode cX12_isDark 13 = .ok (.getfield 126, 3) := by decide +kernel
theorem dX12_isDark_16 : decode cX12_isDark 16 = .ok (.isub, 1) := by decide +kernel
theorem dX12_isDark_17 : decode cX12_isDark 17 = .ok (.iconst 4, 1) := by decide +kernel
theorem dX12_isDark_18 : decode cX12_isDark 18 = .ok (.if_icmp .ne 65, 3) := by decide +kernel
theorem dX12_isDark_21 : decode cX12_isDark 21 = .ok (.aload_n 0, 1) := by decide +kernel
theorem dX12_isDark_22 : decode cX12_isDark 22 = .ok (.aload_n 0, 1) := by decide +kernel
theorem dX12_isDark_23 : decode cX12_isDark 23 = .ok (.getfield 126, 3) := by decide +kernel
theorem dX12_isDark_26 : decode cX12_isDark 26 = .ok (.invokevirtual 123, 3) := by decide +kernel
theorem dX12_isDark_29 : decode cX12_isDark 29 = .ok (.bipush 100, 2) := by decide +kernel
theorem dX12_isDark_31 : decode cX12_isDark 31 = .ok (.if_icmp .ne 52, 3) := by decide +kernel
theorem dX12_isDark_34 : decode cX12_isDark 34 = .ok (.aload_n 0, 1) := by decide +kernel
theorem dX12_isDark_35 : decode cX12_isDark 35 = .ok (.aload_n 0, 1) := by decide +kernel
theorem dX12_isDark_36 : decode cX12_isDark 36 = .ok (.getfield 126, 3) := by decide +kernel
theorem dX12_isDark_39 : decode cX12_isDark 39 = .ok (.iconst 1, 1) := by decide +kernel
theorem dX12_isDark_40 : decode cX12_isDark 40 = .ok (.iadd, 1) := by decide +kernel
theorem dX12_isDark_41 : decode cX12_isDark 41 = .ok (.invokevirtual 123, 3) := by decide +kernel
theorem dX12_isDark_44 : decode cX12_isDark 44 = .ok (.bipush 97, 2) := by decide +kernel
theorem dX12_isDark_46 : decode cX12_isDark 46 = .ok (.if_icmp .ne 37, 3) := by decide +kernel
theorem dX12_isDark_49 : decode cX12_isDark 49 = .ok (.aload_n 0, 1) := by decide +kernel
theorem dX12_isDark_50 : decode cX12_isDark 50 = .ok (.aload_n 0, 1) := by decide +kernel
theorem dX12_isDark_51 : decode cX12_isDark 51 = .ok (.getfield 126, 3) := by decide +kernel
theorem dX12_isDark_54 : decode cX12_isDark 54 = .ok (.iconst 2, 1) := by decide +kernel
theorem dX12_isDark_55 : decode cX12_isDark 55 = .ok (.iadd, 1) := by decide +kernel
theorem dX12_isDark_56 : decode cX12_isDark 56 = .ok (.invokevirtual 123, 3) := by decide +kernel
theorem dX12_isDark_59 : decode cX12_isDark 59 = .ok (.bipush 114, 2) := by decide +kernel
theorem dX12_isDark_61 : decode cX12_isDark 61 = .ok (.if_icmp .ne 22, 3) := by decide +kernel
theorem dX12_isDark_64 : decode cX12_isDark 64 = .ok (.aload_n 0, 1) := by decide +kernel
theorem dX12_isDark_65 : decode cX12_isDark 65 = .ok (.aload_n 0, 1) := by decide +kernel
theorem dX12_isDark_66 : decode cX12_isDark 66 = .ok (.getfield 126, 3) := by decide +kernel
theorem dX12_isDark_69 : decode cX12_isDark 69 = .ok (.iconst 3, 1) := by decide +kernel
theorem dX12_isDark_70 : decode cX12_isDark 70 = .ok (.iadd, 1) := by decide +kernel
theorem dX12_isDark_71 : decode cX12_isDark 71 = .ok (.invokevirtual 123, 3) := by decide +kernel
theorem dX12_isDark_74 : decode cX12_isDark 74 = .ok (.bipush 107, 2) := by decide +kernel
theorem dX12_isDark_76 : decode cX12_isDark 76 = .ok (.if_icmp .ne 7, 3) := by decide +kernel
theorem dX12_isDark_79 : decode cX12_isDark 79 = .ok (.iconst 1, 1) := by decide +kernel
theorem dX12_isDark_80 : decode cX12_isDark 80 = .ok (.goto 4, 3) := by decide +kernel
theorem dX12_isDark_83 : decode cX12_isDark 83 = .ok (.iconst 0, 1) := by decide +kernel
theorem dX12_isDark_84 : decode cX12_isDark 84 = .ok (.ireturn, 1) := by decide +kernel
theorem dX12_readsItem_0 : decode cX12_readsItem 0 = .ok (.aload_n 0, 1) := by decide +kernel
theorem dX12_readsItem_1 : decode cX12_readsItem 1 = .ok (.invokevirtual 146, 3) := by decide +kernel
theorem dX12_readsItem_4 : decode cX12_readsItem 4 = .ok (.ifCond .eq 55, 3) := by decide +kernel
theorem dX12_readsItem_7 : decode cX12_readsItem 7 = .ok (.aload_n 0, 1) := by decide +kernel
theorem dX12_readsItem_8 : decode cX12_readsItem 8 = .ok (.iconst 0, 1) := by decide +kernel
theorem dX12_readsItem_9 : decode cX12_readsItem 9 = .ok (.iconst 0, 1) := by decide +kernel
theorem dX12_readsItem_10 : decode cX12_readsItem 10 = .ok (.bipush 7, 2) := by decide +kernel
theorem dX12_readsItem_12 : decode cX12_readsItem 12 = .ok (.invokevirtual 150, 3) := by decide +kernel
theorem dX12_readsItem_15 : decode cX12_readsItem 15 = .ok (.ifCond .eq 21, 3) := by decide +kernel
theorem dX12_readsItem_18 : decode cX12_readsItem 18 = .ok (.aload_n 0, 1) := by decide +kernel
theorem dX12_readsItem_19 : decode cX12_readsItem 19 = .ok (.iconst 1, 1) := by decide +kernel
theorem dX12_readsItem_20 : decode cX12_readsItem 20 = .ok (.iconst 0, 1) := by decide +kernel
theorem dX12_readsItem_21 : decode cX12_readsItem 21 = .ok (.bipush 9, 2) := by decide +kernel
theorem dX12_readsItem_23 : decode cX12_readsItem 23 = .ok (.invokevirtual 150, 3) := by decide +kernel
theorem dX12_readsItem_26 : decode cX12_readsItem 26 = .ok (.ifCond .eq 10, 3) := by decide +kernel
theorem dX12_readsItem_29 : decode cX12_readsItem 29 = .ok (.aload_n 0, 1) := by decide +kernel
theorem dX12_readsItem_30 : decode cX12_readsItem 30 = .ok (.invokevirtual 154, 3) := by decide +kernel
theorem dX12_readsItem_33 : decode cX12_readsItem 33 = .ok (.ifCond .ne 5, 3) := by decide +kernel
theorem dX12_readsItem_36 : decode cX12_readsItem 36 = .ok (.iconst 0, 1) := by decide +kernel
theorem dX12_readsItem_37 : decode cX12_readsItem 37 = .ok (.ireturn, 1) := by decide +kernel
theorem dX12_readsItem_38 : decode cX12_readsItem 38 = .ok (.aload_n 0, 1) := by decide +kernel
theorem dX12_readsItem_39 : decode cX12_readsItem 39 = .ok (.getfield 7, 3) := by decide +kernel
theorem dX12_readsItem_42 : decode cX12_readsItem 42 = .ok (.iconst 0, 1) := by decide +kernel
theorem dX12_readsItem_43 : decode cX12_readsItem 43 = .ok (.aload_n 0, 1) := by decide +kernel
theorem dX12_readsItem_44 : decode cX12_readsItem 44 = .ok (.getfield 33, 3) := by decide +kernel
theorem dX12_readsItem_47 : decode cX12_readsItem 47 = .ok (.iconst 0, 1) := by decide +kernel
theorem dX12_readsItem_48 : decode cX12_readsItem 48 = .ok (.iaload, 1) := by decide +kernel
theorem dX12_readsItem_49 : decode cX12_readsItem 49 = .ok (.iadd, 1) := by decide +kernel
theorem dX12_readsItem_50 : decode cX12_readsItem 50 = .ok (.aload_n 0, 1) := by decide +kernel
theorem dX12_readsItem_51 : decode cX12_readsItem 51 = .ok (.getfield 33, 3) := by decide +kernel
theorem dX12_readsItem_54 : decode cX12_readsItem 54 = .ok (.iconst 1, 1) := by decide +kernel
theorem dX12_readsItem_55 : decode cX12_readsItem 55 = .ok (.iaload, 1) := by decide +kernel
theorem dX12_readsItem_56 : decode cX12_readsItem 56 = .ok (.iastore, 1) := by decide +kernel
theorem dX12_readsItem_57 : decode cX12_readsItem 57 = .ok (.iconst 1, 1) := by decide +kernel
theorem dX12_readsItem_58 : decode cX12_readsItem 58 = .ok (.ireturn, 1) := by decide +kernel
theorem dX12_readsItem_59 : decode cX12_readsItem 59 = .ok (.aload_n 0, 1) := by decide +kernel
theorem dX12_readsItem_60 : decode cX12_readsItem 60 = .ok (.bipush 99, 2) := by decide +kernel
theorem dX12_readsItem_62 : decode cX12_readsItem 62 = .ok (.bipush 97, 2) := by decide +kernel
theorem dX12_readsItem_64 : decode cX12_readsItem 64 = .ok (.bipush 110, 2) := by decide +kernel
theorem dX12_readsItem_66 : decode cX12_readsItem 66 = .ok (.bipush 97, 2) := by decide +kernel
theorem dX12_readsItem_68 : decode cX12_readsItem 68 = .ok (.bipush 108, 2) := by decide +kernel
theorem dX12_readsItem_70 : decode cX12_readsItem 70 = .ok (.invokevirtual 157, 3) := by decide +kernel
theorem dX12_readsItem_73 : decode cX12_readsItem 73 = .ok (.ifCond .eq 88, 3) := by decide +kernel
theorem dX12_readsItem_76 : decode cX12_readsItem 76 = .ok (.aload_n 0, 1) := by decide +kernel
theorem dX12_readsItem_77 : decode cX12_readsItem 77 = .ok (.iconst 0, 1) := by decide +kernel
theorem dX12_readsItem_78 : decode cX12_readsItem 78 = .ok (.iconst 0, 1) := by decide +kernel
theorem dX12_readsItem_79 : decode cX12_readsItem 79 = .ok (.bipush 7, 2) := by decide +kernel
theorem dX12_readsItem_81 : decode cX12_readsItem 81 = .ok (.invokevirtual 150, 3) := by decide +kernel
theorem dX12_readsItem_84 : decode cX12_readsItem 84 = .ok (.ifCond .eq 47, 3) := by decide +kernel
theorem dX12_readsItem_87 : decode cX12_readsItem 87 = .ok (.aload_n 0, 1) := by decide +kernel
theorem dX12_readsItem_88 : decode cX12_readsItem 88 = .ok (.iconst 1, 1) := by decide +kernel
theorem dX12_readsItem_89 : decode cX12_readsItem 89 = .ok (.iconst 0, 1) := by decide +kernel
theorem dX12_readsItem_90 : decode cX12_readsItem 90 = .ok (.bipush 7, 2) := by decide +kernel
theorem dX12_readsItem_92 : decode cX12_readsItem 92 = .ok (.invokevirtual 150, 3) := by decide +kernel
theorem dX12_readsItem_95 : decode cX12_readsItem 95 = .ok (.ifCond .eq 36, 3) := by decide +kernel
theorem dX12_readsItem_98 : decode cX12_readsItem 98 = .ok (.aload_n 0, 1) := by decide +kernel
theorem dX12_readsItem_99 : decode cX12_readsItem 99 = .ok (.getfield 33, 3) := by decide +kernel
theorem dX12_readsItem_102 : decode cX12_readsItem 102 = .ok (.iconst 0, 1) := by decide +kernel
theorem dX12_readsItem_103 : decode cX12_readsItem 103 = .ok (.iaload, 1) := by decide +kernel
theorem dX12_readsItem_104 : decode cX12_readsItem 104 = .ok (.aload_n 0, 1) := by decide +kernel
theorem dX12_readsItem_105 : decode cX12_readsItem 105 = .ok (.getfield 33, 3) := by decide +kernel
theorem dX12_readsItem_108 : decode cX12_readsItem 108 = .ok (.iconst 1, 1) := by decide +kernel
theorem dX12_readsItem_109 : decode cX12_readsItem 109 = .ok (.iaload, 1) := by decide +kernel
theorem dX12_readsItem_110 : decode cX12_readsItem 110 = .ok (.if_icmp .eq 21, 3) := by decide +kernel
theorem dX12_readsItem_113 : decode cX12_readsItem 113 = .ok (.aload_n 0, 1) := by decide +kernel
theorem dX12_readsItem_114 : decode cX12_readsItem 114 = .ok (.iconst 2, 1) := by decide +kernel
theorem dX12_readsItem_115 : decode cX12_readsItem 115 = .ok (.iconst 0, 1) := by decide +kernel
theorem dX12_readsItem_116 : decode cX12_readsItem 116 = .ok (.bipush 9, 2) := by decide +kernel
theorem dX12_readsItem_118 : decode cX12_readsItem 118 = .ok (.invokevirtual 150, 3) := by decide +kernel
theorem dX12_readsItem_121 : decode cX12_readsItem 121 = .ok (.ifCond .eq 10, 3) := by decide +kernel
theorem dX12_readsItem_124 : decode cX12_readsItem 124 = .ok (.aload_n 0, 1) := by decide +kernel
theorem dX12_readsItem_125 : decode cX12_readsItem 125 = .ok (.invokevirtual 154, 3) := by decide +kernel
theorem dX12_readsItem_128 : decode cX12_readsItem 128 = .ok (.ifCond .ne 5, 3) := by decide +kernel
theorem dX12_readsItem_131 : decode cX12_readsItem 131 = .ok (.iconst 0, 1) := by decide +kernel
theorem dX12_readsItem_132 : decode cX12_readsItem 132 = .ok (.ireturn, 1) := by decide +kernel
theorem dX12_readsItem_133 : decode cX12_readsItem 133 = .ok (.aload_n 0, 1) := by decide +kernel
theorem dX12_readsItem_134 : decode cX12_readsItem 134 = .ok (.getfield 7, 3) := by decide +kernel
theorem dX12_readsItem_137 : decode cX12_readsItem 137 = .ok (.aload_n 0, 1) := by decide +kernel
theorem dX12_readsItem_138 : decode cX12_readsItem 138 = .ok (.getfield 33, 3) := by decide +kernel
theorem dX12_readsItem_141 : decode cX12_readsItem 141 = .ok (.iconst 0, 1) := by decide +kernel
theorem dX12_readsItem_142 : decode cX12_readsItem 142 = .ok (.iaload, 1) := by decide +kernel
theorem dX12_readsItem_143 : decode cX12_readsItem 143 = .ok (.aload_n 0, 1) := by decide +kernel
theorem dX12_readsItem_144 : decode cX12_readsItem 144 = .ok (.getfield 33, 3) := by decide +kernel
theorem dX12_readsItem_147 : decode cX12_readsItem 147 = .ok (.iconst 1, 1) := by decide +kernel
theorem dX12_readsItem_148 : decode cX12_readsItem 148 = .ok (.iaload, 1) := by decide +kernel
theorem dX12_readsItem_149 : decode cX12_readsItem 149 = .ok (.invokestatic 79, 3) := by decide +kernel
theorem dX12_readsItem_152 : decode cX12_readsItem 152 = .ok (.aload_n 0, 1) := by decide +kernel
theorem dX12_readsItem_153 : decode cX12_readsItem 153 = .ok (.getfield 33, 3) := by decide +kernel
theorem dX12_readsItem_156 : decode cX12_readsItem 156 = .ok (.iconst 2, 1) := by decide +kernel
theorem dX12_readsItem_157 : decode cX12_readsItem 157 = .ok (.iaload, 1) := by decide +kernel
theorem dX12_readsItem_158 : decode cX12_readsItem 158 = .ok (.iastore, 1) := by decide +kernel
theorem dX12_readsItem_159 : decode cX12_readsItem 159 = .ok (.iconst 1, 1) := by decide +kernel
theorem dX12_readsItem_160 : decode cX12_readsItem 160 = .ok (.ireturn, 1) := by decide +kernel
theorem dX12_readsItem_161 : decode cX12_readsItem 161 = .ok (.aload_n 0, 1) := by decide +kernel
theorem dX12_readsItem_162 : decode cX12_readsItem 162 = .ok (.bipush 114, 2) := by decide +kernel
theorem dX12_readsItem_164 : decode cX12_readsItem 164 = .ok (.bipush 111, 2) := by decide +kernel
theorem dX12_readsItem_166 : decode cX12_readsItem 166 = .ok (.bipush 119, 2) := by decide +kernel
theorem dX12_readsItem_168 : decode cX12_readsItem 168 = .ok (.bipush 101, 2) := by decide +kernel
theorem dX12_readsItem_170 : decode cX12_readsItem 170 = .ok (.bipush 114, 2) := by decide +kernel
theorem dX12_readsItem_172 : decode cX12_readsItem 172 = .ok (.invokevirtual 157, 3) := by decide +kernel
theorem dX12_readsItem_175 : decode cX12_readsItem 175 = .ok (.ifCond .eq 62, 3) := by decide +kernel
theorem dX12_readsItem_178 : decode cX12_readsItem 178 = .ok (.aload_n 0, 1) := by decide +kernel
theorem dX12_readsItem_179 : decode cX12_readsItem 179 = .ok (.getfield 7, 3) := by decide +kernel
theorem dX12_readsItem_182 : decode cX12_readsItem 182 = .ok (.bipush 36, 2) := by decide +kernel
theorem dX12_readsItem_184 : decode cX12_readsItem 184 = .ok (.iaload, 1) := by decide +kernel
theorem dX12_readsItem_185 : decode cX12_readsItem 185 = .ok (.iconst 3, 1) := by decide +kernel
theorem dX12_readsItem_186 : decode cX12_readsItem 186 = .ok (.if_icmp .ge 51, 3) := by decide +kernel
theorem dX12_readsItem_189 : decode cX12_readsItem 189 = .ok (.aload_n 0, 1) := by decide +kernel
theorem dX12_readsItem_190 : decode cX12_readsItem 190 = .ok (.iconst 0, 1) := by decide +kernel
theorem dX12_readsItem_191 : decode cX12_readsItem 191 = .ok (.iconst 0, 1) := by decide +kernel
theorem dX12_readsItem_192 : decode cX12_readsItem 192 = .ok (.iconst 5, 1) := by decide +kernel
theorem dX12_readsItem_193 : decode cX12_readsItem 193 = .ok (.invokevirtual 150, 3) := by decide +kernel
theorem dX12_readsItem_196 : decode cX12_readsItem 196 = .ok (.ifCond .eq 21, 3) := by decide +kernel
theorem dX12_readsItem_199 : decode cX12_readsItem 199 = .ok (.aload_n 0, 1) := by decide +kernel
theorem dX12_readsItem_200 : decode cX12_readsItem 200 = .ok (.iconst 1, 1) := by decide +kernel
theorem dX12_readsItem_201 : decode cX12_readsItem 201 = .ok (.iconst 0, 1) := by decide +kernel
theorem dX12_readsItem_202 : decode cX12_readsItem 202 = .ok (.bipush 9, 2) := by decide +kernel
theorem dX12_readsItem_204 : decode cX12_readsItem 204 = .ok (.invokevirtual 150, 3) := by decide +kernel
theorem dX12_readsItem_207 : decode cX12_readsItem 207 = .ok (.ifCond .eq 10, 3) := by decide +kernel
theorem dX12_readsItem_210 : decode cX12_readsItem 210 = .ok (.aload_n 0, 1) := by decide +kernel
theorem dX12_readsItem_211 : decode cX12_readsItem 211 = .ok (.invokevirtual 154, 3) := by decide +kernel
theorem dX12_readsItem_214 : decode cX12_readsItem 214 = .ok (.ifCond .ne 5, 3) := by decide +kernel
theorem dX12_readsItem_217 : decode cX12_readsItem 217 = .ok (.iconst 0, 1) := by decide +kernel
theorem dX12_readsItem_218 : decode cX12_readsItem 218 = .ok (.ireturn, 1) := by decide +kernel
theorem dX12_readsItem_219 : decode cX12_readsItem 219 = .ok (.aload_n 0, 1) := by decide +kernel
theorem dX12_readsItem_220 : decode cX12_readsItem 220 = .ok (.aload_n 0, 1) := by decide +kernel
theorem dX12_readsItem_221 : decode cX12_readsItem 221 = .ok (.getfield 33, 3) := by decide +kernel
theorem dX12_readsItem_224 : decode cX12_readsItem 224 = .ok (.iconst 0, 1) := by decide +kernel
theorem dX12_readsItem_225 : decode cX12_readsItem 225 = .ok (.iaload, 1) := by decide +kernel
theorem dX12_readsItem_226 : decode cX12_readsItem 226 = .ok (.aload_n 0, 1) := by decide +kernel
theorem dX12_readsItem_227 : decode cX12_readsItem 227 = .ok (.getfield 33, 3) := by decide +kernel
theorem dX12_readsItem_230 : decode cX12_readsItem 230 = .ok (.iconst 1, 1) := by decide +kernel
theorem dX12_readsItem_231 : decode cX12_readsItem 231 = .ok (.iaload, 1) := by decide +kernel
theorem dX12_readsItem_232 : decode cX12_readsItem 232 = .ok (.invokevirtual 105, 3) := by decide +kernel
theorem dX12_readsItem_235 : decode cX12_readsItem 235 = .ok (.iconst 1, 1) := by decide +kernel
theorem dX12_readsItem_236 : decode cX12_readsItem 236 = .ok (.ireturn, 1) := by decide +kernel
theorem dX12_readsItem_237 : decode cX12_readsItem 237 = .ok (.aload_n 0, 1) := by decide +kernel
theorem dX12_readsItem_238 : decode cX12_readsItem 238 = .ok (.bipush 103, 2) := by decide +kernel
theorem dX12_readsItem_240 : decode cX12_readsItem 240 = .ok (.bipush 117, 2) := by decide +kernel
theorem dX12_readsItem_242 : decode cX12_readsItem 242 = .ok (.bipush 101, 2) := by decide +kernel
theorem dX12_readsItem_244 : decode cX12_readsItem 244 = .ok (.bipush 115, 2) := by decide +kernel
theorem dX12_readsItem_246 : decode cX12_readsItem 246 = .ok (.bipush 116, 2) := by decide +kernel
theorem dX12_readsItem_248 : decode cX12_readsItem 248 = .ok (.invokevirtual 157, 3) := by decide +kernel
theorem dX12_readsItem_251 : decode cX12_readsItem 251 = .ok (.ifCond .eq 62, 3) := by decide +kernel
theorem dX12_readsItem_254 : decode cX12_readsItem 254 = .ok (.aload_n 0, 1) := by decide +kernel
theorem dX12_readsItem_255 : decode cX12_readsItem 255 = .ok (.getfield 7, 3) := by decide +kernel
theorem dX12_readsItem_258 : decode cX12_readsItem 258 = .ok (.bipush 37, 2) := by decide +kernel
theorem dX12_readsItem_260 : decode cX12_readsItem 260 = .ok (.iaload, 1) := by decide +kernel
theorem dX12_readsItem_261 : decode cX12_readsItem 261 = .ok (.iconst 4, 1) := by decide +kernel
theorem dX12_readsItem_262 : decode cX12_readsItem 262 = .ok (.if_icmp .ge 51, 3) := by decide +kernel
theorem dX12_readsItem_265 : decode cX12_readsItem 265 = .ok (.aload_n 0, 1) := by decide +kernel
theorem dX12_readsItem_266 : decode cX12_readsItem 266 = .ok (.iconst 0, 1) := by decide +kernel
theorem dX12_readsItem_267 : decode cX12_readsItem 267 = .ok (.iconst 0, 1) := by decide +kernel
theorem dX12_readsItem_268 : decode cX12_readsItem 268 = .ok (.iconst 5, 1) := by decide +kernel
theorem dX12_readsItem_269 : decode cX12_readsItem 269 = .ok (.invokevirtual 150, 3) := by decide +kernel
theorem dX12_readsItem_272 : decode cX12_readsItem 272 = .ok (.ifCond .eq 21, 3) := by decide +kernel
theorem dX12_readsItem_275 : decode cX12_readsItem 275 = .ok (.aload_n 0, 1) := by decide +kernel
theorem dX12_readsItem_276 : decode cX12_readsItem 276 = .ok (.iconst 1, 1) := by decide +kernel
theorem dX12_readsItem_277 : decode cX12_readsItem 277 = .ok (.iconst 1, 1) := by decide +kernel
theorem dX12_readsItem_278 : decode cX12_readsItem 278 = .ok (.bipush 40, 2) := by decide +kernel
theorem dX12_readsItem_280 : decode cX12_readsItem 280 = .ok (.invokevirtual 150, 3) := by decide +kernel
theorem dX12_readsItem_283 : decode cX12_readsItem 283 = .ok (.ifCond .eq 10, 3) := by decide +kernel
theorem dX12_readsItem_286 : decode cX12_readsItem 286 = .ok (.aload_n 0, 1) := by decide +kernel
theorem dX12_readsItem_287 : decode cX12_readsItem 287 = .ok (.invokevirtual 154, 3) := by decide +kernel
theorem dX12_readsItem_290 : decode cX12_readsItem 290 = .ok (.ifCond .ne 5, 3) := by decide +kernel
theorem dX12_readsItem_293 : decode cX12_readsItem 293 = .ok (.iconst 0, 1) := by decide +kernel
theorem dX12_readsItem_294 : decode cX12_readsItem 294 = .ok (.ireturn, 1) := by decide +kernel
theorem dX12_readsItem_295 : decode cX12_readsItem 295 = .ok (.aload_n 0, 1) := by decide +kernel
theorem dX12_readsItem_296 : decode cX12_readsItem 296 = .ok (.aload_n 0, 1) := by decide +kernel
theorem dX12_readsItem_297 : decode cX12_readsItem 297 = .ok (.getfield 33, 3) := by decide +kernel
theorem dX12_readsItem_300 : decode cX12_readsItem 300 = .ok (.iconst 0, 1) := by decide +kernel
theorem dX12_readsItem_301 : decode cX12_readsItem 301 = .ok (.iaload, 1) := by decide +kernel
theorem dX12_readsItem_302 : decode cX12_readsItem 302 = .ok (.aload_n 0, 1) := by decide +kernel
theorem dX12_readsItem_303 : decode cX12_readsItem 303 = .ok (.getfield 33, 3) := by decide +kernel
theorem dX12_readsItem_306 : decode cX12_readsItem 306 = .ok (.iconst 1, 1) := by decide +kernel
theorem dX12_readsItem_307 : decode cX12_readsItem 307 = .ok (.iaload, 1) := by decide +kernel
theorem dX12_readsItem_308 : decode cX12_readsItem 308 = .ok (.invokevirtual 111, 3) := by decide +kernel
theorem dX12_readsItem_311 : decode cX12_readsItem 311 = .ok (.iconst 1, 1) := by decide +kernel
theorem dX12_readsItem_312 : decode cX12_readsItem 312 = .ok (.ireturn, 1) := by decide +kernel
theorem dX12_readsItem_313 : decode cX12_readsItem 313 = .ok (.aload_n 0, 1) := by decide +kernel
theorem dX12_readsItem_314 : decode cX12_readsItem 314 = .ok (.bipush 114, 2) := by decide +kernel
theorem dX12_readsItem_316 : decode cX12_readsItem 316 = .ok (.bipush 111, 2) := by decide +kernel
theorem dX12_readsItem_318 : decode cX12_readsItem 318 = .ok (.bipush 119, 2) := by decide +kernel
theorem dX12_readsItem_320 : decode cX12_readsItem 320 = .ok (.iconst 0, 1) := by decide +kernel
theorem dX12_readsItem_321 : decode cX12_readsItem 321 = .ok (.iconst 0, 1) := by decide +kernel
theorem dX12_readsItem_322 : decode cX12_readsItem 322 = .ok (.invokevirtual 157, 3) := by decide +kernel
theorem dX12_readsItem_325 : decode cX12_readsItem 325 = .ok (.ifCond .eq 76, 3) := by decide +kernel
theorem dX12_readsItem_328 : decode cX12_readsItem 328 = .ok (.aload_n 0, 1) := by decide +kernel
theorem dX12_readsItem_329 : decode cX12_readsItem 329 = .ok (.iconst 0, 1) := by decide +kernel
theorem dX12_readsItem_330 : decode cX12_readsItem 330 = .ok (.iconst 0, 1) := by decide +kernel
theorem dX12_readsItem_331 : decode cX12_readsItem 331 = .ok (.aload_n 0, 1) := by decide +kernel
theorem dX12_readsItem_332 : decode cX12_readsItem 332 = .ok (.getfield 7, 3) := by decide +kernel
theorem dX12_readsItem_335 : decode cX12_readsItem 335 = .ok (.bipush 37, 2) := by decide +kernel
theorem dX12_readsItem_337 : decode cX12_readsItem 337 = .ok (.iaload, 1) := by decide +kernel
theorem dX12_readsItem_338 : decode cX12_readsItem 338 = .ok (.iconst 1, 1) := by decide +kernel
theorem dX12_readsItem_339 : decode cX12_readsItem 339 = .ok (.isub, 1) := by decide +kernel
theorem dX12_readsItem_340 : decode cX12_readsItem 340 = .ok (.invokevirtual 150, 3) := by decide +kernel
theorem dX12_readsItem_343 : decode cX12_readsItem 343 = .ok (.ifCond .eq 58, 3) := by decide +kernel
theorem dX12_readsItem_346 : decode cX12_readsItem 346 = .ok (.aload_n 0, 1) := by decide +kernel
theorem dX12_readsItem_347 : decode cX12_readsItem 347 = .ok (.iconst 1, 1) := by decide +kernel
theorem dX12_readsItem_348 : decode cX12_readsItem 348 = .ok (.iconst 0, 1) := by decide +kernel
theorem dX12_readsItem_349 : decode cX12_readsItem 349 = .ok (.aload_n 0, 1) := by decide +kernel
theorem dX12_readsItem_350 : decode cX12_readsItem 350 = .ok (.getfield 7, 3) := by decide +kernel
theorem dX12_readsItem_353 : decode cX12_readsItem 353 = .ok (.bipush 36, 2) := by decide +kernel
theorem dX12_readsItem_355 : decode cX12_readsItem 355 = .ok (.iaload, 1) := by decide +kernel
theorem dX12_readsItem_356 : decode cX12_readsItem 356 = .ok (.iconst 1, 1) := by decide +kernel
theorem dX12_readsItem_357 : decode cX12_readsItem 357 = .ok (.isub, 1) := by decide +kernel
theorem dX12_readsItem_358 : decode cX12_readsItem 358 = .ok (.invokevirtual 150, 3) := by decide +kernel
theorem dX12_readsItem_361 : decode cX12_readsItem 361 = .ok (.ifCond .eq 40, 3) := by decide +kernel
theorem dX12_readsItem_364 : decode cX12_readsItem 364 = .ok (.aload_n 0, 1) := by decide +kernel
theorem dX12_readsItem_365 : decode cX12_readsItem 365 = .ok (.iconst 2, 1) := by decide +kernel
theorem dX12_readsItem_366 : decode cX12_readsItem 366 = .ok (.iconst 0, 1) := by decide +kernel
theorem dX12_readsItem_367 : decode cX12_readsItem 367 = .ok (.bipush 7, 2) := by decide +kernel
theorem dX12_readsItem_369 : decode cX12_readsItem 369 = .ok (.invokevirtual 150, 3) := by decide +kernel
theorem dX12_readsItem_372 : decode cX12_readsItem 372 = .ok (.ifCond .eq 29, 3) := by decide +kernel
theorem dX12_readsItem_375 : decode cX12_readsItem 375 = .ok (.aload_n 0, 1) := by decide +kernel
theorem dX12_readsItem_376 : decode cX12_readsItem 376 = .ok (.aload_n 0, 1) := by decide +kernel
theorem dX12_readsItem_377 : decode cX12_readsItem 377 = .ok (.getfield 33, 3) := by decide +kernel
theorem dX12_readsItem_380 : decode cX12_readsItem 380 = .ok (.iconst 0, 1) := by decide +kernel
theorem dX12_readsItem_381 : decode cX12_readsItem 381 = .ok (.iaload, 1) := by decide +kernel
theorem dX12_readsItem_382 : decode cX12_readsItem 382 = .ok (.aload_n 0, 1) := by decide +kernel
theorem dX12_readsItem_383 : decode cX12_readsItem 383 = .ok (.getfield 33, 3) := by decide +kernel
theorem dX12_readsItem_386 : decode cX12_readsItem 386 = .ok (.iconst 2, 1) := by decide +kernel
theorem dX12_readsItem_387 : decode cX12_readsItem 387 = .ok (.iaload, 1) := by decide +kernel
theorem dX12_readsItem_388 : decode cX12_readsItem 388 = .ok (.invokevirtual 161, 3) := by decide +kernel
theorem dX12_readsItem_391 : decode cX12_readsItem 391 = .ok (.ifCond .eq 10, 3) := by decide +kernel
theorem dX12_readsItem_394 : decode cX12_readsItem 394 = .ok (.aload_n 0, 1) := by decide +kernel
theorem dX12_readsItem_395 : decode cX12_readsItem 395 = .ok (.invokevirtual 154, 3) := by decide +kernel
theorem dX12_readsItem_398 : decode cX12_readsItem 398 = .ok (.ifCond .ne 5, 3) := by decide +kernel
theorem dX12_readsItem_401 : decode cX12_readsItem 401 = .ok (.iconst 0, 1) := by decide +kernel
theorem dX12_readsItem_402 : decode cX12_readsItem 402 = .ok (.ireturn, 1) := by decide +kernel
theorem dX12_readsItem_403 : decode cX12_readsItem 403 = .ok (.aload_n 0, 1) := by decide +kernel
theorem dX12_readsItem_404 : decode cX12_readsItem 404 = .ok (.aload_n 0, 1) := by decide +kernel
theorem dX12_readsItem_405 : decode cX12_readsItem 405 = .ok (.getfield 33, 3) := by decide +kernel
theorem dX12_readsItem_408 : decode cX12_readsItem 408 = .ok (.iconst 0, 1) := by decide +kernel
theorem dX12_readsItem_409 : decode cX12_readsItem 409 = .ok (.iaload, 1) := by decide +kernel
theorem dX12_readsItem_410 : decode cX12_readsItem 410 = .ok (.aload_n 0, 1) := by decide +kernel
theorem dX12_readsItem_411 : decode cX12_readsItem 411 = .ok (.getfield 33, 3) := by decide +kernel
theorem dX12_readsItem_414 : decode cX12_readsItem 414 = .ok (.iconst 1, 1) := by decide +kernel
theorem dX12_readsItem_415 : decode cX12_readsItem 415 = .ok (.iaload, 1) := by decide +kernel
theorem dX12_readsItem_416 : decode cX12_readsItem 416 = .ok (.aload_n 0, 1) := by decide +kernel
theorem dX12_readsItem_417 : decode cX12_readsItem 417 = .ok (.getfield 33, 3) := by decide +kernel
theorem dX12_readsItem_420 : decode cX12_readsItem 420 = .ok (.iconst 2, 1) := by decide +kernel
theorem dX12_readsItem_421 : decode cX12_readsItem 421 = .ok (.iaload, 1) := by decide +kernel
theorem dX12_readsItem_422 : decode cX12_readsItem 422 = .ok (.invokevirtual 165, 3) := by decide +kernel
theorem dX12_readsItem_425 : decode cX12_readsItem 425 = .ok (.iconst 1, 1) := by decide +kernel
theorem dX12_readsItem_426 : decode cX12_readsItem 426 = .ok (.ireturn, 1) := by decide +kernel
theorem dX12_reads_0 : decode cX12_reads 0 = .ok (.aload_n 0, 1) := by decide +kernel
theorem dX12_reads_1 : decode cX12_reads 1 = .ok (.iconst 0, 1) := by decide +kernel
theorem dX12_reads_2 : decode cX12_reads 2 = .ok (.putfield 120, 3) := by decide +kernel
theorem dX12_reads_5 : decode cX12_reads 5 = .ok (.aload_n 0, 1) := by decide +kernel
theorem dX12_reads_6 : decode cX12_reads 6 = .ok (.iconst 0, 1) := by decide +kernel
theorem dX12_reads_7 : decode cX12_reads 7 = .ok (.putfield 169, 3) := by decide +kernel
theorem dX12_reads_10 : decode cX12_reads 10 = .ok (.aload_n 0, 1) := by decide +kernel
theorem dX12_reads_11 : decode cX12_reads 11 = .ok (.invokevirtual 143, 3) := by decide +kernel
theorem dX12_reads_14 : decode cX12_reads 14 = .ok (.aload_n 0, 1) := by decide +kernel
theorem dX12_reads_15 : decode cX12_reads 15 = .ok (.bipush 119, 2) := by decide +kernel
theorem dX12_reads_17 : decode cX12_reads 17 = .ok (.bipush 97, 2) := by decide +kernel
theorem dX12_reads_19 : decode cX12_reads 19 = .ok (.bipush 116, 2) := by decide +kernel
theorem dX12_reads_21 : decode cX12_reads 21 = .ok (.bipush 101, 2) := by decide +kernel
theorem dX12_reads_23 : decode cX12_reads 23 = .ok (.bipush 114, 2) := by decide +kernel
theorem dX12_reads_25 : decode cX12_reads 25 = .ok (.invokevirtual 157, 3) := by decide +kernel
theorem dX12_reads_28 : decode cX12_reads 28 = .ok (.ifCond .eq 21, 3) := by decide +kernel
theorem dX12_reads_31 : decode cX12_reads 31 = .ok (.aload_n 0, 1) := by decide +kernel
theorem dX12_reads_32 : decode cX12_reads 32 = .ok (.iconst 0, 1) := by decide +kernel
theorem dX12_reads_33 : decode cX12_reads 33 = .ok (.iconst 0, 1) := by decide +kernel
theorem dX12_reads_34 : decode cX12_reads 34 = .ok (.bipush 9, 2) := by decide +kernel
theorem dX12_reads_36 : decode cX12_reads 36 = .ok (.invokevirtual 150, 3) := by decide +kernel
theorem dX12_reads_39 : decode cX12_reads 39 = .ok (.ifCond .eq 10, 3) := by decide +kernel
theorem dX12_reads_42 : decode cX12_reads 42 = .ok (.aload_n 0, 1) := by decide +kernel
theorem dX12_reads_43 : decode cX12_reads 43 = .ok (.invokevirtual 154, 3) := by decide +kernel
theorem dX12_reads_46 : decode cX12_reads 46 = .ok (.ifCond .ne 5, 3) := by decide +kernel
theorem dX12_reads_49 : decode cX12_reads 49 = .ok (.iconst 0, 1) := by decide +kernel
theorem dX12_reads_50 : decode cX12_reads 50 = .ok (.ireturn, 1) := by decide +kernel
theorem dX12_reads_51 : decode cX12_reads 51 = .ok (.aload_n 0, 1) := by decide +kernel
theorem dX12_reads_52 : decode cX12_reads 52 = .ok (.aload_n 0, 1) := by decide +kernel
theorem dX12_reads_53 : decode cX12_reads 53 = .ok (.getfield 33, 3) := by decide +kernel
theorem dX12_reads_56 : decode cX12_reads 56 = .ok (.iconst 0, 1) := by decide +kernel
theorem dX12_reads_57 : decode cX12_reads 57 = .ok (.iaload, 1) := by decide +kernel
theorem dX12_reads_58 : decode cX12_reads 58 = .ok (.invokevirtual 88, 3) := by decide +kernel
theorem dX12_reads_61 : decode cX12_reads 61 = .ok (.aload_n 0, 1) := by decide +kernel
theorem dX12_reads_62 : decode cX12_reads 62 = .ok (.dup, 1) := by decide +kernel
theorem dX12_reads_63 : decode cX12_reads 63 = .ok (.getfield 169, 3) := by decide +kernel
theorem dX12_reads_66 : decode cX12_reads 66 = .ok (.iconst 1, 1) := by decide +kernel
theorem dX12_reads_67 : decode cX12_reads 67 = .ok (.iadd, 1) := by decide +kernel
theorem dX12_reads_68 : decode cX12_reads 68 = .ok (.putfield 169, 3) := by decide +kernel
theorem dX12_reads_71 : decode cX12_reads 71 = .ok (.aload_n 0, 1) := by decide +kernel
theorem dX12_reads_72 : decode cX12_reads 72 = .ok (.invokevirtual 143, 3) := by decide +kernel
theorem dX12_reads_75 : decode cX12_reads 75 = .ok (.aload_n 0, 1) := by decide +kernel
theorem dX12_reads_76 : decode cX12_reads 76 = .ok (.getfield 140, 3) := by decide +kernel
theorem dX12_reads_79 : decode cX12_reads 79 = .ok (.ifCond .eq 29, 3) := by decide +kernel
theorem dX12_reads_82 : decode cX12_reads 82 = .ok (.aload_n 0, 1) := by decide +kernel
theorem dX12_reads_83 : decode cX12_reads 83 = .ok (.invokevirtual 172, 3) := by decide +kernel
theorem dX12_reads_86 : decode cX12_reads 86 = .ok (.ifCond .ne 5, 3) := by decide +kernel
theorem dX12_reads_89 : decode cX12_reads 89 = .ok (.iconst 0, 1) := by decide +kernel
theorem dX12_reads_90 : decode cX12_reads 90 = .ok (.ireturn, 1) := by decide +kernel
theorem dX12_reads_91 : decode cX12_reads 91 = .ok (.aload_n 0, 1) := by decide +kernel
theorem dX12_reads_92 : decode cX12_reads 92 = .ok (.dup, 1) := by decide +kernel
theorem dX12_reads_93 : decode cX12_reads 93 = .ok (.getfield 169, 3) := by decide +kernel
theorem dX12_reads_96 : decode cX12_reads 96 = .ok (.iconst 1, 1) := by decide +kernel
theorem dX12_reads_97 : decode cX12_reads 97 = .ok (.iadd, 1) := by decide +kernel
theorem dX12_reads_98 : decode cX12_reads 98 = .ok (.putfield 169, 3) := by decide +kernel
theorem dX12_reads_101 : decode cX12_reads 101 = .ok (.aload_n 0, 1) := by decide +kernel
theorem dX12_reads_102 : decode cX12_reads 102 = .ok (.invokevirtual 143, 3) := by decide +kernel
theorem dX12_reads_105 : decode cX12_reads 105 = .ok (.goto (-30), 3) := by decide +kernel
theorem dX12_reads_108 : decode cX12_reads 108 = .ok (.aload_n 0, 1) := by decide +kernel
theorem dX12_reads_109 : decode cX12_reads 109 = .ok (.getfield 7, 3) := by decide +kernel
theorem dX12_reads_112 : decode cX12_reads 112 = .ok (.sipush 157, 3) := by decide +kernel
theorem dX12_reads_115 : decode cX12_reads 115 = .ok (.iconst 0, 1) := by decide +kernel
theorem dX12_reads_116 : decode cX12_reads 116 = .ok (.iastore, 1) := by decide +kernel
theorem dX12_reads_117 : decode cX12_reads 117 = .ok (.iconst 1, 1) := by decide +kernel
theorem dX12_reads_118 : decode cX12_reads 118 = .ok (.ireturn, 1) := by decide +kernel
theorem dX12_read_0 : decode cX12_read 0 = .ok (.aload_n 0, 1) := by decide +kernel
theorem dX12_read_1 : decode cX12_read 1 = .ok (.getfield 7, 3) := by decide +kernel
theorem dX12_read_4 : decode cX12_read 4 = .ok (.iconst 0, 1) := by decide +kernel
theorem dX12_read_5 : decode cX12_read 5 = .ok (.aload_n 0, 1) := by decide +kernel
theorem dX12_read_6 : decode cX12_read 6 = .ok (.getfield 13, 3) := by decide +kernel
theorem dX12_read_9 : decode cX12_read 9 = .ok (.iconst 0, 1) := by decide +kernel
theorem dX12_read_10 : decode cX12_read 10 = .ok (.sipush 286, 3) := by decide +kernel
theorem dX12_read_13 : decode cX12_read 13 = .ok (.invokestatic 175, 3) := by decide +kernel
theorem dX12_read_16 : decode cX12_read 16 = .ok (.aload_n 0, 1) := by decide +kernel
theorem dX12_read_17 : decode cX12_read 17 = .ok (.invokevirtual 179, 3) := by decide +kernel
theorem dX12_read_20 : decode cX12_read 20 = .ok (.ifCond .ne 27, 3) := by decide +kernel
theorem dX12_read_23 : decode cX12_read 23 = .ok (.aload_n 0, 1) := by decide +kernel
theorem dX12_read_24 : decode cX12_read 24 = .ok (.getfield 13, 3) := by decide +kernel
theorem dX12_read_27 : decode cX12_read 27 = .ok (.iconst 0, 1) := by decide +kernel
theorem dX12_read_28 : decode cX12_read 28 = .ok (.aload_n 0, 1) := by decide +kernel
theorem dX12_read_29 : decode cX12_read 29 = .ok (.getfield 7, 3) := by decide +kernel
theorem dX12_read_32 : decode cX12_read 32 = .ok (.iconst 0, 1) := by decide +kernel
theorem dX12_read_33 : decode cX12_read 33 = .ok (.sipush 286, 3) := by decide +kernel
theorem dX12_read_36 : decode cX12_read 36 = .ok (.invokestatic 175, 3) := by decide +kernel
theorem dX12_read_39 : decode cX12_read 39 = .ok (.bipush (-10), 2) := by decide +kernel
theorem dX12_read_41 : decode cX12_read 41 = .ok (.aload_n 0, 1) := by decide +kernel
theorem dX12_read_42 : decode cX12_read 42 = .ok (.getfield 126, 3) := by decide +kernel
theorem dX12_read_45 : decode cX12_read 45 = .ok (.isub, 1) := by decide +kernel
theorem dX12_read_46 : decode cX12_read 46 = .ok (.ireturn, 1) := by decide +kernel
theorem dX12_read_47 : decode cX12_read 47 = .ok (.aload_n 0, 1) := by decide +kernel
theorem dX12_read_48 : decode cX12_read 48 = .ok (.getfield 169, 3) := by decide +kernel
theorem dX12_read_51 : decode cX12_read 51 = .ok (.ireturn, 1) := by decide +kernel
theorem dX12_can_0 : decode cX12_can 0 = .ok (.aload_n 0, 1) := by decide +kernel
theorem dX12_can_1 : decode cX12_can 1 = .ok (.getfield 7, 3) := by decide +kernel
theorem dX12_can_4 : decode cX12_can 4 = .ok (.bipush 60, 2) := by decide +kernel
theorem dX12_can_6 : decode cX12_can 6 = .ok (.iload_n 1, 1) := by decide +kernel
theorem dX12_can_7 : decode cX12_can 7 = .ok (.iadd, 1) := by decide +kernel
theorem dX12_can_8 : decode cX12_can 8 = .ok (.iaload, 1) := by decide +kernel
theorem dX12_can_9 : decode cX12_can 9 = .ok (.bipush 7, 2) := by decide +kernel
theorem dX12_can_11 : decode cX12_can 11 = .ok (.if_icmp .eq 24, 3) := by decide +kernel
theorem dX12_can_14 : decode cX12_can 14 = .ok (.aload_n 0, 1) := by decide +kernel
theorem dX12_can_15 : decode cX12_can 15 = .ok (.aload_n 0, 1) := by decide +kernel
theorem dX12_can_16 : decode cX12_can 16 = .ok (.getfield 7, 3) := by decide +kernel
theorem dX12_can_19 : decode cX12_can 19 = .ok (.bipush 60, 2) := by decide +kernel
theorem dX12_can_21 : decode cX12_can 21 = .ok (.iload_n 1, 1) := by decide +kernel
theorem dX12_can_22 : decode cX12_can 22 = .ok (.iadd, 1) := by decide +kernel
theorem dX12_can_23 : decode cX12_can 23 = .ok (.iaload, 1) := by decide +kernel
theorem dX12_can_24 : decode cX12_can 24 = .ok (.iload_n 2, 1) := by decide +kernel
theorem dX12_can_25 : decode cX12_can 25 = .ok (.invokevirtual 96, 3) := by decide +kernel
theorem dX12_can_28 : decode cX12_can 28 = .ok (.ifCond .le 7, 3) := by decide +kernel
theorem dX12_can_31 : decode cX12_can 31 = .ok (.iconst 1, 1) := by decide +kernel
theorem dX12_can_32 : decode cX12_can 32 = .ok (.goto 4, 3) := by decide +kernel
theorem dX12_can_35 : decode cX12_can 35 = .ok (.iconst 0, 1) := by decide +kernel
theorem dX12_can_36 : decode cX12_can 36 = .ok (.ireturn, 1) := by decide +kernel
theorem dX12_rowed_0 : decode cX12_rowed 0 = .ok (.aload_n 0, 1) := by decide +kernel
theorem dX12_rowed_1 : decode cX12_rowed 1 = .ok (.getfield 7, 3) := by decide +kernel
theorem dX12_rowed_4 : decode cX12_rowed 4 = .ok (.bipush 64, 2) := by decide +kernel
theorem dX12_rowed_6 : decode cX12_rowed 6 = .ok (.iload_n 1, 1) := by decide +kernel
theorem dX12_rowed_7 : decode cX12_rowed 7 = .ok (.iadd, 1) := by decide +kernel
theorem dX12_rowed_8 : decode cX12_rowed 8 = .ok (.sipush 999, 3) := by decide +kernel
theorem dX12_rowed_11 : decode cX12_rowed 11 = .ok (.aload_n 0, 1) := by decide +kernel
theorem dX12_rowed_12 : decode cX12_rowed 12 = .ok (.getfield 7, 3) := by decide +kernel
theorem dX12_rowed_15 : decode cX12_rowed 15 = .ok (.bipush 64, 2) := by decide +kernel
theorem dX12_rowed_17 : decode cX12_rowed 17 = .ok (.iload_n 1, 1) := by decide +kernel
theorem dX12_rowed_18 : decode cX12_rowed 18 = .ok (.iadd, 1) := by decide +kernel
theorem dX12_rowed_19 : decode cX12_rowed 19 = .ok (.iaload, 1) := by decide +kernel
theorem dX12_rowed_20 : decode cX12_rowed 20 = .ok (.aload_n 0, 1) := by decide +kernel
theorem dX12_rowed_21 : decode cX12_rowed 21 = .ok (.aload_n 0, 1) := by decide +kernel
theorem dX12_rowed_22 : decode cX12_rowed 22 = .ok (.getfield 7, 3) := by decide +kernel
theorem dX12_rowed_25 : decode cX12_rowed 25 = .ok (.bipush 60, 2) := by decide +kernel
theorem dX12_rowed_27 : decode cX12_rowed 27 = .ok (.iload_n 1, 1) := by decide +kernel
theorem dX12_rowed_28 : decode cX12_rowed 28 = .ok (.iadd, 1) := by decide +kernel
theorem dX12_rowed_29 : decode cX12_rowed 29 = .ok (.iaload, 1) := by decide +kernel
theorem dX12_rowed_30 : decode cX12_rowed 30 = .ok (.iload_n 3, 1) := by decide +kernel
theorem dX12_rowed_31 : decode cX12_rowed 31 = .ok (.invokevirtual 96, 3) := by decide +kernel
theorem dX12_rowed_34 : decode cX12_rowed 34 = .ok (.iadd, 1) := by decide +kernel
theorem dX12_rowed_35 : decode cX12_rowed 35 = .ok (.invokestatic 75, 3) := by decide +kernel
theorem dX12_rowed_38 : decode cX12_rowed 38 = .ok (.iastore, 1) := by decide +kernel
theorem dX12_rowed_39 : decode cX12_rowed 39 = .ok (.aload_n 0, 1) := by decide +kernel
theorem dX12_rowed_40 : decode cX12_rowed 40 = .ok (.getfield 7, 3) := by decide +kernel
theorem dX12_rowed_43 : decode cX12_rowed 43 = .ok (.bipush 60, 2) := by decide +kernel
theorem dX12_rowed_45 : decode cX12_rowed 45 = .ok (.iload_n 1, 1) := by decide +kernel
theorem dX12_rowed_46 : decode cX12_rowed 46 = .ok (.iadd, 1) := by decide +kernel
theorem dX12_rowed_47 : decode cX12_rowed 47 = .ok (.iload_n 3, 1) := by decide +kernel
theorem dX12_rowed_48 : decode cX12_rowed 48 = .ok (.iastore, 1) := by decide +kernel
theorem dX12_rowed_49 : decode cX12_rowed 49 = .ok (.aload_n 0, 1) := by decide +kernel
theorem dX12_rowed_50 : decode cX12_rowed 50 = .ok (.getfield 7, 3) := by decide +kernel
theorem dX12_rowed_53 : decode cX12_rowed 53 = .ok (.bipush 38, 2) := by decide +kernel
theorem dX12_rowed_55 : decode cX12_rowed 55 = .ok (.iload_n 2, 1) := by decide +kernel
theorem dX12_rowed_56 : decode cX12_rowed 56 = .ok (.iadd, 1) := by decide +kernel
theorem dX12_rowed_57 : decode cX12_rowed 57 = .ok (.iaload, 1) := by decide +kernel
theorem dX12_rowed_58 : decode cX12_rowed 58 = .ok (.aload_n 0, 1) := by decide +kernel
theorem dX12_rowed_59 : decode cX12_rowed 59 = .ok (.getfield 7, 3) := by decide +kernel
theorem dX12_rowed_62 : decode cX12_rowed 62 = .ok (.bipush 41, 2) := by decide +kernel
theorem dX12_rowed_64 : decode cX12_rowed 64 = .ok (.iload_n 2, 1) := by decide +kernel
theorem dX12_rowed_65 : decode cX12_rowed 65 = .ok (.iadd, 1) := by decide +kernel
theorem dX12_rowed_66 : decode cX12_rowed 66 = .ok (.iaload, 1) := by decide +kernel
theorem dX12_rowed_67 : decode cX12_rowed 67 = .ok (.aload_n 0, 1) := by decide +kernel
theorem dX12_rowed_68 : decode cX12_rowed 68 = .ok (.getfield 7, 3) := by decide +kernel
theorem dX12_rowed_71 : decode cX12_rowed 71 = .ok (.iconst 0, 1) := by decide +kernel
theorem dX12_rowed_72 : decode cX12_rowed 72 = .ok (.iload_n 3, 1) := by decide +kernel
theorem dX12_rowed_73 : decode cX12_rowed 73 = .ok (.iadd, 1) := by decide +kernel
theorem dX12_rowed_74 : decode cX12_rowed 74 = .ok (.iaload, 1) := by decide +kernel
theorem dX12_rowed_75 : decode cX12_rowed 75 = .ok (.aload_n 0, 1) := by decide +kernel
theorem dX12_rowed_76 : decode cX12_rowed 76 = .ok (.getfield 7, 3) := by decide +kernel
theorem dX12_rowed_79 : decode cX12_rowed 79 = .ok (.bipush 64, 2) := by decide +kernel
theorem dX12_rowed_81 : decode cX12_rowed 81 = .ok (.iload_n 1, 1) := by decide +kernel
theorem dX12_rowed_82 : decode cX12_rowed 82 = .ok (.iadd, 1) := by decide +kernel
theorem dX12_rowed_83 : decode cX12_rowed 83 = .ok (.iaload, 1) := by decide +kernel
theorem dX12_rowed_84 : decode cX12_rowed 84 = .ok (.invokestatic 182, 3) := by decide +kernel
theorem dX12_rowed_87 : decode cX12_rowed 87 = .ok (.aload_n 0, 1) := by decide +kernel
theorem dX12_rowed_88 : decode cX12_rowed 88 = .ok (.getfield 7, 3) := by decide +kernel
theorem dX12_rowed_91 : decode cX12_rowed 91 = .ok (.bipush 48, 2) := by decide +kernel
theorem dX12_rowed_93 : decode cX12_rowed 93 = .ok (.iload_n 1, 1) := by decide +kernel
theorem dX12_rowed_94 : decode cX12_rowed 94 = .ok (.iadd, 1) := by decide +kernel
theorem dX12_rowed_95 : decode cX12_rowed 95 = .ok (.iaload, 1) := by decide +kernel
theorem dX12_rowed_96 : decode cX12_rowed 96 = .ok (.aload_n 0, 1) := by decide +kernel
theorem dX12_rowed_97 : decode cX12_rowed 97 = .ok (.getfield 7, 3) := by decide +kernel
theorem dX12_rowed_100 : decode cX12_rowed 100 = .ok (.bipush 52, 2) := by decide +kernel
theorem dX12_rowed_102 : decode cX12_rowed 102 = .ok (.iload_n 1, 1) := by decide +kernel
theorem dX12_rowed_103 : decode cX12_rowed 103 = .ok (.iadd, 1) := by decide +kernel
theorem dX12_rowed_104 : decode cX12_rowed 104 = .ok (.iaload, 1) := by decide +kernel
theorem dX12_rowed_105 : decode cX12_rowed 105 = .ok (.isub, 1) := by decide +kernel
theorem dX12_rowed_106 : decode cX12_rowed 106 = .ok (.invokestatic 75, 3) := by decide +kernel
theorem dX12_rowed_109 : decode cX12_rowed 109 = .ok (.istore 4, 2) := by decide +kernel
theorem dX12_rowed_111 : decode cX12_rowed 111 = .ok (.aload_n 0, 1) := by decide +kernel
theorem dX12_rowed_112 : decode cX12_rowed 112 = .ok (.getfield 7, 3) := by decide +kernel
theorem dX12_rowed_115 : decode cX12_rowed 115 = .ok (.bipush 56, 2) := by decide +kernel
theorem dX12_rowed_117 : decode cX12_rowed 117 = .ok (.iload_n 1, 1) := by decide +kernel
theorem dX12_rowed_118 : decode cX12_rowed 118 = .ok (.iadd, 1) := by decide +kernel
theorem dX12_rowed_119 : decode cX12_rowed 119 = .ok (.sipush 999, 3) := by decide +kernel
theorem dX12_rowed_122 : decode cX12_rowed 122 = .ok (.aload_n 0, 1) := by decide +kernel
theorem dX12_rowed_123 : decode cX12_rowed 123 = .ok (.getfield 7, 3) := by decide +kernel
theorem dX12_rowed_126 : decode cX12_rowed 126 = .ok (.bipush 56, 2) := by decide +kernel
theorem dX12_rowed_128 : decode cX12_rowed 128 = .ok (.iload_n 1, 1) := by decide +kernel
theorem dX12_rowed_129 : decode cX12_rowed 129 = .ok (.iadd, 1) := by decide +kernel
theorem dX12_rowed_130 : decode cX12_rowed 130 = .ok (.iaload, 1) := by decide +kernel
theorem dX12_rowed_131 : decode cX12_rowed 131 = .ok (.aload_n 0, 1) := by decide +kernel
theorem dX12_rowed_132 : decode cX12_rowed 132 = .ok (.getfield 7, 3) := by decide +kernel
theorem dX12_rowed_135 : decode cX12_rowed 135 = .ok (.bipush 44, 2) := by decide +kernel
theorem dX12_rowed_137 : decode cX12_rowed 137 = .ok (.iload_n 1, 1) := by decide +kernel
theorem dX12_rowed_138 : decode cX12_rowed 138 = .ok (.iadd, 1) := by decide +kernel
theorem dX12_rowed_139 : decode cX12_rowed 139 = .ok (.iaload, 1) := by decide +kernel
theorem dX12_rowed_140 : decode cX12_rowed 140 = .ok (.aload_n 0, 1) := by decide +kernel
theorem dX12_rowed_141 : decode cX12_rowed 141 = .ok (.getfield 7, 3) := by decide +kernel
theorem dX12_rowed_144 : decode cX12_rowed 144 = .ok (.bipush 48, 2) := by decide +kernel
theorem dX12_rowed_146 : decode cX12_rowed 146 = .ok (.iload_n 1, 1) := by decide +kernel
theorem dX12_rowed_147 : decode cX12_rowed 147 = .ok (.iadd, 1) := by decide +kernel
theorem dX12_rowed_148 : decode cX12_rowed 148 = .ok (.iaload, 1) := by decide +kernel
theorem dX12_rowed_149 : decode cX12_rowed 149 = .ok (.aload_n 0, 1) := by decide +kernel
theorem dX12_rowed_150 : decode cX12_rowed 150 = .ok (.getfield 7, 3) := by decide +kernel
theorem dX12_rowed_153 : decode cX12_rowed 153 = .ok (.bipush 52, 2) := by decide +kernel
theorem dX12_rowed_155 : decode cX12_rowed 155 = .ok (.iload_n 1, 1) := by decide +kernel
theorem dX12_rowed_156 : decode cX12_rowed 156 = .ok (.iadd, 1) := by decide +kernel
theorem dX12_rowed_157 : decode cX12_rowed 157 = .ok (.iaload, 1) := by decide +kernel
theorem dX12_rowed_158 : decode cX12_rowed 158 = .ok (.iload 4, 2) := by decide +kernel
theorem dX12_rowed_160 : decode cX12_rowed 160 = .ok (.aload_n 0, 1) := by decide +kernel
theorem dX12_rowed_161 : decode cX12_rowed 161 = .ok (.getfield 7, 3) := by decide +kernel
theorem dX12_rowed_164 : decode cX12_rowed 164 = .ok (.iconst 0, 1) := by decide +kernel
theorem dX12_rowed_165 : decode cX12_rowed 165 = .ok (.iload_n 3, 1) := by decide +kernel
theorem dX12_rowed_166 : decode cX12_rowed 166 = .ok (.iadd, 1) := by decide +kernel
theorem dX12_rowed_167 : decode cX12_rowed 167 = .ok (.iaload, 1) := by decide +kernel
theorem dX12_rowed_168 : decode cX12_rowed 168 = .ok (.invokestatic 186, 3) := by decide +kernel
theorem dX12_rowed_171 : decode cX12_rowed 171 = .ok (.iadd, 1) := by decide +kernel
theorem dX12_rowed_172 : decode cX12_rowed 172 = .ok (.invokestatic 75, 3) := by decide +kernel
theorem dX12_rowed_175 : decode cX12_rowed 175 = .ok (.iastore, 1) := by decide +kernel
theorem dX12_rowed_176 : decode cX12_rowed 176 = .ok (.aload_n 0, 1) := by decide +kernel
theorem dX12_rowed_177 : decode cX12_rowed 177 = .ok (.getfield 7, 3) := by decide +kernel
theorem dX12_rowed_180 : decode cX12_rowed 180 = .ok (.bipush 52, 2) := by decide +kernel
theorem dX12_rowed_182 : decode cX12_rowed 182 = .ok (.iload_n 1, 1) := by decide +kernel
theorem dX12_rowed_183 : decode cX12_rowed 183 = .ok (.iadd, 1) := by decide +kernel
theorem dX12_rowed_184 : decode cX12_rowed 184 = .ok (.dup2, 1) := by decide +kernel
theorem dX12_rowed_185 : decode cX12_rowed 185 = .ok (.iaload, 1) := by decide +kernel
theorem dX12_rowed_186 : decode cX12_rowed 186 = .ok (.iload 4, 2) := by decide +kernel
theorem dX12_rowed_188 : decode cX12_rowed 188 = .ok (.iadd, 1) := by decide +kernel
theorem dX12_rowed_189 : decode cX12_rowed 189 = .ok (.iastore, 1) := by decide +kernel
theorem dX12_rowed_190 : decode cX12_rowed 190 = .ok (.return_, 1) := by decide +kernel
theorem dX12_notes_0 : decode cX12_notes 0 = .ok (.aload_n 0, 1) := by decide +kernel
theorem dX12_notes_1 : decode cX12_notes 1 = .ok (.getfield 7, 3) := by decide +kernel
theorem dX12_notes_4 : decode cX12_notes 4 = .ok (.sipush 157, 3) := by decide +kernel
theorem dX12_notes_7 : decode cX12_notes 7 = .ok (.iaload, 1) := by decide +kernel
theorem dX12_notes_8 : decode cX12_notes 8 = .ok (.bipush 8, 2) := by decide +kernel
theorem dX12_notes_10 : decode cX12_notes 10 = .ok (.if_icmp .ne 49, 3) := by decide +kernel
theorem dX12_notes_13 : decode cX12_notes 13 = .ok (.iconst 0, 1) := by decide +kernel
theorem dX12_notes_14 : decode cX12_notes 14 = .ok (.istore_n 1, 1) := by decide +kernel
theorem dX12_notes_15 : decode cX12_notes 15 = .ok (.iload_n 1, 1) := by decide +kernel
theorem dX12_notes_16 : decode cX12_notes 16 = .ok (.bipush 112, 2) := by decide +kernel
theorem dX12_notes_18 : decode cX12_notes 18 = .ok (.if_icmp .ge 29, 3) := by decide +kernel
theorem dX12_notes_21 : decode cX12_notes 21 = .ok (.aload_n 0, 1) := by decide +kernel
theorem dX12_notes_22 : decode cX12_notes 22 = .ok (.getfield 7, 3) := by decide +kernel
theorem dX12_notes_25 : decode cX12_notes 25 = .ok (.sipush 158, 3) := by decide +kernel
theorem dX12_notes_28 : decode cX12_notes 28 = .ok (.iload_n 1, 1) := by decide +kernel
theorem dX12_notes_29 : decode cX12_notes 29 = .ok (.iadd, 1) := by decide +kernel
theorem dX12_notes_30 : decode cX12_notes 30 = .ok (.aload_n 0, 1) := by decide +kernel
theorem dX12_notes_31 : decode cX12_notes 31 = .ok (.getfield 7, 3) := by decide +kernel
theorem dX12_notes_34 : decode cX12_notes 34 = .ok (.sipush 174, 3) := by decide +kernel
theorem dX12_notes_37 : decode cX12_notes 37 = .ok (.iload_n 1, 1) := by decide +kernel
theorem dX12_notes_38 : decode cX12_notes 38 = .ok (.iadd, 1) := by decide +kernel
theorem dX12_notes_39 : decode cX12_notes 39 = .ok (.iaload, 1) := by decide +kernel
theorem dX12_notes_40 : decode cX12_notes 40 = .ok (.iastore, 1) := by decide +kernel
theorem dX12_notes_41 : decode cX12_notes 41 = .ok (.iinc 1 1, 3) := by decide +kernel
theorem dX12_notes_44 : decode cX12_notes 44 = .ok (.goto (-29), 3) := by decide +kernel
theorem dX12_notes_47 : decode cX12_notes 47 = .ok (.aload_n 0, 1) := by decide +kernel
theorem dX12_notes_48 : decode cX12_notes 48 = .ok (.getfield 7, 3) := by decide +kernel
theorem dX12_notes_51 : decode cX12_notes 51 = .ok (.sipush 157, 3) := by decide +kernel
theorem dX12_notes_54 : decode cX12_notes 54 = .ok (.dup2, 1) := by decide +kernel
theorem dX12_notes_55 : decode cX12_notes 55 = .ok (.iaload, 1) := by decide +kernel
theorem dX12_notes_56 : decode cX12_notes 56 = .ok (.iconst 1, 1) := by decide +kernel
theorem dX12_notes_57 : decode cX12_notes 57 = .ok (.isub, 1) := by decide +kernel
theorem dX12_notes_58 : decode cX12_notes 58 = .ok (.iastore, 1) := by decide +kernel
theorem dX12_notes_59 : decode cX12_notes 59 = .ok (.aload_n 0, 1) := by decide +kernel
theorem dX12_notes_60 : decode cX12_notes 60 = .ok (.getfield 7, 3) := by decide +kernel
theorem dX12_notes_63 : decode cX12_notes 63 = .ok (.bipush 52, 2) := by decide +kernel
theorem dX12_notes_65 : decode cX12_notes 65 = .ok (.aload_n 0, 1) := by decide +kernel
theorem dX12_notes_66 : decode cX12_notes 66 = .ok (.getfield 7, 3) := by decide +kernel
theorem dX12_notes_69 : decode cX12_notes 69 = .ok (.sipush 158, 3) := by decide +kernel
theorem dX12_notes_72 : decode cX12_notes 72 = .ok (.bipush 16, 2) := by decide +kernel
theorem dX12_notes_74 : decode cX12_notes 74 = .ok (.aload_n 0, 1) := by decide +kernel
theorem dX12_notes_75 : decode cX12_notes 75 = .ok (.getfield 7, 3) := by decide +kernel
theorem dX12_notes_78 : decode cX12_notes 78 = .ok (.sipush 157, 3) := by decide +kernel
theorem dX12_notes_81 : decode cX12_notes 81 = .ok (.iaload, 1) := by decide +kernel
theorem dX12_notes_82 : decode cX12_notes 82 = .ok (.imul, 1) := by decide +kernel
theorem dX12_notes_83 : decode cX12_notes 83 = .ok (.iadd, 1) := by decide +kernel
theorem dX12_notes_84 : decode cX12_notes 84 = .ok (.bipush 16, 2) := by decide +kernel
theorem dX12_notes_86 : decode cX12_notes 86 = .ok (.invokestatic 175, 3) := by decide +kernel
theorem dX12_notes_89 : decode cX12_notes 89 = .ok (.aload_n 0, 1) := by decide +kernel
theorem dX12_notes_90 : decode cX12_notes 90 = .ok (.getfield 7, 3) := by decide +kernel
theorem dX12_notes_93 : decode cX12_notes 93 = .ok (.sipush 157, 3) := by decide +kernel
theorem dX12_notes_96 : decode cX12_notes 96 = .ok (.dup2, 1) := by decide +kernel
theorem dX12_notes_97 : decode cX12_notes 97 = .ok (.iaload, 1) := by decide +kernel
theorem dX12_notes_98 : decode cX12_notes 98 = .ok (.iconst 1, 1) := by decide +kernel
theorem dX12_notes_99 : decode cX12_notes 99 = .ok (.iadd, 1) := by decide +kernel
theorem dX12_notes_100 : decode cX12_notes 100 = .ok (.iastore, 1) := by decide +kernel
theorem dX12_notes_101 : decode cX12_notes 101 = .ok (.return_, 1) := by decide +kernel
theorem dX12_rows_0 : decode cX12_rows 0 = .ok (.aload_n 0, 1) := by decide +kernel
theorem dX12_rows_1 : decode cX12_rows 1 = .ok (.iload_n 1, 1) := by decide +kernel
theorem dX12_rows_2 : decode cX12_rows 2 = .ok (.invokevirtual 190, 3) := by decide +kernel
theorem dX12_rows_5 : decode cX12_rows 5 = .ok (.ifCond .eq 18, 3) := by decide +kernel
theorem dX12_rows_8 : decode cX12_rows 8 = .ok (.aload_n 0, 1) := by decide +kernel
theorem dX12_rows_9 : decode cX12_rows 9 = .ok (.iload_n 2, 1) := by decide +kernel
theorem dX12_rows_10 : decode cX12_rows 10 = .ok (.invokevirtual 193, 3) := by decide +kernel
theorem dX12_rows_13 : decode cX12_rows 13 = .ok (.ifCond .eq 10, 3) := by decide +kernel
theorem dX12_rows_16 : decode cX12_rows 16 = .ok (.iload_n 3, 1) := by decide +kernel
theorem dX12_rows_17 : decode cX12_rows 17 = .ok (.invokestatic 92, 3) := by decide +kernel
theorem dX12_rows_20 : decode cX12_rows 20 = .ok (.ifCond .ne 10, 3) := by decide +kernel
theorem dX12_rows_23 : decode cX12_rows 23 = .ok (.aload_n 0, 1) := by decide +kernel
theorem dX12_rows_24 : decode cX12_rows 24 = .ok (.bipush (-2), 2) := by decide +kernel
theorem dX12_rows_26 : decode cX12_rows 26 = .ok (.invokevirtual 84, 3) := by decide +kernel
theorem dX12_rows_29 : decode cX12_rows 29 = .ok (.ireturn, 1) := by decide +kernel
theorem dX12_rows_30 : decode cX12_rows 30 = .ok (.aload_n 0, 1) := by decide +kernel
theorem dX12_rows_31 : decode cX12_rows 31 = .ok (.iload_n 1, 1) := by decide +kernel
theorem dX12_rows_32 : decode cX12_rows 32 = .ok (.iload_n 3, 1) := by decide +kernel
theorem dX12_rows_33 : decode cX12_rows 33 = .ok (.invokevirtual 161, 3) := by decide +kernel
theorem dX12_rows_36 : decode cX12_rows 36 = .ok (.ifCond .ne 8, 3) := by decide +kernel
theorem dX12_rows_39 : decode cX12_rows 39 = .ok (.aload_n 0, 1) := by decide +kernel
theorem dX12_rows_40 : decode cX12_rows 40 = .ok (.invokevirtual 196, 3) := by decide +kernel
theorem dX12_rows_43 : decode cX12_rows 43 = .ok (.ireturn, 1) := by decide +kernel
theorem dX12_rows_44 : decode cX12_rows 44 = .ok (.aload_n 0, 1) := by decide +kernel
theorem dX12_rows_45 : decode cX12_rows 45 = .ok (.invokevirtual 199, 3) := by decide +kernel
theorem dX12_rows_48 : decode cX12_rows 48 = .ok (.aload_n 0, 1) := by decide +kernel
theorem dX12_rows_49 : decode cX12_rows 49 = .ok (.iload_n 1, 1) := by decide +kernel
theorem dX12_rows_50 : decode cX12_rows 50 = .ok (.iload_n 2, 1) := by decide +kernel
theorem dX12_rows_51 : decode cX12_rows 51 = .ok (.iload_n 3, 1) := by decide +kernel
theorem dX12_rows_52 : decode cX12_rows 52 = .ok (.invokevirtual 165, 3) := by decide +kernel
theorem dX12_rows_55 : decode cX12_rows 55 = .ok (.aload_n 0, 1) := by decide +kernel
theorem dX12_rows_56 : decode cX12_rows 56 = .ok (.getfield 7, 3) := by decide +kernel
theorem dX12_rows_59 : decode cX12_rows 59 = .ok (.bipush 52, 2) := by decide +kernel
theorem dX12_rows_61 : decode cX12_rows 61 = .ok (.iload_n 1, 1) := by decide +kernel
theorem dX12_rows_62 : decode cX12_rows 62 = .ok (.iadd, 1) := by decide +kernel
theorem dX12_rows_63 : decode cX12_rows 63 = .ok (.iaload, 1) := by decide +kernel
theorem dX12_rows_64 : decode cX12_rows 64 = .ok (.ireturn, 1) := by decide +kernel
theorem dX12_enters_0 : decode cX12_enters 0 = .ok (.aload_n 0, 1) := by decide +kernel
theorem dX12_enters_1 : decode cX12_enters 1 = .ok (.iload_n 1, 1) := by decide +kernel
theorem dX12_enters_2 : decode cX12_enters 2 = .ok (.invokevirtual 190, 3) := by decide +kernel
theorem dX12_enters_5 : decode cX12_enters 5 = .ok (.ifCond .ne 10, 3) := by decide +kernel
theorem dX12_enters_8 : decode cX12_enters 8 = .ok (.aload_n 0, 1) := by decide +kernel
theorem dX12_enters_9 : decode cX12_enters 9 = .ok (.bipush (-2), 2) := by decide +kernel
theorem dX12_enters_11 : decode cX12_enters 11 = .ok (.invokevirtual 84, 3) := by decide +kernel
theorem dX12_enters_14 : decode cX12_enters 14 = .ok (.ireturn, 1) := by decide +kernel
theorem dX12_enters_15 : decode cX12_enters 15 = .ok (.aload_n 0, 1) := by decide +kernel
theorem dX12_enters_16 : decode cX12_enters 16 = .ok (.getfield 7, 3) := by decide +kernel
theorem dX12_enters_19 : decode cX12_enters 19 = .ok (.bipush 60, 2) := by decide +kernel
theorem dX12_enters_21 : decode cX12_enters 21 = .ok (.iload_n 1, 1) := by decide +kernel
theorem dX12_enters_22 : decode cX12_enters 22 = .ok (.iadd, 1) := by decide +kernel
theorem dX12_enters_23 : decode cX12_enters 23 = .ok (.iaload, 1) := by decide +kernel
theorem dX12_enters_24 : decode cX12_enters 24 = .ok (.ifCond .ne 8, 3) := by decide +kernel
theorem dX12_enters_27 : decode cX12_enters 27 = .ok (.aload_n 0, 1) := by decide +kernel
theorem dX12_enters_28 : decode cX12_enters 28 = .ok (.invokevirtual 196, 3) := by decide +kernel
theorem dX12_enters_31 : decode cX12_enters 31 = .ok (.ireturn, 1) := by decide +kernel
theorem dX12_enters_32 : decode cX12_enters 32 = .ok (.aload_n 0, 1) := by decide +kernel
theorem dX12_enters_33 : decode cX12_enters 33 = .ok (.invokevirtual 199, 3) := by decide +kernel
theorem dX12_enters_36 : decode cX12_enters 36 = .ok (.aload_n 0, 1) := by decide +kernel
theorem dX12_enters_37 : decode cX12_enters 37 = .ok (.getfield 7, 3) := by decide +kernel
theorem dX12_enters_40 : decode cX12_enters 40 = .ok (.bipush 60, 2) := by decide +kernel
theorem dX12_enters_42 : decode cX12_enters 42 = .ok (.iload_n 1, 1) := by decide +kernel
theorem dX12_enters_43 : decode cX12_enters 43 = .ok (.iadd, 1) := by decide +kernel
theorem dX12_enters_44 : decode cX12_enters 44 = .ok (.iaload, 1) := by decide +kernel
theorem dX12_enters_45 : decode cX12_enters 45 = .ok (.istore_n 2, 1) := by decide +kernel
theorem dX12_enters_46 : decode cX12_enters 46 = .ok (.aload_n 0, 1) := by decide +kernel
theorem dX12_enters_47 : decode cX12_enters 47 = .ok (.getfield 7, 3) := by decide +kernel
theorem dX12_enters_50 : decode cX12_enters 50 = .ok (.bipush 60, 2) := by decide +kernel
theorem dX12_enters_52 : decode cX12_enters 52 = .ok (.iload_n 1, 1) := by decide +kernel
theorem dX12_enters_53 : decode cX12_enters 53 = .ok (.iadd, 1) := by decide +kernel
theorem dX12_enters_54 : decode cX12_enters 54 = .ok (.iconst 0, 1) := by decide +kernel
theorem dX12_enters_55 : decode cX12_enters 55 = .ok (.iastore, 1) := by decide +kernel
theorem dX12_enters_56 : decode cX12_enters 56 = .ok (.aload_n 0, 1) := by decide +kernel
theorem dX12_enters_57 : decode cX12_enters 57 = .ok (.getfield 7, 3) := by decide +kernel
theorem dX12_enters_60 : decode cX12_enters 60 = .ok (.bipush 64, 2) := by decide +kernel
theorem dX12_enters_62 : decode cX12_enters 62 = .ok (.iload_n 1, 1) := by decide +kernel
theorem dX12_enters_63 : decode cX12_enters 63 = .ok (.iadd, 1) := by decide +kernel
theorem dX12_enters_64 : decode cX12_enters 64 = .ok (.iconst 0, 1) := by decide +kernel
theorem dX12_enters_65 : decode cX12_enters 65 = .ok (.iastore, 1) := by decide +kernel
theorem dX12_enters_66 : decode cX12_enters 66 = .ok (.iload_n 2, 1) := by decide +kernel
theorem dX12_enters_67 : decode cX12_enters 67 = .ok (.ireturn, 1) := by decide +kernel
theorem dX12_undo_0 : decode cX12_undo 0 = .ok (.aload_n 0, 1) := by decide +kernel
theorem dX12_undo_1 : decode cX12_undo 1 = .ok (.getfield 7, 3) := by decide +kernel
theorem dX12_undo_4 : decode cX12_undo 4 = .ok (.sipush 157, 3) := by decide +kernel
theorem dX12_undo_7 : decode cX12_undo 7 = .ok (.iaload, 1) := by decide +kernel
theorem dX12_undo_8 : decode cX12_undo 8 = .ok (.ifCond .ne 8, 3) := by decide +kernel
theorem dX12_undo_11 : decode cX12_undo 11 = .ok (.aload_n 0, 1) := by decide +kernel
theorem dX12_undo_12 : decode cX12_undo 12 = .ok (.invokevirtual 196, 3) := by decide +kernel
theorem dX12_undo_15 : decode cX12_undo 15 = .ok (.ireturn, 1) := by decide +kernel
theorem dX12_undo_16 : decode cX12_undo 16 = .ok (.aload_n 0, 1) := by decide +kernel
theorem dX12_undo_17 : decode cX12_undo 17 = .ok (.getfield 7, 3) := by decide +kernel
theorem dX12_undo_20 : decode cX12_undo 20 = .ok (.sipush 157, 3) := by decide +kernel
theorem dX12_undo_23 : decode cX12_undo 23 = .ok (.dup2, 1) := by decide +kernel
theorem dX12_undo_24 : decode cX12_undo 24 = .ok (.iaload, 1) := by decide +kernel
theorem dX12_undo_25 : decode cX12_undo 25 = .ok (.iconst 1, 1) := by decide +kernel
theorem dX12_undo_26 : decode cX12_undo 26 = .ok (.isub, 1) := by decide +kernel
theorem dX12_undo_27 : decode cX12_undo 27 = .ok (.iastore, 1) := by decide +kernel
theorem dX12_undo_28 : decode cX12_undo 28 = .ok (.aload_n 0, 1) := by decide +kernel
theorem dX12_undo_29 : decode cX12_undo 29 = .ok (.getfield 7, 3) := by decide +kernel
theorem dX12_undo_32 : decode cX12_undo 32 = .ok (.sipush 158, 3) := by decide +kernel
theorem dX12_undo_35 : decode cX12_undo 35 = .ok (.bipush 16, 2) := by decide +kernel
theorem dX12_undo_37 : decode cX12_undo 37 = .ok (.aload_n 0, 1) := by decide +kernel
theorem dX12_undo_38 : decode cX12_undo 38 = .ok (.getfield 7, 3) := by decide +kernel
theorem dX12_undo_41 : decode cX12_undo 41 = .ok (.sipush 157, 3) := by decide +kernel
theorem dX12_undo_44 : decode cX12_undo 44 = .ok (.iaload, 1) := by decide +kernel
theorem dX12_undo_45 : decode cX12_undo 45 = .ok (.imul, 1) := by decide +kernel
theorem dX12_undo_46 : decode cX12_undo 46 = .ok (.iadd, 1) := by decide +kernel
theorem dX12_undo_47 : decode cX12_undo 47 = .ok (.aload_n 0, 1) := by decide +kernel
theorem dX12_undo_48 : decode cX12_undo 48 = .ok (.getfield 7, 3) := by decide +kernel
theorem dX12_undo_51 : decode cX12_undo 51 = .ok (.bipush 52, 2) := by decide +kernel
theorem dX12_undo_53 : decode cX12_undo 53 = .ok (.bipush 16, 2) := by decide +kernel
theorem dX12_undo_55 : decode cX12_undo 55 = .ok (.invokestatic 175, 3) := by decide +kernel
theorem dX12_undo_58 : decode cX12_undo 58 = .ok (.aload_n 0, 1) := by decide +kernel
theorem dX12_undo_59 : decode cX12_undo 59 = .ok (.getfield 7, 3) := by decide +kernel
theorem dX12_undo_62 : decode cX12_undo 62 = .ok (.sipush 157, 3) := by decide +kernel
theorem dX12_undo_65 : decode cX12_undo 65 = .ok (.iaload, 1) := by decide +kernel
theorem dX12_undo_66 : decode cX12_undo 66 = .ok (.ireturn, 1) := by decide +kernel
theorem dX12_of_0 : decode cX12_of 0 = .ok (.aload_n 0, 1) := by decide +kernel
theorem dX12_of_1 : decode cX12_of 1 = .ok (.iload_n 1, 1) := by decide +kernel
theorem dX12_of_2 : decode cX12_of 2 = .ok (.invokevirtual 190, 3) := by decide +kernel
theorem dX12_of_5 : decode cX12_of 5 = .ok (.ifCond .eq 31, 3) := by decide +kernel
theorem dX12_of_8 : decode cX12_of 8 = .ok (.iload_n 2, 1) := by decide +kernel
theorem dX12_of_9 : decode cX12_of 9 = .ok (.i2l, 1) := by decide +kernel
theorem dX12_of_10 : decode cX12_of 10 = .ok (.lconst 0, 1) := by decide +kernel
theorem dX12_of_11 : decode cX12_of 11 = .ok (.ldc2_w 99, 3) := by decide +kernel
theorem dX12_of_14 : decode cX12_of 14 = .ok (.invokestatic 69, 3) := by decide +kernel
theorem dX12_of_17 : decode cX12_of 17 = .ok (.ifCond .eq 19, 3) := by decide +kernel
theorem dX12_of_20 : decode cX12_of 20 = .ok (.aload_n 0, 1) := by decide +kernel
theorem dX12_of_21 : decode cX12_of 21 = .ok (.getfield 7, 3) := by decide +kernel
theorem dX12_of_24 : decode cX12_of 24 = .ok (.bipush 44, 2) := by decide +kernel
theorem dX12_of_26 : decode cX12_of 26 = .ok (.iconst 4, 1) := by decide +kernel
theorem dX12_of_27 : decode cX12_of 27 = .ok (.iload_n 2, 1) := by decide +kernel
theorem dX12_of_28 : decode cX12_of 28 = .ok (.imul, 1) := by decide +kernel
theorem dX12_of_29 : decode cX12_of 29 = .ok (.iadd, 1) := by decide +kernel
theorem dX12_of_30 : decode cX12_of 30 = .ok (.iload_n 1, 1) := by decide +kernel
theorem dX12_of_31 : decode cX12_of 31 = .ok (.iadd, 1) := by decide +kernel
theorem dX12_of_32 : decode cX12_of 32 = .ok (.iaload, 1) := by decide +kernel
theorem dX12_of_33 : decode cX12_of 33 = .ok (.goto 9, 3) := by decide +kernel
theorem dX12_of_36 : decode cX12_of 36 = .ok (.aload_n 0, 1) := by decide +kernel
theorem dX12_of_37 : decode cX12_of 37 = .ok (.bipush (-2), 2) := by decide +kernel
theorem dX12_of_39 : decode cX12_of 39 = .ok (.invokevirtual 84, 3) := by decide +kernel
theorem dX12_of_42 : decode cX12_of 42 = .ok (.ireturn, 1) := by decide +kernel
theorem dX12_who_0 : decode cX12_who 0 = .ok (.aload_n 0, 1) := by decide +kernel
theorem dX12_who_1 : decode cX12_who 1 = .ok (.iload_n 1, 1) := by decide +kernel
theorem dX12_who_2 : decode cX12_who 2 = .ok (.invokevirtual 193, 3) := by decide +kernel
theorem dX12_who_5 : decode cX12_who 5 = .ok (.ifCond .eq 29, 3) := by decide +kernel
theorem dX12_who_8 : decode cX12_who 8 = .ok (.iload_n 2, 1) := by decide +kernel
theorem dX12_who_9 : decode cX12_who 9 = .ok (.i2l, 1) := by decide +kernel
theorem dX12_who_10 : decode cX12_who 10 = .ok (.lconst 0, 1) := by decide +kernel
theorem dX12_who_11 : decode cX12_who 11 = .ok (.lconst 1, 1) := by decide +kernel
theorem dX12_who_12 : decode cX12_who 12 = .ok (.invokestatic 69, 3) := by decide +kernel
theorem dX12_who_15 : decode cX12_who 15 = .ok (.ifCond .eq 19, 3) := by decide +kernel
theorem dX12_who_18 : decode cX12_who 18 = .ok (.aload_n 0, 1) := by decide +kernel
theorem dX12_who_19 : decode cX12_who 19 = .ok (.getfield 7, 3) := by decide +kernel
theorem dX12_who_22 : decode cX12_who 22 = .ok (.bipush 38, 2) := by decide +kernel
theorem dX12_who_24 : decode cX12_who 24 = .ok (.iconst 3, 1) := by decide +kernel
theorem dX12_who_25 : decode cX12_who 25 = .ok (.iload_n 2, 1) := by decide +kernel
theorem dX12_who_26 : decode cX12_who 26 = .ok (.imul, 1) := by decide +kernel
theorem dX12_who_27 : decode cX12_who 27 = .ok (.iadd, 1) := by decide +kernel
theorem dX12_who_28 : decode cX12_who 28 = .ok (.iload_n 1, 1) := by decide +kernel
theorem dX12_who_29 : decode cX12_who 29 = .ok (.iadd, 1) := by decide +kernel
theorem dX12_who_30 : decode cX12_who 30 = .ok (.iaload, 1) := by decide +kernel
theorem dX12_who_31 : decode cX12_who 31 = .ok (.goto 9, 3) := by decide +kernel
theorem dX12_who_34 : decode cX12_who 34 = .ok (.aload_n 0, 1) := by decide +kernel
theorem dX12_who_35 : decode cX12_who 35 = .ok (.bipush (-2), 2) := by decide +kernel
theorem dX12_who_37 : decode cX12_who 37 = .ok (.invokevirtual 84, 3) := by decide +kernel
theorem dX12_who_40 : decode cX12_who 40 = .ok (.ireturn, 1) := by decide +kernel
theorem dX12_beside_0 : decode cX12_beside 0 = .ok (.iconst 0, 1) := by decide +kernel
theorem dX12_beside_1 : decode cX12_beside 1 = .ok (.istore_n 2, 1) := by decide +kernel
theorem dX12_beside_2 : decode cX12_beside 2 = .ok (.iconst 0, 1) := by decide +kernel
theorem dX12_beside_3 : decode cX12_beside 3 = .ok (.istore_n 3, 1) := by decide +kernel
theorem dX12_beside_4 : decode cX12_beside 4 = .ok (.iload_n 3, 1) := by decide +kernel
theorem dX12_beside_5 : decode cX12_beside 5 = .ok (.bipush 8, 2) := by decide +kernel
theorem dX12_beside_7 : decode cX12_beside 7 = .ok (.if_icmp .ge 28, 3) := by decide +kernel
theorem dX12_beside_10 : decode cX12_beside 10 = .ok (.iload_n 2, 1) := by decide +kernel
theorem dX12_beside_11 : decode cX12_beside 11 = .ok (.aload_n 0, 1) := by decide +kernel
theorem dX12_beside_12 : decode cX12_beside 12 = .ok (.iload_n 1, 1) := by decide +kernel
theorem dX12_beside_13 : decode cX12_beside 13 = .ok (.iload_n 3, 1) := by decide +kernel
theorem dX12_beside_14 : decode cX12_beside 14 = .ok (.invokevirtual 96, 3) := by decide +kernel
theorem dX12_beside_17 : decode cX12_beside 17 = .ok (.ifCond .le 9, 3) := by decide +kernel
theorem dX12_beside_20 : decode cX12_beside 20 = .ok (.iconst 1, 1) := by decide +kernel
theorem dX12_beside_21 : decode cX12_beside 21 = .ok (.iload_n 3, 1) := by decide +kernel
theorem dX12_beside_22 : decode cX12_beside 22 = .ok (.ishl, 1) := by decide +kernel
theorem dX12_beside_23 : decode cX12_beside 23 = .ok (.goto 4, 3) := by decide +kernel
theorem dX12_beside_26 : decode cX12_beside 26 = .ok (.iconst 0, 1) := by decide +kernel
theorem dX12_beside_27 : decode cX12_beside 27 = .ok (.ior, 1) := by decide +kernel
theorem dX12_beside_28 : decode cX12_beside 28 = .ok (.istore_n 2, 1) := by decide +kernel
theorem dX12_beside_29 : decode cX12_beside 29 = .ok (.iinc 3 1, 3) := by decide +kernel
theorem dX12_beside_32 : decode cX12_beside 32 = .ok (.goto (-28), 3) := by decide +kernel
theorem dX12_beside_35 : decode cX12_beside 35 = .ok (.iload_n 2, 1) := by decide +kernel
theorem dX12_beside_36 : decode cX12_beside 36 = .ok (.ireturn, 1) := by decide +kernel
theorem dX12_about_0 : decode cX12_about 0 = .ok (.iload_n 1, 1) := by decide +kernel
theorem dX12_about_1 : decode cX12_about 1 = .ok (.invokestatic 92, 3) := by decide +kernel
theorem dX12_about_4 : decode cX12_about 4 = .ok (.ifCond .eq 15, 3) := by decide +kernel
theorem dX12_about_7 : decode cX12_about 7 = .ok (.iload_n 2, 1) := by decide +kernel
theorem dX12_about_8 : decode cX12_about 8 = .ok (.i2l, 1) := by decide +kernel
theorem dX12_about_9 : decode cX12_about 9 = .ok (.lconst 0, 1) := by decide +kernel
theorem dX12_about_10 : decode cX12_about 10 = .ok (.ldc2_w 202, 3) := by decide +kernel
theorem dX12_about_13 : decode cX12_about 13 = .ok (.invokestatic 69, 3) := by decide +kernel
theorem dX12_about_16 : decode cX12_about 16 = .ok (.ifCond .ne 10, 3) := by decide +kernel
theorem dX12_about_19 : decode cX12_about 19 = .ok (.aload_n 0, 1) := by decide +kernel
theorem dX12_about_20 : decode cX12_about 20 = .ok (.bipush (-2), 2) := by decide +kernel
theorem dX12_about_22 : decode cX12_about 22 = .ok (.invokevirtual 84, 3) := by decide +kernel
theorem dX12_about_25 : decode cX12_about 25 = .ok (.ireturn, 1) := by decide +kernel
theorem dX12_about_26 : decode cX12_about 26 = .ok (.iload_n 2, 1) := by decide +kernel
theorem dX12_about_27 : decode cX12_about 27 = .ok (.iconst 2, 1) := by decide +kernel
theorem dX12_about_28 : decode cX12_about 28 = .ok (.if_icmp .ge 24, 3) := by decide +kernel
theorem dX12_about_31 : decode cX12_about 31 = .ok (.iload_n 2, 1) := by decide +kernel
theorem dX12_about_32 : decode cX12_about 32 = .ok (.ifCond .ne 14, 3) := by decide +kernel
theorem dX12_about_35 : decode cX12_about 35 = .ok (.aload_n 0, 1) := by decide +kernel
theorem dX12_about_36 : decode cX12_about 36 = .ok (.getfield 7, 3) := by decide +kernel
theorem dX12_about_39 : decode cX12_about 39 = .ok (.iconst 0, 1) := by decide +kernel
theorem dX12_about_40 : decode cX12_about 40 = .ok (.iload_n 1, 1) := by decide +kernel
theorem dX12_about_41 : decode cX12_about 41 = .ok (.iadd, 1) := by decide +kernel
theorem dX12_about_42 : decode cX12_about 42 = .ok (.iaload, 1) := by decide +kernel
theorem dX12_about_43 : decode cX12_about 43 = .ok (.goto 8, 3) := by decide +kernel
theorem dX12_about_46 : decode cX12_about 46 = .ok (.aload_n 0, 1) := by decide +kernel
theorem dX12_about_47 : decode cX12_about 47 = .ok (.iload_n 1, 1) := by decide +kernel
theorem dX12_about_48 : decode cX12_about 48 = .ok (.invokevirtual 204, 3) := by decide +kernel
theorem dX12_about_51 : decode cX12_about 51 = .ok (.ireturn, 1) := by decide +kernel
theorem dX12_about_52 : decode cX12_about 52 = .ok (.iconst 0, 1) := by decide +kernel
theorem dX12_about_53 : decode cX12_about 53 = .ok (.istore_n 3, 1) := by decide +kernel
theorem dX12_about_54 : decode cX12_about 54 = .ok (.iconst 0, 1) := by decide +kernel
theorem dX12_about_55 : decode cX12_about 55 = .ok (.istore 4, 2) := by decide +kernel
theorem dX12_about_57 : decode cX12_about 57 = .ok (.iload 4, 2) := by decide +kernel
theorem dX12_about_59 : decode cX12_about 59 = .ok (.aload_n 0, 1) := by decide +kernel
theorem dX12_about_60 : decode cX12_about 60 = .ok (.getfield 7, 3) := by decide +kernel
theorem dX12_about_63 : decode cX12_about 63 = .ok (.bipush 37, 2) := by decide +kernel
theorem dX12_about_65 : decode cX12_about 65 = .ok (.iaload, 1) := by decide +kernel
theorem dX12_about_66 : decode cX12_about 66 = .ok (.if_icmp .ge 34, 3) := by decide +kernel
theorem dX12_about_69 : decode cX12_about 69 = .ok (.iload_n 3, 1) := by decide +kernel
theorem dX12_about_70 : decode cX12_about 70 = .ok (.aload_n 0, 1) := by decide +kernel
theorem dX12_about_71 : decode cX12_about 71 = .ok (.getfield 7, 3) := by decide +kernel
theorem dX12_about_74 : decode cX12_about 74 = .ok (.bipush 60, 2) := by decide +kernel
theorem dX12_about_76 : decode cX12_about 76 = .ok (.iload 4, 2) := by decide +kernel
theorem dX12_about_78 : decode cX12_about 78 = .ok (.iadd, 1) := by decide +kernel
theorem dX12_about_79 : decode cX12_about 79 = .ok (.iaload, 1) := by decide +kernel
theorem dX12_about_80 : decode cX12_about 80 = .ok (.iload_n 1, 1) := by decide +kernel
theorem dX12_about_81 : decode cX12_about 81 = .ok (.if_icmp .ne 10, 3) := by decide +kernel
theorem dX12_about_84 : decode cX12_about 84 = .ok (.iconst 1, 1) := by decide +kernel
theorem dX12_about_85 : decode cX12_about 85 = .ok (.iload 4, 2) := by decide +kernel
theorem dX12_about_87 : decode cX12_about 87 = .ok (.ishl, 1) := by decide +kernel
theorem dX12_about_88 : decode cX12_about 88 = .ok (.goto 4, 3) := by decide +kernel
theorem dX12_about_91 : decode cX12_about 91 = .ok (.iconst 0, 1) := by decide +kernel
theorem dX12_about_92 : decode cX12_about 92 = .ok (.ior, 1) := by decide +kernel
theorem dX12_about_93 : decode cX12_about 93 = .ok (.istore_n 3, 1) := by decide +kernel
theorem dX12_about_94 : decode cX12_about 94 = .ok (.iinc 4 1, 3) := by decide +kernel
theorem dX12_about_97 : decode cX12_about 97 = .ok (.goto (-40), 3) := by decide +kernel
theorem dX12_about_100 : decode cX12_about 100 = .ok (.iload_n 3, 1) := by decide +kernel
theorem dX12_about_101 : decode cX12_about 101 = .ok (.ireturn, 1) := by decide +kernel
theorem dX12_strokes_0 : decode cX12_strokes 0 = .ok (.iload_n 1, 1) := by decide +kernel
theorem dX12_strokes_1 : decode cX12_strokes 1 = .ok (.invokestatic 92, 3) := by decide +kernel
theorem dX12_strokes_4 : decode cX12_strokes 4 = .ok (.ifCond .eq 19, 3) := by decide +kernel
theorem dX12_strokes_7 : decode cX12_strokes 7 = .ok (.iload_n 2, 1) := by decide +kernel
theorem dX12_strokes_8 : decode cX12_strokes 8 = .ok (.invokestatic 92, 3) := by decide +kernel
theorem dX12_strokes_11 : decode cX12_strokes 11 = .ok (.ifCond .eq 12, 3) := by decide +kernel
theorem dX12_strokes_14 : decode cX12_strokes 14 = .ok (.aload_n 0, 1) := by decide +kernel
theorem dX12_strokes_15 : decode cX12_strokes 15 = .ok (.iload_n 1, 1) := by decide +kernel
theorem dX12_strokes_16 : decode cX12_strokes 16 = .ok (.iload_n 2, 1) := by decide +kernel
theorem dX12_strokes_17 : decode cX12_strokes 17 = .ok (.invokevirtual 96, 3) := by decide +kernel
theorem dX12_strokes_20 : decode cX12_strokes 20 = .ok (.goto 9, 3) := by decide +kernel
theorem dX12_strokes_23 : decode cX12_strokes 23 = .ok (.aload_n 0, 1) := by decide +kernel
theorem dX12_strokes_24 : decode cX12_strokes 24 = .ok (.bipush (-2), 2) := by decide +kernel
theorem dX12_strokes_26 : decode cX12_strokes 26 = .ok (.invokevirtual 84, 3) := by decide +kernel
theorem dX12_strokes_29 : decode cX12_strokes 29 = .ok (.ireturn, 1) := by decide +kernel
theorem dX12_far_0 : decode cX12_far 0 = .ok (.iload_n 1, 1) := by decide +kernel
theorem dX12_far_1 : decode cX12_far 1 = .ok (.invokestatic 92, 3) := by decide +kernel
theorem dX12_far_4 : decode cX12_far 4 = .ok (.ifCond .eq 10, 3) := by decide +kernel
theorem dX12_far_7 : decode cX12_far 7 = .ok (.iload_n 2, 1) := by decide +kernel
theorem dX12_far_8 : decode cX12_far 8 = .ok (.invokestatic 92, 3) := by decide +kernel
theorem dX12_far_11 : decode cX12_far 11 = .ok (.ifCond .ne 10, 3) := by decide +kernel
theorem dX12_far_14 : decode cX12_far 14 = .ok (.aload_n 0, 1) := by decide +kernel
theorem dX12_far_15 : decode cX12_far 15 = .ok (.bipush (-2), 2) := by decide +kernel
theorem dX12_far_17 : decode cX12_far 17 = .ok (.invokevirtual 84, 3) := by decide +kernel
theorem dX12_far_20 : decode cX12_far 20 = .ok (.ireturn, 1) := by decide +kernel
theorem dX12_far_21 : decode cX12_far 21 = .ok (.iconst 0, 1) := by decide +kernel
theorem dX12_far_22 : decode cX12_far 22 = .ok (.istore_n 3, 1) := by decide +kernel
theorem dX12_far_23 : decode cX12_far 23 = .ok (.iload_n 3, 1) := by decide +kernel
theorem dX12_far_24 : decode cX12_far 24 = .ok (.bipush 8, 2) := by decide +kernel
theorem dX12_far_26 : decode cX12_far 26 = .ok (.if_icmp .ge 27, 3) := by decide +kernel
theorem dX12_far_29 : decode cX12_far 29 = .ok (.aload_n 0, 1) := by decide +kernel
theorem dX12_far_30 : decode cX12_far 30 = .ok (.getfield 36, 3) := by decide +kernel
theorem dX12_far_33 : decode cX12_far 33 = .ok (.iload_n 3, 1) := by decide +kernel
theorem dX12_far_34 : decode cX12_far 34 = .ok (.iload_n 3, 1) := by decide +kernel
theorem dX12_far_35 : decode cX12_far 35 = .ok (.iload_n 1, 1) := by decide +kernel
theorem dX12_far_36 : decode cX12_far 36 = .ok (.if_icmp .ne 7, 3) := by decide +kernel
theorem dX12_far_39 : decode cX12_far 39 = .ok (.iconst 0, 1) := by decide +kernel
theorem dX12_far_40 : decode cX12_far 40 = .ok (.goto 6, 3) := by decide +kernel
theorem dX12_far_43 : decode cX12_far 43 = .ok (.sipush 999, 3) := by decide +kernel
theorem dX12_far_46 : decode cX12_far 46 = .ok (.iastore, 1) := by decide +kernel
theorem dX12_far_47 : decode cX12_far 47 = .ok (.iinc 3 1, 3) := by decide +kernel
theorem dX12_far_50 : decode cX12_far 50 = .ok (.goto (-27), 3) := by decide +kernel
theorem dX12_far_53 : decode cX12_far 53 = .ok (.iconst 0, 1) := by decide +kernel
theorem dX12_far_54 : decode cX12_far 54 = .ok (.istore_n 3, 1) := by decide +kernel
theorem dX12_far_55 : decode cX12_far 55 = .ok (.iload_n 3, 1) := by decide +kernel
theorem dX12_far_56 : decode cX12_far 56 = .ok (.bipush 8, 2) := by decide +kernel
theorem dX12_far_58 : decode cX12_far 58 = .ok (.if_icmp .ge 93, 3) := by decide +kernel
theorem dX12_far_61 : decode cX12_far 61 = .ok (.iconst 0, 1) := by decide +kernel
theorem dX12_far_62 : decode cX12_far 62 = .ok (.istore 4, 2) := by decide +kernel
theorem dX12_far_64 : decode cX12_far 64 = .ok (.iload 4, 2) := by decide +kernel
theorem dX12_far_66 : decode cX12_far 66 = .ok (.bipush 8, 2) := by decide +kernel
theorem dX12_far_68 : decode cX12_far 68 = .ok (.if_icmp .ge 77, 3) := by decide +kernel
theorem dX12_far_71 : decode cX12_far 71 = .ok (.iconst 0, 1) := by decide +kernel
theorem dX12_far_72 : decode cX12_far 72 = .ok (.istore 5, 2) := by decide +kernel
theorem dX12_far_74 : decode cX12_far 74 = .ok (.iload 5, 2) := by decide +kernel
theorem dX12_far_76 : decode cX12_far 76 = .ok (.bipush 8, 2) := by decide +kernel
theorem dX12_far_78 : decode cX12_far 78 = .ok (.if_icmp .ge 61, 3) := by decide +kernel
theorem dX12_far_81 : decode cX12_far 81 = .ok (.aload_n 0, 1) := by decide +kernel
theorem dX12_far_82 : decode cX12_far 82 = .ok (.iload 4, 2) := by decide +kernel
theorem dX12_far_84 : decode cX12_far 84 = .ok (.iload 5, 2) := by decide +kernel
theorem dX12_far_86 : decode cX12_far 86 = .ok (.invokevirtual 96, 3) := by decide +kernel
theorem dX12_far_89 : decode cX12_far 89 = .ok (.istore 6, 2) := by decide +kernel
theorem dX12_far_91 : decode cX12_far 91 = .ok (.aload_n 0, 1) := by decide +kernel
theorem dX12_far_92 : decode cX12_far 92 = .ok (.getfield 36, 3) := by decide +kernel
theorem dX12_far_95 : decode cX12_far 95 = .ok (.iload 5, 2) := by decide +kernel
theorem dX12_far_97 : decode cX12_far 97 = .ok (.iload 6, 2) := by decide +kernel
theorem dX12_far_99 : decode cX12_far 99 = .ok (.ifCond .le 26, 3) := by decide +kernel
theorem dX12_far_102 : decode cX12_far 102 = .ok (.aload_n 0, 1) := by decide +kernel
theorem dX12_far_103 : decode cX12_far 103 = .ok (.getfield 36, 3) := by decide +kernel
theorem dX12_far_106 : decode cX12_far 106 = .ok (.iload 5, 2) := by decide +kernel
theorem dX12_far_108 : decode cX12_far 108 = .ok (.iaload, 1) := by decide +kernel
theorem dX12_far_109 : decode cX12_far 109 = .ok (.aload_n 0, 1) := by decide +kernel
theorem dX12_far_110 : decode cX12_far 110 = .ok (.getfield 36, 3) := by decide +kernel
theorem dX12_far_113 : decode cX12_far 113 = .ok (.iload 4, 2) := by decide +kernel
theorem dX12_far_115 : decode cX12_far 115 = .ok (.iaload, 1) := by decide +kernel
theorem dX12_far_116 : decode cX12_far 116 = .ok (.iload 6, 2) := by decide +kernel
theorem dX12_far_118 : decode cX12_far 118 = .ok (.iadd, 1) := by decide +kernel
theorem dX12_far_119 : decode cX12_far 119 = .ok (.invokestatic 75, 3) := by decide +kernel
theorem dX12_far_122 : decode cX12_far 122 = .ok (.goto 10, 3) := by decide +kernel
theorem dX12_far_125 : decode cX12_far 125 = .ok (.aload_n 0, 1) := by decide +kernel
theorem dX12_far_126 : decode cX12_far 126 = .ok (.getfield 36, 3) := by decide +kernel
theorem dX12_far_129 : decode cX12_far 129 = .ok (.iload 5, 2) := by decide +kernel
theorem dX12_far_131 : decode cX12_far 131 = .ok (.iaload, 1) := by decide +kernel
theorem dX12_far_132 : decode cX12_far 132 = .ok (.iastore, 1) := by decide +kernel
theorem dX12_far_133 : decode cX12_far 133 = .ok (.iinc 5 1, 3) := by decide +kernel
theorem dX12_far_136 : decode cX12_far 136 = .ok (.goto (-62), 3) := by decide +kernel
theorem dX12_far_139 : decode cX12_far 139 = .ok (.iinc 4 1, 3) := by decide +kernel
theorem dX12_far_142 : decode cX12_far 142 = .ok (.goto (-78), 3) := by decide +kernel
theorem dX12_far_145 : decode cX12_far 145 = .ok (.iinc 3 1, 3) := by decide +kernel
theorem dX12_far_148 : decode cX12_far 148 = .ok (.goto (-93), 3) := by decide +kernel
theorem dX12_far_151 : decode cX12_far 151 = .ok (.aload_n 0, 1) := by decide +kernel
theorem dX12_far_152 : decode cX12_far 152 = .ok (.getfield 36, 3) := by decide +kernel
theorem dX12_far_155 : decode cX12_far 155 = .ok (.iload_n 2, 1) := by decide +kernel
theorem dX12_far_156 : decode cX12_far 156 = .ok (.iaload, 1) := by decide +kernel
theorem dX12_far_157 : decode cX12_far 157 = .ok (.sipush 999, 3) := by decide +kernel
theorem dX12_far_160 : decode cX12_far 160 = .ok (.if_icmp .ne 7, 3) := by decide +kernel
theorem dX12_far_163 : decode cX12_far 163 = .ok (.iconst (-1), 1) := by decide +kernel
theorem dX12_far_164 : decode cX12_far 164 = .ok (.goto 9, 3) := by decide +kernel
theorem dX12_far_167 : decode cX12_far 167 = .ok (.aload_n 0, 1) := by decide +kernel
theorem dX12_far_168 : decode cX12_far 168 = .ok (.getfield 36, 3) := by decide +kernel
theorem dX12_far_171 : decode cX12_far 171 = .ok (.iload_n 2, 1) := by decide +kernel
theorem dX12_far_172 : decode cX12_far 172 = .ok (.iaload, 1) := by decide +kernel
theorem dX12_far_173 : decode cX12_far 173 = .ok (.ireturn, 1) := by decide +kernel
theorem dX12_would_0 : decode cX12_would 0 = .ok (.aload_n 0, 1) := by decide +kernel
theorem dX12_would_1 : decode cX12_would 1 = .ok (.iload_n 1, 1) := by decide +kernel
theorem dX12_would_2 : decode cX12_would 2 = .ok (.invokevirtual 190, 3) := by decide +kernel
theorem dX12_would_5 : decode cX12_would 5 = .ok (.ifCond .eq 29, 3) := by decide +kernel
theorem dX12_would_8 : decode cX12_would 8 = .ok (.aload_n 0, 1) := by decide +kernel
theorem dX12_would_9 : decode cX12_would 9 = .ok (.iload_n 2, 1) := by decide +kernel
theorem dX12_would_10 : decode cX12_would 10 = .ok (.invokevirtual 193, 3) := by decide +kernel
theorem dX12_would_13 : decode cX12_would 13 = .ok (.ifCond .eq 21, 3) := by decide +kernel
theorem dX12_would_16 : decode cX12_would 16 = .ok (.iload_n 3, 1) := by decide +kernel
theorem dX12_would_17 : decode cX12_would 17 = .ok (.invokestatic 92, 3) := by decide +kernel
theorem dX12_would_20 : decode cX12_would 20 = .ok (.ifCond .eq 14, 3) := by decide +kernel
theorem dX12_would_23 : decode cX12_would 23 = .ok (.iload 4, 2) := by decide +kernel
theorem dX12_would_25 : decode cX12_would 25 = .ok (.i2l, 1) := by decide +kernel
theorem dX12_would_26 : decode cX12_would 26 = .ok (.lconst 0, 1) := by decide +kernel
theorem dX12_would_27 : decode cX12_would 27 = .ok (.lconst 1, 1) := by decide +kernel
theorem dX12_would_28 : decode cX12_would 28 = .ok (.invokestatic 69, 3) := by decide +kernel
theorem dX12_would_31 : decode cX12_would 31 = .ok (.ifCond .ne 10, 3) := by decide +kernel
theorem dX12_would_34 : decode cX12_would 34 = .ok (.aload_n 0, 1) := by decide +kernel
theorem dX12_would_35 : decode cX12_would 35 = .ok (.bipush (-2), 2) := by decide +kernel
theorem dX12_would_37 : decode cX12_would 37 = .ok (.invokevirtual 84, 3) := by decide +kernel
theorem dX12_would_40 : decode cX12_would 40 = .ok (.ireturn, 1) := by decide +kernel
theorem dX12_would_41 : decode cX12_would 41 = .ok (.aload_n 0, 1) := by decide +kernel
theorem dX12_would_42 : decode cX12_would 42 = .ok (.iload_n 1, 1) := by decide +kernel
theorem dX12_would_43 : decode cX12_would 43 = .ok (.iload_n 3, 1) := by decide +kernel
theorem dX12_would_44 : decode cX12_would 44 = .ok (.invokevirtual 161, 3) := by decide +kernel
theorem dX12_would_47 : decode cX12_would 47 = .ok (.ifCond .ne 5, 3) := by decide +kernel
theorem dX12_would_50 : decode cX12_would 50 = .ok (.iconst (-1), 1) := by decide +kernel
theorem dX12_would_51 : decode cX12_would 51 = .ok (.ireturn, 1) := by decide +kernel
theorem dX12_would_52 : decode cX12_would 52 = .ok (.aload_n 0, 1) := by decide +kernel
theorem dX12_would_53 : decode cX12_would 53 = .ok (.getfield 7, 3) := by decide +kernel
theorem dX12_would_56 : decode cX12_would 56 = .ok (.bipush 52, 2) := by decide +kernel
theorem dX12_would_58 : decode cX12_would 58 = .ok (.aload_n 0, 1) := by decide +kernel
theorem dX12_would_59 : decode cX12_would 59 = .ok (.getfield 13, 3) := by decide +kernel
theorem dX12_would_62 : decode cX12_would 62 = .ok (.iconst 0, 1) := by decide +kernel
theorem dX12_would_63 : decode cX12_would 63 = .ok (.bipush 16, 2) := by decide +kernel
theorem dX12_would_65 : decode cX12_would 65 = .ok (.invokestatic 175, 3) := by decide +kernel
theorem dX12_would_68 : decode cX12_would 68 = .ok (.aload_n 0, 1) := by decide +kernel
theorem dX12_would_69 : decode cX12_would 69 = .ok (.iload_n 1, 1) := by decide +kernel
theorem dX12_would_70 : decode cX12_would 70 = .ok (.iload_n 2, 1) := by decide +kernel
theorem dX12_would_71 : decode cX12_would 71 = .ok (.iload_n 3, 1) := by decide +kernel
theorem dX12_would_72 : decode cX12_would 72 = .ok (.invokevirtual 165, 3) := by decide +kernel
theorem dX12_would_75 : decode cX12_would 75 = .ok (.aload_n 0, 1) := by decide +kernel
theorem dX12_would_76 : decode cX12_would 76 = .ok (.getfield 7, 3) := by decide +kernel
theorem dX12_would_79 : decode cX12_would 79 = .ok (.iload 4, 2) := by decide +kernel
theorem dX12_would_81 : decode cX12_would 81 = .ok (.ifCond .ne 8, 3) := by decide +kernel
theorem dX12_would_84 : decode cX12_would 84 = .ok (.bipush 52, 2) := by decide +kernel
theorem dX12_would_86 : decode cX12_would 86 = .ok (.goto 5, 3) := by decide +kernel
theorem dX12_would_89 : decode cX12_would 89 = .ok (.bipush 56, 2) := by decide +kernel
theorem dX12_would_91 : decode cX12_would 91 = .ok (.iload_n 1, 1) := by decide +kernel
theorem dX12_would_92 : decode cX12_would 92 = .ok (.iadd, 1) := by decide +kernel
theorem dX12_would_93 : decode cX12_would 93 = .ok (.iaload, 1) := by decide +kernel
theorem dX12_would_94 : decode cX12_would 94 = .ok (.istore 5, 2) := by decide +kernel
theorem dX12_would_96 : decode cX12_would 96 = .ok (.aload_n 0, 1) := by decide +kernel
theorem dX12_would_97 : decode cX12_would 97 = .ok (.getfield 13, 3) := by decide +kernel
theorem dX12_would_100 : decode cX12_would 100 = .ok (.iconst 0, 1) := by decide +kernel
theorem dX12_would_101 : decode cX12_would 101 = .ok (.aload_n 0, 1) := by decide +kernel
theorem dX12_would_102 : decode cX12_would 102 = .ok (.getfield 7, 3) := by decide +kernel
theorem dX12_would_105 : decode cX12_would 105 = .ok (.bipush 52, 2) := by decide +kernel
theorem dX12_would_107 : decode cX12_would 107 = .ok (.bipush 16, 2) := by decide +kernel
theorem dX12_would_109 : decode cX12_would 109 = .ok (.invokestatic 175, 3) := by decide +kernel
theorem dX12_would_112 : decode cX12_would 112 = .ok (.iload 5, 2) := by decide +kernel
theorem dX12_would_114 : decode cX12_would 114 = .ok (.ireturn, 1) := by decide +kernel
theorem dX12_goesOn_0 : decode cX12_goesOn 0 = .ok (.sipush 999, 3) := by decide +kernel
theorem dX12_goesOn_3 : decode cX12_goesOn 3 = .ok (.aload_n 0, 1) := by decide +kernel
theorem dX12_goesOn_4 : decode cX12_goesOn 4 = .ok (.getfield 48, 3) := by decide +kernel
theorem dX12_goesOn_7 : decode cX12_goesOn 7 = .ok (.iload_n 3, 1) := by decide +kernel
theorem dX12_goesOn_8 : decode cX12_goesOn 8 = .ok (.iaload, 1) := by decide +kernel
theorem dX12_goesOn_9 : decode cX12_goesOn 9 = .ok (.aload_n 0, 1) := by decide +kernel
theorem dX12_goesOn_10 : decode cX12_goesOn 10 = .ok (.aload_n 0, 1) := by decide +kernel
theorem dX12_goesOn_11 : decode cX12_goesOn 11 = .ok (.getfield 39, 3) := by decide +kernel
theorem dX12_goesOn_14 : decode cX12_goesOn 14 = .ok (.iload_n 3, 1) := by decide +kernel
theorem dX12_goesOn_15 : decode cX12_goesOn 15 = .ok (.iaload, 1) := by decide +kernel
theorem dX12_goesOn_16 : decode cX12_goesOn 16 = .ok (.iload 4, 2) := by decide +kernel
theorem dX12_goesOn_18 : decode cX12_goesOn 18 = .ok (.invokevirtual 96, 3) := by decide +kernel
theorem dX12_goesOn_21 : decode cX12_goesOn 21 = .ok (.iadd, 1) := by decide +kernel
theorem dX12_goesOn_22 : decode cX12_goesOn 22 = .ok (.invokestatic 75, 3) := by decide +kernel
theorem dX12_goesOn_25 : decode cX12_goesOn 25 = .ok (.istore 6, 2) := by decide +kernel
theorem dX12_goesOn_27 : decode cX12_goesOn 27 = .ok (.iload 5, 2) := by decide +kernel
theorem dX12_goesOn_29 : decode cX12_goesOn 29 = .ok (.ifCond .eq 57, 3) := by decide +kernel
theorem dX12_goesOn_32 : decode cX12_goesOn 32 = .ok (.aload_n 0, 1) := by decide +kernel
theorem dX12_goesOn_33 : decode cX12_goesOn 33 = .ok (.getfield 7, 3) := by decide +kernel
theorem dX12_goesOn_36 : decode cX12_goesOn 36 = .ok (.bipush 38, 2) := by decide +kernel
theorem dX12_goesOn_38 : decode cX12_goesOn 38 = .ok (.iload_n 2, 1) := by decide +kernel
theorem dX12_goesOn_39 : decode cX12_goesOn 39 = .ok (.iadd, 1) := by decide +kernel
theorem dX12_goesOn_40 : decode cX12_goesOn 40 = .ok (.iaload, 1) := by decide +kernel
theorem dX12_goesOn_41 : decode cX12_goesOn 41 = .ok (.aload_n 0, 1) := by decide +kernel
theorem dX12_goesOn_42 : decode cX12_goesOn 42 = .ok (.getfield 7, 3) := by decide +kernel
theorem dX12_goesOn_45 : decode cX12_goesOn 45 = .ok (.bipush 41, 2) := by decide +kernel
theorem dX12_goesOn_47 : decode cX12_goesOn 47 = .ok (.iload_n 2, 1) := by decide +kernel
theorem dX12_goesOn_48 : decode cX12_goesOn 48 = .ok (.iadd, 1) := by decide +kernel
theorem dX12_goesOn_49 : decode cX12_goesOn 49 = .ok (.iaload, 1) := by decide +kernel
theorem dX12_goesOn_50 : decode cX12_goesOn 50 = .ok (.aload_n 0, 1) := by decide +kernel
theorem dX12_goesOn_51 : decode cX12_goesOn 51 = .ok (.getfield 7, 3) := by decide +kernel
theorem dX12_goesOn_54 : decode cX12_goesOn 54 = .ok (.iconst 0, 1) := by decide +kernel
theorem dX12_goesOn_55 : decode cX12_goesOn 55 = .ok (.iload 4, 2) := by decide +kernel
theorem dX12_goesOn_57 : decode cX12_goesOn 57 = .ok (.iadd, 1) := by decide +kernel
theorem dX12_goesOn_58 : decode cX12_goesOn 58 = .ok (.iaload, 1) := by decide +kernel
theorem dX12_goesOn_59 : decode cX12_goesOn 59 = .ok (.iload 6, 2) := by decide +kernel
theorem dX12_goesOn_61 : decode cX12_goesOn 61 = .ok (.invokestatic 182, 3) := by decide +kernel
theorem dX12_goesOn_64 : decode cX12_goesOn 64 = .ok (.aload_n 0, 1) := by decide +kernel
theorem dX12_goesOn_65 : decode cX12_goesOn 65 = .ok (.getfield 7, 3) := by decide +kernel
theorem dX12_goesOn_68 : decode cX12_goesOn 68 = .ok (.bipush 48, 2) := by decide +kernel
theorem dX12_goesOn_70 : decode cX12_goesOn 70 = .ok (.iload_n 1, 1) := by decide +kernel
theorem dX12_goesOn_71 : decode cX12_goesOn 71 = .ok (.iadd, 1) := by decide +kernel
theorem dX12_goesOn_72 : decode cX12_goesOn 72 = .ok (.iaload, 1) := by decide +kernel
theorem dX12_goesOn_73 : decode cX12_goesOn 73 = .ok (.aload_n 0, 1) := by decide +kernel
theorem dX12_goesOn_74 : decode cX12_goesOn 74 = .ok (.getfield 42, 3) := by decide +kernel
theorem dX12_goesOn_77 : decode cX12_goesOn 77 = .ok (.iload_n 3, 1) := by decide +kernel
theorem dX12_goesOn_78 : decode cX12_goesOn 78 = .ok (.iaload, 1) := by decide +kernel
theorem dX12_goesOn_79 : decode cX12_goesOn 79 = .ok (.isub, 1) := by decide +kernel
theorem dX12_goesOn_80 : decode cX12_goesOn 80 = .ok (.invokestatic 75, 3) := by decide +kernel
theorem dX12_goesOn_83 : decode cX12_goesOn 83 = .ok (.goto 4, 3) := by decide +kernel
theorem dX12_goesOn_86 : decode cX12_goesOn 86 = .ok (.iconst 0, 1) := by decide +kernel
theorem dX12_goesOn_87 : decode cX12_goesOn 87 = .ok (.istore 7, 2) := by decide +kernel
theorem dX12_goesOn_89 : decode cX12_goesOn 89 = .ok (.iload 5, 2) := by decide +kernel
theorem dX12_goesOn_91 : decode cX12_goesOn 91 = .ok (.ifCond .eq 44, 3) := by decide +kernel
theorem dX12_goesOn_94 : decode cX12_goesOn 94 = .ok (.aload_n 0, 1) := by decide +kernel
theorem dX12_goesOn_95 : decode cX12_goesOn 95 = .ok (.getfield 7, 3) := by decide +kernel
theorem dX12_goesOn_98 : decode cX12_goesOn 98 = .ok (.bipush 44, 2) := by decide +kernel
theorem dX12_goesOn_100 : decode cX12_goesOn 100 = .ok (.iload_n 1, 1) := by decide +kernel
theorem dX12_goesOn_101 : decode cX12_goesOn 101 = .ok (.iadd, 1) := by decide +kernel
theorem dX12_goesOn_102 : decode cX12_goesOn 102 = .ok (.iaload, 1) := by decide +kernel
theorem dX12_goesOn_103 : decode cX12_goesOn 103 = .ok (.aload_n 0, 1) := by decide +kernel
theorem dX12_goesOn_104 : decode cX12_goesOn 104 = .ok (.getfield 7, 3) := by decide +kernel
theorem dX12_goesOn_107 : decode cX12_goesOn 107 = .ok (.bipush 48, 2) := by decide +kernel
theorem dX12_goesOn_109 : decode cX12_goesOn 109 = .ok (.iload_n 1, 1) := by decide +kernel
theorem dX12_goesOn_110 : decode cX12_goesOn 110 = .ok (.iadd, 1) := by decide +kernel
theorem dX12_goesOn_111 : decode cX12_goesOn 111 = .ok (.iaload, 1) := by decide +kernel
theorem dX12_goesOn_112 : decode cX12_goesOn 112 = .ok (.aload_n 0, 1) := by decide +kernel
theorem dX12_goesOn_113 : decode cX12_goesOn 113 = .ok (.getfield 42, 3) := by decide +kernel
theorem dX12_goesOn_116 : decode cX12_goesOn 116 = .ok (.iload_n 3, 1) := by decide +kernel
theorem dX12_goesOn_117 : decode cX12_goesOn 117 = .ok (.iaload, 1) := by decide +kernel
theorem dX12_goesOn_118 : decode cX12_goesOn 118 = .ok (.iload 7, 2) := by decide +kernel
theorem dX12_goesOn_120 : decode cX12_goesOn 120 = .ok (.aload_n 0, 1) := by decide +kernel
theorem dX12_goesOn_121 : decode cX12_goesOn 121 = .ok (.getfield 7, 3) := by decide +kernel
theorem dX12_goesOn_124 : decode cX12_goesOn 124 = .ok (.iconst 0, 1) := by decide +kernel
theorem dX12_goesOn_125 : decode cX12_goesOn 125 = .ok (.iload 4, 2) := by decide +kernel
theorem dX12_goesOn_127 : decode cX12_goesOn 127 = .ok (.iadd, 1) := by decide +kernel
theorem dX12_goesOn_128 : decode cX12_goesOn 128 = .ok (.iaload, 1) := by decide +kernel
theorem dX12_goesOn_129 : decode cX12_goesOn 129 = .ok (.invokestatic 186, 3) := by decide +kernel
theorem dX12_goesOn_132 : decode cX12_goesOn 132 = .ok (.goto 4, 3) := by decide +kernel
theorem dX12_goesOn_135 : decode cX12_goesOn 135 = .ok (.iconst 0, 1) := by decide +kernel
theorem dX12_goesOn_136 : decode cX12_goesOn 136 = .ok (.istore 8, 2) := by decide +kernel
theorem dX12_goesOn_138 : decode cX12_goesOn 138 = .ok (.aload_n 0, 1) := by decide +kernel
theorem dX12_goesOn_139 : decode cX12_goesOn 139 = .ok (.getfield 39, 3) := by decide +kernel
theorem dX12_goesOn_142 : decode cX12_goesOn 142 = .ok (.iload_n 3, 1) := by decide +kernel
theorem dX12_goesOn_143 : decode cX12_goesOn 143 = .ok (.iconst 1, 1) := by decide +kernel
theorem dX12_goesOn_144 : decode cX12_goesOn 144 = .ok (.iadd, 1) := by decide +kernel
theorem dX12_goesOn_145 : decode cX12_goesOn 145 = .ok (.iload 4, 2) := by decide +kernel
theorem dX12_goesOn_147 : decode cX12_goesOn 147 = .ok (.iastore, 1) := by decide +kernel
theorem dX12_goesOn_148 : decode cX12_goesOn 148 = .ok (.aload_n 0, 1) := by decide +kernel
theorem dX12_goesOn_149 : decode cX12_goesOn 149 = .ok (.getfield 48, 3) := by decide +kernel
theorem dX12_goesOn_152 : decode cX12_goesOn 152 = .ok (.iload_n 3, 1) := by decide +kernel
theorem dX12_goesOn_153 : decode cX12_goesOn 153 = .ok (.iconst 1, 1) := by decide +kernel
theorem dX12_goesOn_154 : decode cX12_goesOn 154 = .ok (.iadd, 1) := by decide +kernel
theorem dX12_goesOn_155 : decode cX12_goesOn 155 = .ok (.iload 6, 2) := by decide +kernel
theorem dX12_goesOn_157 : decode cX12_goesOn 157 = .ok (.iastore, 1) := by decide +kernel
theorem dX12_goesOn_158 : decode cX12_goesOn 158 = .ok (.aload_n 0, 1) := by decide +kernel
theorem dX12_goesOn_159 : decode cX12_goesOn 159 = .ok (.getfield 42, 3) := by decide +kernel
theorem dX12_goesOn_162 : decode cX12_goesOn 162 = .ok (.iload_n 3, 1) := by decide +kernel
theorem dX12_goesOn_163 : decode cX12_goesOn 163 = .ok (.iconst 1, 1) := by decide +kernel
theorem dX12_goesOn_164 : decode cX12_goesOn 164 = .ok (.iadd, 1) := by decide +kernel
theorem dX12_goesOn_165 : decode cX12_goesOn 165 = .ok (.aload_n 0, 1) := by decide +kernel
theorem dX12_goesOn_166 : decode cX12_goesOn 166 = .ok (.getfield 42, 3) := by decide +kernel
theorem dX12_goesOn_169 : decode cX12_goesOn 169 = .ok (.iload_n 3, 1) := by decide +kernel
theorem dX12_goesOn_170 : decode cX12_goesOn 170 = .ok (.iaload, 1) := by decide +kernel
theorem dX12_goesOn_171 : decode cX12_goesOn 171 = .ok (.iload 7, 2) := by decide +kernel
theorem dX12_goesOn_173 : decode cX12_goesOn 173 = .ok (.iadd, 1) := by decide +kernel
theorem dX12_goesOn_174 : decode cX12_goesOn 174 = .ok (.iastore, 1) := by decide +kernel
theorem dX12_goesOn_175 : decode cX12_goesOn 175 = .ok (.aload_n 0, 1) := by decide +kernel
theorem dX12_goesOn_176 : decode cX12_goesOn 176 = .ok (.getfield 45, 3) := by decide +kernel
theorem dX12_goesOn_179 : decode cX12_goesOn 179 = .ok (.iload_n 3, 1) := by decide +kernel
theorem dX12_goesOn_180 : decode cX12_goesOn 180 = .ok (.iconst 1, 1) := by decide +kernel
theorem dX12_goesOn_181 : decode cX12_goesOn 181 = .ok (.iadd, 1) := by decide +kernel
theorem dX12_goesOn_182 : decode cX12_goesOn 182 = .ok (.sipush 999, 3) := by decide +kernel
theorem dX12_goesOn_185 : decode cX12_goesOn 185 = .ok (.aload_n 0, 1) := by decide +kernel
theorem dX12_goesOn_186 : decode cX12_goesOn 186 = .ok (.getfield 45, 3) := by decide +kernel
theorem dX12_goesOn_189 : decode cX12_goesOn 189 = .ok (.iload_n 3, 1) := by decide +kernel
theorem dX12_goesOn_190 : decode cX12_goesOn 190 = .ok (.iaload, 1) := by decide +kernel
theorem dX12_goesOn_191 : decode cX12_goesOn 191 = .ok (.iload 8, 2) := by decide +kernel
theorem dX12_goesOn_193 : decode cX12_goesOn 193 = .ok (.iadd, 1) := by decide +kernel
theorem dX12_goesOn_194 : decode cX12_goesOn 194 = .ok (.invokestatic 75, 3) := by decide +kernel
theorem dX12_goesOn_197 : decode cX12_goesOn 197 = .ok (.iastore, 1) := by decide +kernel
theorem dX12_goesOn_198 : decode cX12_goesOn 198 = .ok (.aload_n 0, 1) := by decide +kernel
theorem dX12_goesOn_199 : decode cX12_goesOn 199 = .ok (.getfield 54, 3) := by decide +kernel
theorem dX12_goesOn_202 : decode cX12_goesOn 202 = .ok (.iload_n 3, 1) := by decide +kernel
theorem dX12_goesOn_203 : decode cX12_goesOn 203 = .ok (.iconst 1, 1) := by decide +kernel
theorem dX12_goesOn_204 : decode cX12_goesOn 204 = .ok (.iadd, 1) := by decide +kernel
theorem dX12_goesOn_205 : decode cX12_goesOn 205 = .ok (.aload_n 0, 1) := by decide +kernel
theorem dX12_goesOn_206 : decode cX12_goesOn 206 = .ok (.getfield 54, 3) := by decide +kernel
theorem dX12_goesOn_209 : decode cX12_goesOn 209 = .ok (.iload_n 3, 1) := by decide +kernel
theorem dX12_goesOn_210 : decode cX12_goesOn 210 = .ok (.iaload, 1) := by decide +kernel
theorem dX12_goesOn_211 : decode cX12_goesOn 211 = .ok (.iconst 1, 1) := by decide +kernel
theorem dX12_goesOn_212 : decode cX12_goesOn 212 = .ok (.iload 4, 2) := by decide +kernel
theorem dX12_goesOn_214 : decode cX12_goesOn 214 = .ok (.ishl, 1) := by decide +kernel
theorem dX12_goesOn_215 : decode cX12_goesOn 215 = .ok (.ior, 1) := by decide +kernel
theorem dX12_goesOn_216 : decode cX12_goesOn 216 = .ok (.iastore, 1) := by decide +kernel
theorem dX12_goesOn_217 : decode cX12_goesOn 217 = .ok (.aload_n 0, 1) := by decide +kernel
theorem dX12_goesOn_218 : decode cX12_goesOn 218 = .ok (.getfield 51, 3) := by decide +kernel
theorem dX12_goesOn_221 : decode cX12_goesOn 221 = .ok (.iload_n 3, 1) := by decide +kernel
theorem dX12_goesOn_222 : decode cX12_goesOn 222 = .ok (.iconst 1, 1) := by decide +kernel
theorem dX12_goesOn_223 : decode cX12_goesOn 223 = .ok (.iadd, 1) := by decide +kernel
theorem dX12_goesOn_224 : decode cX12_goesOn 224 = .ok (.iconst 0, 1) := by decide +kernel
theorem dX12_goesOn_225 : decode cX12_goesOn 225 = .ok (.iastore, 1) := by decide +kernel
theorem dX12_goesOn_226 : decode cX12_goesOn 226 = .ok (.return_, 1) := by decide +kernel
theorem dX12_starts_0 : decode cX12_starts 0 = .ok (.aload_n 0, 1) := by decide +kernel
theorem dX12_starts_1 : decode cX12_starts 1 = .ok (.getfield 39, 3) := by decide +kernel
theorem dX12_starts_4 : decode cX12_starts 4 = .ok (.iconst 0, 1) := by decide +kernel
theorem dX12_starts_5 : decode cX12_starts 5 = .ok (.aload_n 0, 1) := by decide +kernel
theorem dX12_starts_6 : decode cX12_starts 6 = .ok (.getfield 7, 3) := by decide +kernel
theorem dX12_starts_9 : decode cX12_starts 9 = .ok (.bipush 60, 2) := by decide +kernel
theorem dX12_starts_11 : decode cX12_starts 11 = .ok (.iload_n 1, 1) := by decide +kernel
theorem dX12_starts_12 : decode cX12_starts 12 = .ok (.iadd, 1) := by decide +kernel
theorem dX12_starts_13 : decode cX12_starts 13 = .ok (.iaload, 1) := by decide +kernel
theorem dX12_starts_14 : decode cX12_starts 14 = .ok (.iastore, 1) := by decide +kernel
theorem dX12_starts_15 : decode cX12_starts 15 = .ok (.aload_n 0, 1) := by decide +kernel
theorem dX12_starts_16 : decode cX12_starts 16 = .ok (.getfield 42, 3) := by decide +kernel
theorem dX12_starts_19 : decode cX12_starts 19 = .ok (.iconst 0, 1) := by decide +kernel
theorem dX12_starts_20 : decode cX12_starts 20 = .ok (.aload_n 0, 1) := by decide +kernel
theorem dX12_starts_21 : decode cX12_starts 21 = .ok (.getfield 7, 3) := by decide +kernel
theorem dX12_starts_24 : decode cX12_starts 24 = .ok (.bipush 52, 2) := by decide +kernel
theorem dX12_starts_26 : decode cX12_starts 26 = .ok (.iload_n 1, 1) := by decide +kernel
theorem dX12_starts_27 : decode cX12_starts 27 = .ok (.iadd, 1) := by decide +kernel
theorem dX12_starts_28 : decode cX12_starts 28 = .ok (.iaload, 1) := by decide +kernel
theorem dX12_starts_29 : decode cX12_starts 29 = .ok (.iastore, 1) := by decide +kernel
theorem dX12_starts_30 : decode cX12_starts 30 = .ok (.aload_n 0, 1) := by decide +kernel
theorem dX12_starts_31 : decode cX12_starts 31 = .ok (.getfield 45, 3) := by decide +kernel
theorem dX12_starts_34 : decode cX12_starts 34 = .ok (.iconst 0, 1) := by decide +kernel
theorem dX12_starts_35 : decode cX12_starts 35 = .ok (.aload_n 0, 1) := by decide +kernel
theorem dX12_starts_36 : decode cX12_starts 36 = .ok (.getfield 7, 3) := by decide +kernel
theorem dX12_starts_39 : decode cX12_starts 39 = .ok (.bipush 56, 2) := by decide +kernel
theorem dX12_starts_41 : decode cX12_starts 41 = .ok (.iload_n 1, 1) := by decide +kernel
theorem dX12_starts_42 : decode cX12_starts 42 = .ok (.iadd, 1) := by decide +kernel
theorem dX12_starts_43 : decode cX12_starts 43 = .ok (.iaload, 1) := by decide +kernel
theorem dX12_starts_44 : decode cX12_starts 44 = .ok (.iastore, 1) := by decide +kernel
theorem dX12_starts_45 : decode cX12_starts 45 = .ok (.aload_n 0, 1) := by decide +kernel
theorem dX12_starts_46 : decode cX12_starts 46 = .ok (.getfield 48, 3) := by decide +kernel
theorem dX12_starts_49 : decode cX12_starts 49 = .ok (.iconst 0, 1) := by decide +kernel
theorem dX12_starts_50 : decode cX12_starts 50 = .ok (.aload_n 0, 1) := by decide +kernel
theorem dX12_starts_51 : decode cX12_starts 51 = .ok (.getfield 7, 3) := by decide +kernel
theorem dX12_starts_54 : decode cX12_starts 54 = .ok (.bipush 64, 2) := by decide +kernel
theorem dX12_starts_56 : decode cX12_starts 56 = .ok (.iload_n 1, 1) := by decide +kernel
theorem dX12_starts_57 : decode cX12_starts 57 = .ok (.iadd, 1) := by decide +kernel
theorem dX12_starts_58 : decode cX12_starts 58 = .ok (.iaload, 1) := by decide +kernel
theorem dX12_starts_59 : decode cX12_starts 59 = .ok (.iastore, 1) := by decide +kernel
theorem dX12_starts_60 : decode cX12_starts 60 = .ok (.aload_n 0, 1) := by decide +kernel
theorem dX12_starts_61 : decode cX12_starts 61 = .ok (.getfield 54, 3) := by decide +kernel
theorem dX12_starts_64 : decode cX12_starts 64 = .ok (.iconst 0, 1) := by decide +kernel
theorem dX12_starts_65 : decode cX12_starts 65 = .ok (.iconst 1, 1) := by decide +kernel
theorem dX12_starts_66 : decode cX12_starts 66 = .ok (.aload_n 0, 1) := by decide +kernel
theorem dX12_starts_67 : decode cX12_starts 67 = .ok (.getfield 7, 3) := by decide +kernel
theorem dX12_starts_70 : decode cX12_starts 70 = .ok (.bipush 60, 2) := by decide +kernel
theorem dX12_starts_72 : decode cX12_starts 72 = .ok (.iload_n 1, 1) := by decide +kernel
theorem dX12_starts_73 : decode cX12_starts 73 = .ok (.iadd, 1) := by decide +kernel
theorem dX12_starts_74 : decode cX12_starts 74 = .ok (.iaload, 1) := by decide +kernel
theorem dX12_starts_75 : decode cX12_starts 75 = .ok (.ishl, 1) := by decide +kernel
theorem dX12_starts_76 : decode cX12_starts 76 = .ok (.iastore, 1) := by decide +kernel
theorem dX12_starts_77 : decode cX12_starts 77 = .ok (.aload_n 0, 1) := by decide +kernel
theorem dX12_starts_78 : decode cX12_starts 78 = .ok (.getfield 51, 3) := by decide +kernel
theorem dX12_starts_81 : decode cX12_starts 81 = .ok (.iconst 0, 1) := by decide +kernel
theorem dX12_starts_82 : decode cX12_starts 82 = .ok (.iconst 0, 1) := by decide +kernel
theorem dX12_starts_83 : decode cX12_starts 83 = .ok (.iastore, 1) := by decide +kernel
theorem dX12_starts_84 : decode cX12_starts 84 = .ok (.return_, 1) := by decide +kernel
theorem dX12_isBetter_0 : decode cX12_isBetter 0 = .ok (.aload_n 0, 1) := by decide +kernel
theorem dX12_isBetter_1 : decode cX12_isBetter 1 = .ok (.getfield 207, 3) := by decide +kernel
theorem dX12_isBetter_4 : decode cX12_isBetter 4 = .ok (.ifCond .eq 16, 3) := by decide +kernel
theorem dX12_isBetter_7 : decode cX12_isBetter 7 = .ok (.aload_n 0, 1) := by decide +kernel
theorem dX12_isBetter_8 : decode cX12_isBetter 8 = .ok (.getfield 42, 3) := by decide +kernel
theorem dX12_isBetter_11 : decode cX12_isBetter 11 = .ok (.iload_n 1, 1) := by decide +kernel
theorem dX12_isBetter_12 : decode cX12_isBetter 12 = .ok (.iaload, 1) := by decide +kernel
theorem dX12_isBetter_13 : decode cX12_isBetter 13 = .ok (.aload_n 0, 1) := by decide +kernel
theorem dX12_isBetter_14 : decode cX12_isBetter 14 = .ok (.getfield 210, 3) := by decide +kernel
theorem dX12_isBetter_17 : decode cX12_isBetter 17 = .ok (.if_icmp .eq 29, 3) := by decide +kernel
theorem dX12_isBetter_20 : decode cX12_isBetter 20 = .ok (.aload_n 0, 1) := by decide +kernel
theorem dX12_isBetter_21 : decode cX12_isBetter 21 = .ok (.getfield 207, 3) := by decide +kernel
theorem dX12_isBetter_24 : decode cX12_isBetter 24 = .ok (.ifCond .eq 16, 3) := by decide +kernel
theorem dX12_isBetter_27 : decode cX12_isBetter 27 = .ok (.aload_n 0, 1) := by decide +kernel
theorem dX12_isBetter_28 : decode cX12_isBetter 28 = .ok (.getfield 42, 3) := by decide +kernel
theorem dX12_isBetter_31 : decode cX12_isBetter 31 = .ok (.iload_n 1, 1) := by decide +kernel
theorem dX12_isBetter_32 : decode cX12_isBetter 32 = .ok (.iaload, 1) := by decide +kernel
theorem dX12_isBetter_33 : decode cX12_isBetter 33 = .ok (.aload_n 0, 1) := by decide +kernel
theorem dX12_isBetter_34 : decode cX12_isBetter 34 = .ok (.getfield 210, 3) := by decide +kernel
theorem dX12_isBetter_37 : decode cX12_isBetter 37 = .ok (.if_icmp .le 7, 3) := by decide +kernel
theorem dX12_isBetter_40 : decode cX12_isBetter 40 = .ok (.iconst 1, 1) := by decide +kernel
theorem dX12_isBetter_41 : decode cX12_isBetter 41 = .ok (.goto 4, 3) := by decide +kernel
theorem dX12_isBetter_44 : decode cX12_isBetter 44 = .ok (.iconst 0, 1) := by decide +kernel
theorem dX12_isBetter_45 : decode cX12_isBetter 45 = .ok (.ireturn, 1) := by decide +kernel
theorem dX12_isBetter_46 : decode cX12_isBetter 46 = .ok (.aload_n 0, 1) := by decide +kernel
theorem dX12_isBetter_47 : decode cX12_isBetter 47 = .ok (.getfield 45, 3) := by decide +kernel
theorem dX12_isBetter_50 : decode cX12_isBetter 50 = .ok (.iload_n 1, 1) := by decide +kernel
theorem dX12_isBetter_51 : decode cX12_isBetter 51 = .ok (.iaload, 1) := by decide +kernel
theorem dX12_isBetter_52 : decode cX12_isBetter 52 = .ok (.aload_n 0, 1) := by decide +kernel
theorem dX12_isBetter_53 : decode cX12_isBetter 53 = .ok (.getfield 213, 3) := by decide +kernel
theorem dX12_isBetter_56 : decode cX12_isBetter 56 = .ok (.if_icmp .eq 24, 3) := by decide +kernel
theorem dX12_isBetter_59 : decode cX12_isBetter 59 = .ok (.aload_n 0, 1) := by decide +kernel
theorem dX12_isBetter_60 : decode cX12_isBetter 60 = .ok (.getfield 45, 3) := by decide +kernel
theorem dX12_isBetter_63 : decode cX12_isBetter 63 = .ok (.iload_n 1, 1) := by decide +kernel
theorem dX12_isBetter_64 : decode cX12_isBetter 64 = .ok (.iaload, 1) := by decide +kernel
theorem dX12_isBetter_65 : decode cX12_isBetter 65 = .ok (.aload_n 0, 1) := by decide +kernel
theorem dX12_isBetter_66 : decode cX12_isBetter 66 = .ok (.getfield 213, 3) := by decide +kernel
theorem dX12_isBetter_69 : decode cX12_isBetter 69 = .ok (.if_icmp .ge 7, 3) := by decide +kernel
theorem dX12_isBetter_72 : decode cX12_isBetter 72 = .ok (.iconst 1, 1) := by decide +kernel
theorem dX12_isBetter_73 : decode cX12_isBetter 73 = .ok (.goto 25, 3) := by decide +kernel
theorem dX12_isBetter_76 : decode cX12_isBetter 76 = .ok (.iconst 0, 1) := by decide +kernel
theorem dX12_isBetter_77 : decode cX12_isBetter 77 = .ok (.goto 21, 3) := by decide +kernel
theorem dX12_isBetter_80 : decode cX12_isBetter 80 = .ok (.aload_n 0, 1) := by decide +kernel
theorem dX12_isBetter_81 : decode cX12_isBetter 81 = .ok (.getfield 48, 3) := by decide +kernel
theorem dX12_isBetter_84 : decode cX12_isBetter 84 = .ok (.iload_n 1, 1) := by decide +kernel
theorem dX12_isBetter_85 : decode cX12_isBetter 85 = .ok (.iaload, 1) := by decide +kernel
theorem dX12_isBetter_86 : decode cX12_isBetter 86 = .ok (.aload_n 0, 1) := by decide +kernel
theorem dX12_isBetter_87 : decode cX12_isBetter 87 = .ok (.getfield 216, 3) := by decide +kernel
theorem dX12_isBetter_90 : decode cX12_isBetter 90 = .ok (.if_icmp .ge 7, 3) := by decide +kernel
theorem dX12_isBetter_93 : decode cX12_isBetter 93 = .ok (.iconst 1, 1) := by decide +kernel
theorem dX12_isBetter_94 : decode cX12_isBetter 94 = .ok (.goto 4, 3) := by decide +kernel
theorem dX12_isBetter_97 : decode cX12_isBetter 97 = .ok (.iconst 0, 1) := by decide +kernel
theorem dX12_isBetter_98 : decode cX12_isBetter 98 = .ok (.ireturn, 1) := by decide +kernel
theorem dX12_arrives_0 : decode cX12_arrives 0 = .ok (.aload_n 0, 1) := by decide +kernel
theorem dX12_arrives_1 : decode cX12_arrives 1 = .ok (.iload_n 2, 1) := by decide +kernel
theorem dX12_arrives_2 : decode cX12_arrives 2 = .ok (.invokevirtual 219, 3) := by decide +kernel
theorem dX12_arrives_5 : decode cX12_arrives 5 = .ok (.ifCond .eq 52, 3) := by decide +kernel
theorem dX12_arrives_8 : decode cX12_arrives 8 = .ok (.aload_n 0, 1) := by decide +kernel
theorem dX12_arrives_9 : decode cX12_arrives 9 = .ok (.iload_n 2, 1) := by decide +kernel
theorem dX12_arrives_10 : decode cX12_arrives 10 = .ok (.putfield 207, 3) := by decide +kernel
theorem dX12_arrives_13 : decode cX12_arrives 13 = .ok (.aload_n 0, 1) := by decide +kernel
theorem dX12_arrives_14 : decode cX12_arrives 14 = .ok (.aload_n 0, 1) := by decide +kernel
theorem dX12_arrives_15 : decode cX12_arrives 15 = .ok (.getfield 42, 3) := by decide +kernel
theorem dX12_arrives_18 : decode cX12_arrives 18 = .ok (.iload_n 2, 1) := by decide +kernel
theorem dX12_arrives_19 : decode cX12_arrives 19 = .ok (.iaload, 1) := by decide +kernel
theorem dX12_arrives_20 : decode cX12_arrives 20 = .ok (.putfield 210, 3) := by decide +kernel
theorem dX12_arrives_23 : decode cX12_arrives 23 = .ok (.aload_n 0, 1) := by decide +kernel
theorem dX12_arrives_24 : decode cX12_arrives 24 = .ok (.aload_n 0, 1) := by decide +kernel
theorem dX12_arrives_25 : decode cX12_arrives 25 = .ok (.getfield 45, 3) := by decide +kernel
theorem dX12_arrives_28 : decode cX12_arrives 28 = .ok (.iload_n 2, 1) := by decide +kernel
theorem dX12_arrives_29 : decode cX12_arrives 29 = .ok (.iaload, 1) := by decide +kernel
theorem dX12_arrives_30 : decode cX12_arrives 30 = .ok (.putfield 213, 3) := by decide +kernel
theorem dX12_arrives_33 : decode cX12_arrives 33 = .ok (.aload_n 0, 1) := by decide +kernel
theorem dX12_arrives_34 : decode cX12_arrives 34 = .ok (.aload_n 0, 1) := by decide +kernel
theorem dX12_arrives_35 : decode cX12_arrives 35 = .ok (.getfield 48, 3) := by decide +kernel
theorem dX12_arrives_38 : decode cX12_arrives 38 = .ok (.iload_n 2, 1) := by decide +kernel
theorem dX12_arrives_39 : decode cX12_arrives 39 = .ok (.iaload, 1) := by decide +kernel
theorem dX12_arrives_40 : decode cX12_arrives 40 = .ok (.putfield 216, 3) := by decide +kernel
theorem dX12_arrives_43 : decode cX12_arrives 43 = .ok (.aload_n 0, 1) := by decide +kernel
theorem dX12_arrives_44 : decode cX12_arrives 44 = .ok (.getfield 39, 3) := by decide +kernel
theorem dX12_arrives_47 : decode cX12_arrives 47 = .ok (.iconst 1, 1) := by decide +kernel
theorem dX12_arrives_48 : decode cX12_arrives 48 = .ok (.aload_n 0, 1) := by decide +kernel
theorem dX12_arrives_49 : decode cX12_arrives 49 = .ok (.getfield 57, 3) := by decide +kernel
theorem dX12_arrives_52 : decode cX12_arrives 52 = .ok (.iconst 0, 1) := by decide +kernel
theorem dX12_arrives_53 : decode cX12_arrives 53 = .ok (.iload_n 2, 1) := by decide +kernel
theorem dX12_arrives_54 : decode cX12_arrives 54 = .ok (.invokestatic 175, 3) := by decide +kernel
theorem dX12_arrives_57 : decode cX12_arrives 57 = .ok (.aload_n 0, 1) := by decide +kernel
theorem dX12_arrives_58 : decode cX12_arrives 58 = .ok (.getfield 42, 3) := by decide +kernel
theorem dX12_arrives_61 : decode cX12_arrives 61 = .ok (.iload_n 2, 1) := by decide +kernel
theorem dX12_arrives_62 : decode cX12_arrives 62 = .ok (.iaload, 1) := by decide +kernel
theorem dX12_arrives_63 : decode cX12_arrives 63 = .ok (.aload_n 0, 1) := by decide +kernel
theorem dX12_arrives_64 : decode cX12_arrives 64 = .ok (.getfield 7, 3) := by decide +kernel
theorem dX12_arrives_67 : decode cX12_arrives 67 = .ok (.bipush 48, 2) := by decide +kernel
theorem dX12_arrives_69 : decode cX12_arrives 69 = .ok (.iload_n 1, 1) := by decide +kernel
theorem dX12_arrives_70 : decode cX12_arrives 70 = .ok (.iadd, 1) := by decide +kernel
theorem dX12_arrives_71 : decode cX12_arrives 71 = .ok (.iaload, 1) := by decide +kernel
theorem dX12_arrives_72 : decode cX12_arrives 72 = .ok (.if_icmp .ne 33, 3) := by decide +kernel
theorem dX12_arrives_75 : decode cX12_arrives 75 = .ok (.aload_n 0, 1) := by decide +kernel
theorem dX12_arrives_76 : decode cX12_arrives 76 = .ok (.getfield 222, 3) := by decide +kernel
theorem dX12_arrives_79 : decode cX12_arrives 79 = .ok (.ifCond .lt 16, 3) := by decide +kernel
theorem dX12_arrives_82 : decode cX12_arrives 82 = .ok (.aload_n 0, 1) := by decide +kernel
theorem dX12_arrives_83 : decode cX12_arrives 83 = .ok (.getfield 45, 3) := by decide +kernel
theorem dX12_arrives_86 : decode cX12_arrives 86 = .ok (.iload_n 2, 1) := by decide +kernel
theorem dX12_arrives_87 : decode cX12_arrives 87 = .ok (.iaload, 1) := by decide +kernel
theorem dX12_arrives_88 : decode cX12_arrives 88 = .ok (.aload_n 0, 1) := by decide +kernel
theorem dX12_arrives_89 : decode cX12_arrives 89 = .ok (.getfield 222, 3) := by decide +kernel
theorem dX12_arrives_92 : decode cX12_arrives 92 = .ok (.if_icmp .ge 13, 3) := by decide +kernel
theorem dX12_arrives_95 : decode cX12_arrives 95 = .ok (.aload_n 0, 1) := by decide +kernel
theorem dX12_arrives_96 : decode cX12_arrives 96 = .ok (.aload_n 0, 1) := by decide +kernel
theorem dX12_arrives_97 : decode cX12_arrives 97 = .ok (.getfield 45, 3) := by decide +kernel
theorem dX12_arrives_100 : decode cX12_arrives 100 = .ok (.iload_n 2, 1) := by decide +kernel
theorem dX12_arrives_101 : decode cX12_arrives 101 = .ok (.iaload, 1) := by decide +kernel
theorem dX12_arrives_102 : decode cX12_arrives 102 = .ok (.putfield 222, 3) := by decide +kernel
theorem dX12_arrives_105 : decode cX12_arrives 105 = .ok (.return_, 1) := by decide +kernel
theorem dX12_finds_0 : decode cX12_finds 0 = .ok (.aload_n 0, 1) := by decide +kernel
theorem dX12_finds_1 : decode cX12_finds 1 = .ok (.iconst 0, 1) := by decide +kernel
theorem dX12_finds_2 : decode cX12_finds 2 = .ok (.putfield 207, 3) := by decide +kernel
theorem dX12_finds_5 : decode cX12_finds 5 = .ok (.aload_n 0, 1) := by decide +kernel
theorem dX12_finds_6 : decode cX12_finds 6 = .ok (.iconst (-1), 1) := by decide +kernel
theorem dX12_finds_7 : decode cX12_finds 7 = .ok (.putfield 222, 3) := by decide +kernel
theorem dX12_finds_10 : decode cX12_finds 10 = .ok (.aload_n 0, 1) := by decide +kernel
theorem dX12_finds_11 : decode cX12_finds 11 = .ok (.iload_n 1, 1) := by decide +kernel
theorem dX12_finds_12 : decode cX12_finds 12 = .ok (.invokevirtual 225, 3) := by decide +kernel
theorem dX12_finds_15 : decode cX12_finds 15 = .ok (.aload_n 0, 1) := by decide +kernel
theorem dX12_finds_16 : decode cX12_finds 16 = .ok (.getfield 7, 3) := by decide +kernel
theorem dX12_finds_19 : decode cX12_finds 19 = .ok (.bipush 60, 2) := by decide +kernel
theorem dX12_finds_21 : decode cX12_finds 21 = .ok (.iload_n 1, 1) := by decide +kernel
theorem dX12_finds_22 : decode cX12_finds 22 = .ok (.iadd, 1) := by decide +kernel
theorem dX12_finds_23 : decode cX12_finds 23 = .ok (.iaload, 1) := by decide +kernel
theorem dX12_finds_24 : decode cX12_finds 24 = .ok (.bipush 7, 2) := by decide +kernel
theorem dX12_finds_26 : decode cX12_finds 26 = .ok (.if_icmp .ne 7, 3) := by decide +kernel
theorem dX12_finds_29 : decode cX12_finds 29 = .ok (.iconst (-1), 1) := by decide +kernel
theorem dX12_finds_30 : decode cX12_finds 30 = .ok (.goto 4, 3) := by decide +kernel
theorem dX12_finds_33 : decode cX12_finds 33 = .ok (.iconst 0, 1) := by decide +kernel
theorem dX12_finds_34 : decode cX12_finds 34 = .ok (.istore_n 3, 1) := by decide +kernel
theorem dX12_finds_35 : decode cX12_finds 35 = .ok (.iload_n 3, 1) := by decide +kernel
theorem dX12_finds_36 : decode cX12_finds 36 = .ok (.ifCond .lt 106, 3) := by decide +kernel
theorem dX12_finds_39 : decode cX12_finds 39 = .ok (.aload_n 0, 1) := by decide +kernel
theorem dX12_finds_40 : decode cX12_finds 40 = .ok (.getfield 39, 3) := by decide +kernel
theorem dX12_finds_43 : decode cX12_finds 43 = .ok (.iload_n 3, 1) := by decide +kernel
theorem dX12_finds_44 : decode cX12_finds 44 = .ok (.iaload, 1) := by decide +kernel
theorem dX12_finds_45 : decode cX12_finds 45 = .ok (.bipush 7, 2) := by decide +kernel
theorem dX12_finds_47 : decode cX12_finds 47 = .ok (.if_icmp .ne 15, 3) := by decide +kernel
theorem dX12_finds_50 : decode cX12_finds 50 = .ok (.aload_n 0, 1) := by decide +kernel
theorem dX12_finds_51 : decode cX12_finds 51 = .ok (.iload_n 1, 1) := by decide +kernel
theorem dX12_finds_52 : decode cX12_finds 52 = .ok (.iload_n 3, 1) := by decide +kernel
theorem dX12_finds_53 : decode cX12_finds 53 = .ok (.invokevirtual 228, 3) := by decide +kernel
theorem dX12_finds_56 : decode cX12_finds 56 = .ok (.iinc 3 (-1), 3) := by decide +kernel
theorem dX12_finds_59 : decode cX12_finds 59 = .ok (.goto (-24), 3) := by decide +kernel
theorem dX12_finds_62 : decode cX12_finds 62 = .ok (.aload_n 0, 1) := by decide +kernel
theorem dX12_finds_63 : decode cX12_finds 63 = .ok (.getfield 51, 3) := by decide +kernel
theorem dX12_finds_66 : decode cX12_finds 66 = .ok (.iload_n 3, 1) := by decide +kernel
theorem dX12_finds_67 : decode cX12_finds 67 = .ok (.iaload, 1) := by decide +kernel
theorem dX12_finds_68 : decode cX12_finds 68 = .ok (.bipush 7, 2) := by decide +kernel
theorem dX12_finds_70 : decode cX12_finds 70 = .ok (.if_icmp .le 9, 3) := by decide +kernel
theorem dX12_finds_73 : decode cX12_finds 73 = .ok (.iinc 3 (-1), 3) := by decide +kernel
theorem dX12_finds_76 : decode cX12_finds 76 = .ok (.goto (-41), 3) := by decide +kernel
theorem dX12_finds_79 : decode cX12_finds 79 = .ok (.aload_n 0, 1) := by decide +kernel
theorem dX12_finds_80 : decode cX12_finds 80 = .ok (.getfield 51, 3) := by decide +kernel
theorem dX12_finds_83 : decode cX12_finds 83 = .ok (.iload_n 3, 1) := by decide +kernel
theorem dX12_finds_84 : decode cX12_finds 84 = .ok (.iaload, 1) := by decide +kernel
theorem dX12_finds_85 : decode cX12_finds 85 = .ok (.istore 4, 2) := by decide +kernel
theorem dX12_finds_87 : decode cX12_finds 87 = .ok (.aload_n 0, 1) := by decide +kernel
theorem dX12_finds_88 : decode cX12_finds 88 = .ok (.getfield 51, 3) := by decide +kernel
theorem dX12_finds_91 : decode cX12_finds 91 = .ok (.iload_n 3, 1) := by decide +kernel
theorem dX12_finds_92 : decode cX12_finds 92 = .ok (.dup2, 1) := by decide +kernel
theorem dX12_finds_93 : decode cX12_finds 93 = .ok (.iaload, 1) := by decide +kernel
theorem dX12_finds_94 : decode cX12_finds 94 = .ok (.iconst 1, 1) := by decide +kernel
theorem dX12_finds_95 : decode cX12_finds 95 = .ok (.iadd, 1) := by decide +kernel
theorem dX12_finds_96 : decode cX12_finds 96 = .ok (.iastore, 1) := by decide +kernel
theorem dX12_finds_97 : decode cX12_finds 97 = .ok (.aload_n 0, 1) := by decide +kernel
theorem dX12_finds_98 : decode cX12_finds 98 = .ok (.getfield 54, 3) := by decide +kernel
theorem dX12_finds_101 : decode cX12_finds 101 = .ok (.iload_n 3, 1) := by decide +kernel
theorem dX12_finds_102 : decode cX12_finds 102 = .ok (.iaload, 1) := by decide +kernel
theorem dX12_finds_103 : decode cX12_finds 103 = .ok (.iload 4, 2) := by decide +kernel
theorem dX12_finds_105 : decode cX12_finds 105 = .ok (.invokestatic 231, 3) := by decide +kernel
theorem dX12_finds_108 : decode cX12_finds 108 = .ok (.ifCond .ne 31, 3) := by decide +kernel
theorem dX12_finds_111 : decode cX12_finds 111 = .ok (.aload_n 0, 1) := by decide +kernel
theorem dX12_finds_112 : decode cX12_finds 112 = .ok (.aload_n 0, 1) := by decide +kernel
theorem dX12_finds_113 : decode cX12_finds 113 = .ok (.getfield 39, 3) := by decide +kernel
theorem dX12_finds_116 : decode cX12_finds 116 = .ok (.iload_n 3, 1) := by decide +kernel
theorem dX12_finds_117 : decode cX12_finds 117 = .ok (.iaload, 1) := by decide +kernel
theorem dX12_finds_118 : decode cX12_finds 118 = .ok (.iload 4, 2) := by decide +kernel
theorem dX12_finds_120 : decode cX12_finds 120 = .ok (.invokevirtual 96, 3) := by decide +kernel
theorem dX12_finds_123 : decode cX12_finds 123 = .ok (.ifCond .le 16, 3) := by decide +kernel
theorem dX12_finds_126 : decode cX12_finds 126 = .ok (.aload_n 0, 1) := by decide +kernel
theorem dX12_finds_127 : decode cX12_finds 127 = .ok (.iload_n 1, 1) := by decide +kernel
theorem dX12_finds_128 : decode cX12_finds 128 = .ok (.iload_n 2, 1) := by decide +kernel
theorem dX12_finds_129 : decode cX12_finds 129 = .ok (.iload_n 3, 1) := by decide +kernel
theorem dX12_finds_130 : decode cX12_finds 130 = .ok (.iload 4, 2) := by decide +kernel
theorem dX12_finds_132 : decode cX12_finds 132 = .ok (.iconst 1, 1) := by decide +kernel
theorem dX12_finds_133 : decode cX12_finds 133 = .ok (.invokevirtual 234, 3) := by decide +kernel
theorem dX12_finds_136 : decode cX12_finds 136 = .ok (.iinc 3 1, 3) := by decide +kernel
theorem dX12_finds_139 : decode cX12_finds 139 = .ok (.goto (-104), 3) := by decide +kernel
theorem dX12_finds_142 : decode cX12_finds 142 = .ok (.return_, 1) := by decide +kernel
theorem dX12_way_0 : decode cX12_way 0 = .ok (.aload_n 0, 1) := by decide +kernel
theorem dX12_way_1 : decode cX12_way 1 = .ok (.iload_n 1, 1) := by decide +kernel
theorem dX12_way_2 : decode cX12_way 2 = .ok (.invokevirtual 190, 3) := by decide +kernel
theorem dX12_way_5 : decode cX12_way 5 = .ok (.ifCond .eq 17, 3) := by decide +kernel
theorem dX12_way_8 : decode cX12_way 8 = .ok (.aload_n 0, 1) := by decide +kernel
theorem dX12_way_9 : decode cX12_way 9 = .ok (.iload_n 2, 1) := by decide +kernel
theorem dX12_way_10 : decode cX12_way 10 = .ok (.invokevirtual 193, 3) := by decide +kernel
theorem dX12_way_13 : decode cX12_way 13 = .ok (.ifCond .eq 9, 3) := by decide +kernel
theorem dX12_way_16 : decode cX12_way 16 = .ok (.iload_n 3, 1) := by decide +kernel
theorem dX12_way_17 : decode cX12_way 17 = .ok (.bipush (-4), 2) := by decide +kernel
theorem dX12_way_19 : decode cX12_way 19 = .ok (.if_icmp .ge 10, 3) := by decide +kernel
theorem dX12_way_22 : decode cX12_way 22 = .ok (.aload_n 0, 1) := by decide +kernel
theorem dX12_way_23 : decode cX12_way 23 = .ok (.bipush (-10), 2) := by decide +kernel
theorem dX12_way_25 : decode cX12_way 25 = .ok (.invokevirtual 84, 3) := by decide +kernel
theorem dX12_way_28 : decode cX12_way 28 = .ok (.ireturn, 1) := by decide +kernel
theorem dX12_way_29 : decode cX12_way 29 = .ok (.aload_n 0, 1) := by decide +kernel
theorem dX12_way_30 : decode cX12_way 30 = .ok (.iload_n 1, 1) := by decide +kernel
theorem dX12_way_31 : decode cX12_way 31 = .ok (.iload_n 2, 1) := by decide +kernel
theorem dX12_way_32 : decode cX12_way 32 = .ok (.invokevirtual 238, 3) := by decide +kernel
theorem dX12_way_35 : decode cX12_way 35 = .ok (.aload_n 0, 1) := by decide +kernel
theorem dX12_way_36 : decode cX12_way 36 = .ok (.getfield 207, 3) := by decide +kernel
theorem dX12_way_39 : decode cX12_way 39 = .ok (.ifCond .ne 5, 3) := by decide +kernel
theorem dX12_way_42 : decode cX12_way 42 = .ok (.iconst (-1), 1) := by decide +kernel
theorem dX12_way_43 : decode cX12_way 43 = .ok (.ireturn, 1) := by decide +kernel
theorem dX12_way_44 : decode cX12_way 44 = .ok (.iload_n 3, 1) := by decide +kernel
theorem dX12_way_45 : decode cX12_way 45 = .ok (.tableswitch 51 (-4) (-1) #[31, 36, 41, 46], 31) := by decide +kernel
theorem dX12_way_76 : decode cX12_way 76 = .ok (.aload_n 0, 1) := by decide +kernel
theorem dX12_way_77 : decode cX12_way 77 = .ok (.getfield 210, 3) := by decide +kernel
theorem dX12_way_80 : decode cX12_way 80 = .ok (.ireturn, 1) := by decide +kernel
theorem dX12_way_81 : decode cX12_way 81 = .ok (.aload_n 0, 1) := by decide +kernel
theorem dX12_way_82 : decode cX12_way 82 = .ok (.getfield 213, 3) := by decide +kernel
theorem dX12_way_85 : decode cX12_way 85 = .ok (.ireturn, 1) := by decide +kernel
theorem dX12_way_86 : decode cX12_way 86 = .ok (.aload_n 0, 1) := by decide +kernel
theorem dX12_way_87 : decode cX12_way 87 = .ok (.getfield 216, 3) := by decide +kernel
theorem dX12_way_90 : decode cX12_way 90 = .ok (.ireturn, 1) := by decide +kernel
theorem dX12_way_91 : decode cX12_way 91 = .ok (.aload_n 0, 1) := by decide +kernel
theorem dX12_way_92 : decode cX12_way 92 = .ok (.getfield 207, 3) := by decide +kernel
theorem dX12_way_95 : decode cX12_way 95 = .ok (.ireturn, 1) := by decide +kernel
theorem dX12_way_96 : decode cX12_way 96 = .ok (.iload_n 3, 1) := by decide +kernel
theorem dX12_way_97 : decode cX12_way 97 = .ok (.aload_n 0, 1) := by decide +kernel
theorem dX12_way_98 : decode cX12_way 98 = .ok (.getfield 207, 3) := by decide +kernel
theorem dX12_way_101 : decode cX12_way 101 = .ok (.if_icmp .ge 12, 3) := by decide +kernel
theorem dX12_way_104 : decode cX12_way 104 = .ok (.aload_n 0, 1) := by decide +kernel
theorem dX12_way_105 : decode cX12_way 105 = .ok (.getfield 57, 3) := by decide +kernel
theorem dX12_way_108 : decode cX12_way 108 = .ok (.iload_n 3, 1) := by decide +kernel
theorem dX12_way_109 : decode cX12_way 109 = .ok (.iaload, 1) := by decide +kernel
theorem dX12_way_110 : decode cX12_way 110 = .ok (.goto 5, 3) := by decide +kernel
theorem dX12_way_113 : decode cX12_way 113 = .ok (.bipush (-5), 2) := by decide +kernel
theorem dX12_way_115 : decode cX12_way 115 = .ok (.ireturn, 1) := by decide +kernel
theorem dX12_gentle_0 : decode cX12_gentle 0 = .ok (.aload_n 0, 1) := by decide +kernel
theorem dX12_gentle_1 : decode cX12_gentle 1 = .ok (.iload_n 1, 1) := by decide +kernel
theorem dX12_gentle_2 : decode cX12_gentle 2 = .ok (.invokevirtual 190, 3) := by decide +kernel
theorem dX12_gentle_5 : decode cX12_gentle 5 = .ok (.ifCond .eq 11, 3) := by decide +kernel
theorem dX12_gentle_8 : decode cX12_gentle 8 = .ok (.aload_n 0, 1) := by decide +kernel
theorem dX12_gentle_9 : decode cX12_gentle 9 = .ok (.iload_n 2, 1) := by decide +kernel
theorem dX12_gentle_10 : decode cX12_gentle 10 = .ok (.invokevirtual 193, 3) := by decide +kernel
theorem dX12_gentle_13 : decode cX12_gentle 13 = .ok (.ifCond .ne 10, 3) := by decide +kernel
theorem dX12_gentle_16 : decode cX12_gentle 16 = .ok (.aload_n 0, 1) := by decide +kernel
theorem dX12_gentle_17 : decode cX12_gentle 17 = .ok (.bipush (-2), 2) := by decide +kernel
theorem dX12_gentle_19 : decode cX12_gentle 19 = .ok (.invokevirtual 84, 3) := by decide +kernel
theorem dX12_gentle_22 : decode cX12_gentle 22 = .ok (.ireturn, 1) := by decide +kernel
theorem dX12_gentle_23 : decode cX12_gentle 23 = .ok (.aload_n 0, 1) := by decide +kernel
theorem dX12_gentle_24 : decode cX12_gentle 24 = .ok (.iload_n 1, 1) := by decide +kernel
theorem dX12_gentle_25 : decode cX12_gentle 25 = .ok (.iload_n 2, 1) := by decide +kernel
theorem dX12_gentle_26 : decode cX12_gentle 26 = .ok (.invokevirtual 238, 3) := by decide +kernel
theorem dX12_gentle_29 : decode cX12_gentle 29 = .ok (.aload_n 0, 1) := by decide +kernel
theorem dX12_gentle_30 : decode cX12_gentle 30 = .ok (.getfield 222, 3) := by decide +kernel
theorem dX12_gentle_33 : decode cX12_gentle 33 = .ok (.ireturn, 1) := by decide +kernel
theorem dX12_where_0 : decode cX12_where 0 = .ok (.aload_n 0, 1) := by decide +kernel
theorem dX12_where_1 : decode cX12_where 1 = .ok (.iload_n 1, 1) := by decide +kernel
theorem dX12_where_2 : decode cX12_where 2 = .ok (.invokevirtual 190, 3) := by decide +kernel
theorem dX12_where_5 : decode cX12_where 5 = .ok (.ifCond .eq 11, 3) := by decide +kernel
theorem dX12_where_8 : decode cX12_where 8 = .ok (.aload_n 0, 1) := by decide +kernel
theorem dX12_where_9 : decode cX12_where 9 = .ok (.iload_n 2, 1) := by decide +kernel
theorem dX12_where_10 : decode cX12_where 10 = .ok (.invokevirtual 193, 3) := by decide +kernel
theorem dX12_where_13 : decode cX12_where 13 = .ok (.ifCond .ne 10, 3) := by decide +kernel
theorem dX12_where_16 : decode cX12_where 16 = .ok (.aload_n 0, 1) := by decide +kernel
theorem dX12_where_17 : decode cX12_where 17 = .ok (.bipush (-10), 2) := by decide +kernel
theorem dX12_where_19 : decode cX12_where 19 = .ok (.invokevirtual 84, 3) := by decide +kernel
theorem dX12_where_22 : decode cX12_where 22 = .ok (.ireturn, 1) := by decide +kernel
theorem dX12_where_23 : decode cX12_where 23 = .ok (.aload_n 0, 1) := by decide +kernel
theorem dX12_where_24 : decode cX12_where 24 = .ok (.getfield 7, 3) := by decide +kernel
theorem dX12_where_27 : decode cX12_where 27 = .ok (.bipush 52, 2) := by decide +kernel
theorem dX12_where_29 : decode cX12_where 29 = .ok (.iload_n 1, 1) := by decide +kernel
theorem dX12_where_30 : decode cX12_where 30 = .ok (.iadd, 1) := by decide +kernel
theorem dX12_where_31 : decode cX12_where 31 = .ok (.iaload, 1) := by decide +kernel
theorem dX12_where_32 : decode cX12_where 32 = .ok (.aload_n 0, 1) := by decide +kernel
theorem dX12_where_33 : decode cX12_where 33 = .ok (.getfield 7, 3) := by decide +kernel
theorem dX12_where_36 : decode cX12_where 36 = .ok (.bipush 48, 2) := by decide +kernel
theorem dX12_where_38 : decode cX12_where 38 = .ok (.iload_n 1, 1) := by decide +kernel
theorem dX12_where_39 : decode cX12_where 39 = .ok (.iadd, 1) := by decide +kernel
theorem dX12_where_40 : decode cX12_where 40 = .ok (.iaload, 1) := by decide +kernel
theorem dX12_where_41 : decode cX12_where 41 = .ok (.if_icmp .ne 6, 3) := by decide +kernel
theorem dX12_where_44 : decode cX12_where 44 = .ok (.bipush (-3), 2) := by decide +kernel
theorem dX12_where_46 : decode cX12_where 46 = .ok (.ireturn, 1) := by decide +kernel
theorem dX12_where_47 : decode cX12_where 47 = .ok (.aload_n 0, 1) := by decide +kernel
theorem dX12_where_48 : decode cX12_where 48 = .ok (.iload_n 1, 1) := by decide +kernel
theorem dX12_where_49 : decode cX12_where 49 = .ok (.iload_n 2, 1) := by decide +kernel
theorem dX12_where_50 : decode cX12_where 50 = .ok (.invokevirtual 238, 3) := by decide +kernel
theorem dX12_where_53 : decode cX12_where 53 = .ok (.aload_n 0, 1) := by decide +kernel
theorem dX12_where_54 : decode cX12_where 54 = .ok (.getfield 207, 3) := by decide +kernel
theorem dX12_where_57 : decode cX12_where 57 = .ok (.ifCond .ne 6, 3) := by decide +kernel
theorem dX12_where_60 : decode cX12_where 60 = .ok (.bipush (-4), 2) := by decide +kernel
theorem dX12_where_62 : decode cX12_where 62 = .ok (.ireturn, 1) := by decide +kernel
theorem dX12_where_63 : decode cX12_where 63 = .ok (.aload_n 0, 1) := by decide +kernel
theorem dX12_where_64 : decode cX12_where 64 = .ok (.iload_n 1, 1) := by decide +kernel
theorem dX12_where_65 : decode cX12_where 65 = .ok (.invokevirtual 225, 3) := by decide +kernel
theorem dX12_where_68 : decode cX12_where 68 = .ok (.iconst 0, 1) := by decide +kernel
theorem dX12_where_69 : decode cX12_where 69 = .ok (.istore_n 3, 1) := by decide +kernel
theorem dX12_where_70 : decode cX12_where 70 = .ok (.iload_n 3, 1) := by decide +kernel
theorem dX12_where_71 : decode cX12_where 71 = .ok (.aload_n 0, 1) := by decide +kernel
theorem dX12_where_72 : decode cX12_where 72 = .ok (.getfield 207, 3) := by decide +kernel
theorem dX12_where_75 : decode cX12_where 75 = .ok (.if_icmp .ge 45, 3) := by decide +kernel
theorem dX12_where_78 : decode cX12_where 78 = .ok (.aload_n 0, 1) := by decide +kernel
theorem dX12_where_79 : decode cX12_where 79 = .ok (.iload_n 1, 1) := by decide +kernel
theorem dX12_where_80 : decode cX12_where 80 = .ok (.iload_n 2, 1) := by decide +kernel
theorem dX12_where_81 : decode cX12_where 81 = .ok (.iload_n 3, 1) := by decide +kernel
theorem dX12_where_82 : decode cX12_where 82 = .ok (.aload_n 0, 1) := by decide +kernel
theorem dX12_where_83 : decode cX12_where 83 = .ok (.getfield 57, 3) := by decide +kernel
theorem dX12_where_86 : decode cX12_where 86 = .ok (.iload_n 3, 1) := by decide +kernel
theorem dX12_where_87 : decode cX12_where 87 = .ok (.iaload, 1) := by decide +kernel
theorem dX12_where_88 : decode cX12_where 88 = .ok (.iconst 1, 1) := by decide +kernel
theorem dX12_where_89 : decode cX12_where 89 = .ok (.invokevirtual 234, 3) := by decide +kernel
theorem dX12_where_92 : decode cX12_where 92 = .ok (.aload_n 0, 1) := by decide +kernel
theorem dX12_where_93 : decode cX12_where 93 = .ok (.getfield 42, 3) := by decide +kernel
theorem dX12_where_96 : decode cX12_where 96 = .ok (.iload_n 3, 1) := by decide +kernel
theorem dX12_where_97 : decode cX12_where 97 = .ok (.iconst 1, 1) := by decide +kernel
theorem dX12_where_98 : decode cX12_where 98 = .ok (.iadd, 1) := by decide +kernel
theorem dX12_where_99 : decode cX12_where 99 = .ok (.iaload, 1) := by decide +kernel
theorem dX12_where_100 : decode cX12_where 100 = .ok (.aload_n 0, 1) := by decide +kernel
theorem dX12_where_101 : decode cX12_where 101 = .ok (.getfield 7, 3) := by decide +kernel
theorem dX12_where_104 : decode cX12_where 104 = .ok (.bipush 48, 2) := by decide +kernel
theorem dX12_where_106 : decode cX12_where 106 = .ok (.iload_n 1, 1) := by decide +kernel
theorem dX12_where_107 : decode cX12_where 107 = .ok (.iadd, 1) := by decide +kernel
theorem dX12_where_108 : decode cX12_where 108 = .ok (.iaload, 1) := by decide +kernel
theorem dX12_where_109 : decode cX12_where 109 = .ok (.if_icmp .ne 5, 3) := by decide +kernel
theorem dX12_where_112 : decode cX12_where 112 = .ok (.iload_n 3, 1) := by decide +kernel
theorem dX12_where_113 : decode cX12_where 113 = .ok (.ireturn, 1) := by decide +kernel
theorem dX12_where_114 : decode cX12_where 114 = .ok (.iinc 3 1, 3) := by decide +kernel
theorem dX12_where_117 : decode cX12_where 117 = .ok (.goto (-47), 3) := by decide +kernel
theorem dX12_where_120 : decode cX12_where 120 = .ok (.iconst (-1), 1) := by decide +kernel
theorem dX12_where_121 : decode cX12_where 121 = .ok (.ireturn, 1) := by decide +kernel
theorem dX12_findsAll_0 : decode cX12_findsAll 0 = .ok (.iconst 0, 1) := by decide +kernel
theorem dX12_findsAll_1 : decode cX12_findsAll 1 = .ok (.istore_n 1, 1) := by decide +kernel
theorem dX12_findsAll_2 : decode cX12_findsAll 2 = .ok (.iload_n 1, 1) := by decide +kernel
theorem dX12_findsAll_3 : decode cX12_findsAll 3 = .ok (.aload_n 0, 1) := by decide +kernel
theorem dX12_findsAll_4 : decode cX12_findsAll 4 = .ok (.getfield 7, 3) := by decide +kernel
theorem dX12_findsAll_7 : decode cX12_findsAll 7 = .ok (.bipush 37, 2) := by decide +kernel
theorem dX12_findsAll_9 : decode cX12_findsAll 9 = .ok (.iaload, 1) := by decide +kernel
theorem dX12_findsAll_10 : decode cX12_findsAll 10 = .ok (.if_icmp .ge 168, 3) := by decide +kernel
theorem dX12_findsAll_13 : decode cX12_findsAll 13 = .ok (.iconst 0, 1) := by decide +kernel
theorem dX12_findsAll_14 : decode cX12_findsAll 14 = .ok (.istore_n 2, 1) := by decide +kernel
theorem dX12_findsAll_15 : decode cX12_findsAll 15 = .ok (.iload_n 2, 1) := by decide +kernel
theorem dX12_findsAll_16 : decode cX12_findsAll 16 = .ok (.iconst 3, 1) := by decide +kernel
theorem dX12_findsAll_17 : decode cX12_findsAll 17 = .ok (.if_icmp .ge 81, 3) := by decide +kernel
theorem dX12_findsAll_20 : decode cX12_findsAll 20 = .ok (.aload_n 0, 1) := by decide +kernel
theorem dX12_findsAll_21 : decode cX12_findsAll 21 = .ok (.iconst 0, 1) := by decide +kernel
theorem dX12_findsAll_22 : decode cX12_findsAll 22 = .ok (.putfield 207, 3) := by decide +kernel
theorem dX12_findsAll_25 : decode cX12_findsAll 25 = .ok (.iload_n 2, 1) := by decide +kernel
theorem dX12_findsAll_26 : decode cX12_findsAll 26 = .ok (.aload_n 0, 1) := by decide +kernel
theorem dX12_findsAll_27 : decode cX12_findsAll 27 = .ok (.getfield 7, 3) := by decide +kernel
theorem dX12_findsAll_30 : decode cX12_findsAll 30 = .ok (.bipush 36, 2) := by decide +kernel
theorem dX12_findsAll_32 : decode cX12_findsAll 32 = .ok (.iaload, 1) := by decide +kernel
theorem dX12_findsAll_33 : decode cX12_findsAll 33 = .ok (.if_icmp .ge 9, 3) := by decide +kernel
theorem dX12_findsAll_36 : decode cX12_findsAll 36 = .ok (.aload_n 0, 1) := by decide +kernel
theorem dX12_findsAll_37 : decode cX12_findsAll 37 = .ok (.iload_n 1, 1) := by decide +kernel
theorem dX12_findsAll_38 : decode cX12_findsAll 38 = .ok (.iload_n 2, 1) := by decide +kernel
theorem dX12_findsAll_39 : decode cX12_findsAll 39 = .ok (.invokevirtual 238, 3) := by decide +kernel
theorem dX12_findsAll_42 : decode cX12_findsAll 42 = .ok (.aload_n 0, 1) := by decide +kernel
theorem dX12_findsAll_43 : decode cX12_findsAll 43 = .ok (.getfield 60, 3) := by decide +kernel
theorem dX12_findsAll_46 : decode cX12_findsAll 46 = .ok (.iconst 4, 1) := by decide +kernel
theorem dX12_findsAll_47 : decode cX12_findsAll 47 = .ok (.iload_n 1, 1) := by decide +kernel
theorem dX12_findsAll_48 : decode cX12_findsAll 48 = .ok (.imul, 1) := by decide +kernel
theorem dX12_findsAll_49 : decode cX12_findsAll 49 = .ok (.iload_n 2, 1) := by decide +kernel
theorem dX12_findsAll_50 : decode cX12_findsAll 50 = .ok (.iadd, 1) := by decide +kernel
theorem dX12_findsAll_51 : decode cX12_findsAll 51 = .ok (.aload_n 0, 1) := by decide +kernel
theorem dX12_findsAll_52 : decode cX12_findsAll 52 = .ok (.getfield 207, 3) := by decide +kernel
theorem dX12_findsAll_55 : decode cX12_findsAll 55 = .ok (.ifCond .ne 7, 3) := by decide +kernel
theorem dX12_findsAll_58 : decode cX12_findsAll 58 = .ok (.iconst (-1), 1) := by decide +kernel
theorem dX12_findsAll_59 : decode cX12_findsAll 59 = .ok (.goto 7, 3) := by decide +kernel
theorem dX12_findsAll_62 : decode cX12_findsAll 62 = .ok (.aload_n 0, 1) := by decide +kernel
theorem dX12_findsAll_63 : decode cX12_findsAll 63 = .ok (.getfield 210, 3) := by decide +kernel
theorem dX12_findsAll_66 : decode cX12_findsAll 66 = .ok (.iastore, 1) := by decide +kernel
theorem dX12_findsAll_67 : decode cX12_findsAll 67 = .ok (.aload_n 0, 1) := by decide +kernel
theorem dX12_findsAll_68 : decode cX12_findsAll 68 = .ok (.getfield 63, 3) := by decide +kernel
theorem dX12_findsAll_71 : decode cX12_findsAll 71 = .ok (.iconst 4, 1) := by decide +kernel
theorem dX12_findsAll_72 : decode cX12_findsAll 72 = .ok (.iload_n 1, 1) := by decide +kernel
theorem dX12_findsAll_73 : decode cX12_findsAll 73 = .ok (.imul, 1) := by decide +kernel
theorem dX12_findsAll_74 : decode cX12_findsAll 74 = .ok (.iload_n 2, 1) := by decide +kernel
theorem dX12_findsAll_75 : decode cX12_findsAll 75 = .ok (.iadd, 1) := by decide +kernel
theorem dX12_findsAll_76 : decode cX12_findsAll 76 = .ok (.aload_n 0, 1) := by decide +kernel
theorem dX12_findsAll_77 : decode cX12_findsAll 77 = .ok (.getfield 207, 3) := by decide +kernel
theorem dX12_findsAll_80 : decode cX12_findsAll 80 = .ok (.ifCond .ne 7, 3) := by decide +kernel
theorem dX12_findsAll_83 : decode cX12_findsAll 83 = .ok (.iconst (-1), 1) := by decide +kernel
theorem dX12_findsAll_84 : decode cX12_findsAll 84 = .ok (.goto 7, 3) := by decide +kernel
theorem dX12_findsAll_87 : decode cX12_findsAll 87 = .ok (.aload_n 0, 1) := by decide +kernel
theorem dX12_findsAll_88 : decode cX12_findsAll 88 = .ok (.getfield 213, 3) := by decide +kernel
theorem dX12_findsAll_91 : decode cX12_findsAll 91 = .ok (.iastore, 1) := by decide +kernel
theorem dX12_findsAll_92 : decode cX12_findsAll 92 = .ok (.iinc 2 1, 3) := by decide +kernel
theorem dX12_findsAll_95 : decode cX12_findsAll 95 = .ok (.goto (-80), 3) := by decide +kernel
theorem dX12_findsAll_98 : decode cX12_findsAll 98 = .ok (.aload_n 0, 1) := by decide +kernel
theorem dX12_findsAll_99 : decode cX12_findsAll 99 = .ok (.getfield 7, 3) := by decide +kernel
theorem dX12_findsAll_102 : decode cX12_findsAll 102 = .ok (.bipush 60, 2) := by decide +kernel
theorem dX12_findsAll_104 : decode cX12_findsAll 104 = .ok (.iload_n 1, 1) := by decide +kernel
theorem dX12_findsAll_105 : decode cX12_findsAll 105 = .ok (.iadd, 1) := by decide +kernel
theorem dX12_findsAll_106 : decode cX12_findsAll 106 = .ok (.iaload, 1) := by decide +kernel
theorem dX12_findsAll_107 : decode cX12_findsAll 107 = .ok (.bipush 7, 2) := by decide +kernel
theorem dX12_findsAll_109 : decode cX12_findsAll 109 = .ok (.if_icmp .ne 7, 3) := by decide +kernel
theorem dX12_findsAll_112 : decode cX12_findsAll 112 = .ok (.iconst 1, 1) := by decide +kernel
theorem dX12_findsAll_113 : decode cX12_findsAll 113 = .ok (.goto 4, 3) := by decide +kernel
theorem dX12_findsAll_116 : decode cX12_findsAll 116 = .ok (.iconst 0, 1) := by decide +kernel
theorem dX12_findsAll_117 : decode cX12_findsAll 117 = .ok (.istore_n 2, 1) := by decide +kernel
theorem dX12_findsAll_118 : decode cX12_findsAll 118 = .ok (.aload_n 0, 1) := by decide +kernel
theorem dX12_findsAll_119 : decode cX12_findsAll 119 = .ok (.getfield 60, 3) := by decide +kernel
theorem dX12_findsAll_122 : decode cX12_findsAll 122 = .ok (.iconst 4, 1) := by decide +kernel
theorem dX12_findsAll_123 : decode cX12_findsAll 123 = .ok (.iload_n 1, 1) := by decide +kernel
theorem dX12_findsAll_124 : decode cX12_findsAll 124 = .ok (.imul, 1) := by decide +kernel
theorem dX12_findsAll_125 : decode cX12_findsAll 125 = .ok (.iconst 3, 1) := by decide +kernel
theorem dX12_findsAll_126 : decode cX12_findsAll 126 = .ok (.iadd, 1) := by decide +kernel
theorem dX12_findsAll_127 : decode cX12_findsAll 127 = .ok (.iload_n 2, 1) := by decide +kernel
theorem dX12_findsAll_128 : decode cX12_findsAll 128 = .ok (.ifCond .eq 15, 3) := by decide +kernel
theorem dX12_findsAll_131 : decode cX12_findsAll 131 = .ok (.aload_n 0, 1) := by decide +kernel
theorem dX12_findsAll_132 : decode cX12_findsAll 132 = .ok (.getfield 7, 3) := by decide +kernel
theorem dX12_findsAll_135 : decode cX12_findsAll 135 = .ok (.bipush 52, 2) := by decide +kernel
theorem dX12_findsAll_137 : decode cX12_findsAll 137 = .ok (.iload_n 1, 1) := by decide +kernel
theorem dX12_findsAll_138 : decode cX12_findsAll 138 = .ok (.iadd, 1) := by decide +kernel
theorem dX12_findsAll_139 : decode cX12_findsAll 139 = .ok (.iaload, 1) := by decide +kernel
theorem dX12_findsAll_140 : decode cX12_findsAll 140 = .ok (.goto 4, 3) := by decide +kernel
theorem dX12_findsAll_143 : decode cX12_findsAll 143 = .ok (.iconst (-1), 1) := by decide +kernel
theorem dX12_findsAll_144 : decode cX12_findsAll 144 = .ok (.iastore, 1) := by decide +kernel
theorem dX12_findsAll_145 : decode cX12_findsAll 145 = .ok (.aload_n 0, 1) := by decide +kernel
theorem dX12_findsAll_146 : decode cX12_findsAll 146 = .ok (.getfield 63, 3) := by decide +kernel
theorem dX12_findsAll_149 : decode cX12_findsAll 149 = .ok (.iconst 4, 1) := by decide +kernel
theorem dX12_findsAll_150 : decode cX12_findsAll 150 = .ok (.iload_n 1, 1) := by decide +kernel
theorem dX12_findsAll_151 : decode cX12_findsAll 151 = .ok (.imul, 1) := by decide +kernel
theorem dX12_findsAll_152 : decode cX12_findsAll 152 = .ok (.iconst 3, 1) := by decide +kernel
theorem dX12_findsAll_153 : decode cX12_findsAll 153 = .ok (.iadd, 1) := by decide +kernel
theorem dX12_findsAll_154 : decode cX12_findsAll 154 = .ok (.iload_n 2, 1) := by decide +kernel
theorem dX12_findsAll_155 : decode cX12_findsAll 155 = .ok (.ifCond .eq 15, 3) := by decide +kernel
theorem dX12_findsAll_158 : decode cX12_findsAll 158 = .ok (.aload_n 0, 1) := by decide +kernel
theorem dX12_findsAll_159 : decode cX12_findsAll 159 = .ok (.getfield 7, 3) := by decide +kernel
theorem dX12_findsAll_162 : decode cX12_findsAll 162 = .ok (.bipush 56, 2) := by decide +kernel
theorem dX12_findsAll_164 : decode cX12_findsAll 164 = .ok (.iload_n 1, 1) := by decide +kernel
theorem dX12_findsAll_165 : decode cX12_findsAll 165 = .ok (.iadd, 1) := by decide +kernel
theorem dX12_findsAll_166 : decode cX12_findsAll 166 = .ok (.iaload, 1) := by decide +kernel
theorem dX12_findsAll_167 : decode cX12_findsAll 167 = .ok (.goto 4, 3) := by decide +kernel
theorem dX12_findsAll_170 : decode cX12_findsAll 170 = .ok (.iconst (-1), 1) := by decide +kernel
theorem dX12_findsAll_171 : decode cX12_findsAll 171 = .ok (.iastore, 1) := by decide +kernel
theorem dX12_findsAll_172 : decode cX12_findsAll 172 = .ok (.iinc 1 1, 3) := by decide +kernel
theorem dX12_findsAll_175 : decode cX12_findsAll 175 = .ok (.goto (-173), 3) := by decide +kernel
theorem dX12_findsAll_178 : decode cX12_findsAll 178 = .ok (.return_, 1) := by decide +kernel
theorem dX12_rowerBy_0 : decode cX12_rowerBy 0 = .ok (.iload_n 1, 1) := by decide +kernel
theorem dX12_rowerBy_1 : decode cX12_rowerBy 1 = .ok (.iconst 2, 1) := by decide +kernel
theorem dX12_rowerBy_2 : decode cX12_rowerBy 2 = .ok (.aload_n 0, 1) := by decide +kernel
theorem dX12_rowerBy_3 : decode cX12_rowerBy 3 = .ok (.getfield 7, 3) := by decide +kernel
theorem dX12_rowerBy_6 : decode cX12_rowerBy 6 = .ok (.bipush 37, 2) := by decide +kernel
theorem dX12_rowerBy_8 : decode cX12_rowerBy 8 = .ok (.iaload, 1) := by decide +kernel
theorem dX12_rowerBy_9 : decode cX12_rowerBy 9 = .ok (.iconst 1, 1) := by decide +kernel
theorem dX12_rowerBy_10 : decode cX12_rowerBy 10 = .ok (.isub, 1) := by decide +kernel
theorem dX12_rowerBy_11 : decode cX12_rowerBy 11 = .ok (.iload_n 2, 1) := by decide +kernel
theorem dX12_rowerBy_12 : decode cX12_rowerBy 12 = .ok (.isub, 1) := by decide +kernel
theorem dX12_rowerBy_13 : decode cX12_rowerBy 13 = .ok (.imul, 1) := by decide +kernel
theorem dX12_rowerBy_14 : decode cX12_rowerBy 14 = .ok (.ishr, 1) := by decide +kernel
theorem dX12_rowerBy_15 : decode cX12_rowerBy 15 = .ok (.iconst 3, 1) := by decide +kernel
theorem dX12_rowerBy_16 : decode cX12_rowerBy 16 = .ok (.iand, 1) := by decide +kernel
theorem dX12_rowerBy_17 : decode cX12_rowerBy 17 = .ok (.ireturn, 1) := by decide +kernel
theorem dX12_shares_0 : decode cX12_shares 0 = .ok (.iconst 0, 1) := by decide +kernel
theorem dX12_shares_1 : decode cX12_shares 1 = .ok (.istore_n 2, 1) := by decide +kernel
theorem dX12_shares_2 : decode cX12_shares 2 = .ok (.iconst 0, 1) := by decide +kernel
theorem dX12_shares_3 : decode cX12_shares 3 = .ok (.istore_n 3, 1) := by decide +kernel
theorem dX12_shares_4 : decode cX12_shares 4 = .ok (.iconst 0, 1) := by decide +kernel
theorem dX12_shares_5 : decode cX12_shares 5 = .ok (.istore 4, 2) := by decide +kernel
theorem dX12_shares_7 : decode cX12_shares 7 = .ok (.iconst 0, 1) := by decide +kernel
theorem dX12_shares_8 : decode cX12_shares 8 = .ok (.istore 5, 2) := by decide +kernel
theorem dX12_shares_10 : decode cX12_shares 10 = .ok (.iload 5, 2) := by decide +kernel
theorem dX12_shares_12 : decode cX12_shares 12 = .ok (.aload_n 0, 1) := by decide +kernel
theorem dX12_shares_13 : decode cX12_shares 13 = .ok (.getfield 7, 3) := by decide +kernel
theorem dX12_shares_16 : decode cX12_shares 16 = .ok (.bipush 37, 2) := by decide +kernel
theorem dX12_shares_18 : decode cX12_shares 18 = .ok (.iaload, 1) := by decide +kernel
theorem dX12_shares_19 : decode cX12_shares 19 = .ok (.if_icmp .ge 85, 3) := by decide +kernel
theorem dX12_shares_22 : decode cX12_shares 22 = .ok (.aload_n 0, 1) := by decide +kernel
theorem dX12_shares_23 : decode cX12_shares 23 = .ok (.iload_n 1, 1) := by decide +kernel
theorem dX12_shares_24 : decode cX12_shares 24 = .ok (.iload 5, 2) := by decide +kernel
theorem dX12_shares_26 : decode cX12_shares 26 = .ok (.invokevirtual 241, 3) := by decide +kernel
theorem dX12_shares_29 : decode cX12_shares 29 = .ok (.istore 6, 2) := by decide +kernel
theorem dX12_shares_31 : decode cX12_shares 31 = .ok (.aload_n 0, 1) := by decide +kernel
theorem dX12_shares_32 : decode cX12_shares 32 = .ok (.getfield 60, 3) := by decide +kernel
theorem dX12_shares_35 : decode cX12_shares 35 = .ok (.iconst 4, 1) := by decide +kernel
theorem dX12_shares_36 : decode cX12_shares 36 = .ok (.iload 5, 2) := by decide +kernel
theorem dX12_shares_38 : decode cX12_shares 38 = .ok (.imul, 1) := by decide +kernel
theorem dX12_shares_39 : decode cX12_shares 39 = .ok (.iload 6, 2) := by decide +kernel
theorem dX12_shares_41 : decode cX12_shares 41 = .ok (.iadd, 1) := by decide +kernel
theorem dX12_shares_42 : decode cX12_shares 42 = .ok (.iaload, 1) := by decide +kernel
theorem dX12_shares_43 : decode cX12_shares 43 = .ok (.ifCond .ge 4, 3) := by decide +kernel
theorem dX12_shares_46 : decode cX12_shares 46 = .ok (.return_, 1) := by decide +kernel
theorem dX12_shares_47 : decode cX12_shares 47 = .ok (.iload_n 2, 1) := by decide +kernel
theorem dX12_shares_48 : decode cX12_shares 48 = .ok (.aload_n 0, 1) := by decide +kernel
theorem dX12_shares_49 : decode cX12_shares 49 = .ok (.getfield 60, 3) := by decide +kernel
theorem dX12_shares_52 : decode cX12_shares 52 = .ok (.iconst 4, 1) := by decide +kernel
theorem dX12_shares_53 : decode cX12_shares 53 = .ok (.iload 5, 2) := by decide +kernel
theorem dX12_shares_55 : decode cX12_shares 55 = .ok (.imul, 1) := by decide +kernel
theorem dX12_shares_56 : decode cX12_shares 56 = .ok (.iload 6, 2) := by decide +kernel
theorem dX12_shares_58 : decode cX12_shares 58 = .ok (.iadd, 1) := by decide +kernel
theorem dX12_shares_59 : decode cX12_shares 59 = .ok (.iaload, 1) := by decide +kernel
theorem dX12_shares_60 : decode cX12_shares 60 = .ok (.iadd, 1) := by decide +kernel
theorem dX12_shares_61 : decode cX12_shares 61 = .ok (.istore_n 2, 1) := by decide +kernel
theorem dX12_shares_62 : decode cX12_shares 62 = .ok (.iload_n 3, 1) := by decide +kernel
theorem dX12_shares_63 : decode cX12_shares 63 = .ok (.aload_n 0, 1) := by decide +kernel
theorem dX12_shares_64 : decode cX12_shares 64 = .ok (.getfield 63, 3) := by decide +kernel
theorem dX12_shares_67 : decode cX12_shares 67 = .ok (.iconst 4, 1) := by decide +kernel
theorem dX12_shares_68 : decode cX12_shares 68 = .ok (.iload 5, 2) := by decide +kernel
theorem dX12_shares_70 : decode cX12_shares 70 = .ok (.imul, 1) := by decide +kernel
theorem dX12_shares_71 : decode cX12_shares 71 = .ok (.iload 6, 2) := by decide +kernel
theorem dX12_shares_73 : decode cX12_shares 73 = .ok (.iadd, 1) := by decide +kernel
theorem dX12_shares_74 : decode cX12_shares 74 = .ok (.iaload, 1) := by decide +kernel
theorem dX12_shares_75 : decode cX12_shares 75 = .ok (.iadd, 1) := by decide +kernel
theorem dX12_shares_76 : decode cX12_shares 76 = .ok (.istore_n 3, 1) := by decide +kernel
theorem dX12_shares_77 : decode cX12_shares 77 = .ok (.iload 4, 2) := by decide +kernel
theorem dX12_shares_79 : decode cX12_shares 79 = .ok (.iload 6, 2) := by decide +kernel
theorem dX12_shares_81 : decode cX12_shares 81 = .ok (.iconst 3, 1) := by decide +kernel
theorem dX12_shares_82 : decode cX12_shares 82 = .ok (.if_icmp .ge 12, 3) := by decide +kernel
theorem dX12_shares_85 : decode cX12_shares 85 = .ok (.iconst 1, 1) := by decide +kernel
theorem dX12_shares_86 : decode cX12_shares 86 = .ok (.iconst 4, 1) := by decide +kernel
theorem dX12_shares_87 : decode cX12_shares 87 = .ok (.iload 6, 2) := by decide +kernel
theorem dX12_shares_89 : decode cX12_shares 89 = .ok (.imul, 1) := by decide +kernel
theorem dX12_shares_90 : decode cX12_shares 90 = .ok (.ishl, 1) := by decide +kernel
theorem dX12_shares_91 : decode cX12_shares 91 = .ok (.goto 4, 3) := by decide +kernel
theorem dX12_shares_94 : decode cX12_shares 94 = .ok (.iconst 0, 1) := by decide +kernel
theorem dX12_shares_95 : decode cX12_shares 95 = .ok (.iadd, 1) := by decide +kernel
theorem dX12_shares_96 : decode cX12_shares 96 = .ok (.istore 4, 2) := by decide +kernel
theorem dX12_shares_98 : decode cX12_shares 98 = .ok (.iinc 5 1, 3) := by decide +kernel
theorem dX12_shares_101 : decode cX12_shares 101 = .ok (.goto (-91), 3) := by decide +kernel
theorem dX12_shares_104 : decode cX12_shares 104 = .ok (.iconst 0, 1) := by decide +kernel
theorem dX12_shares_105 : decode cX12_shares 105 = .ok (.istore 5, 2) := by decide +kernel
theorem dX12_shares_107 : decode cX12_shares 107 = .ok (.iload 5, 2) := by decide +kernel
theorem dX12_shares_109 : decode cX12_shares 109 = .ok (.iconst 3, 1) := by decide +kernel
theorem dX12_shares_110 : decode cX12_shares 110 = .ok (.if_icmp .ge 24, 3) := by decide +kernel
theorem dX12_shares_113 : decode cX12_shares 113 = .ok (.iload 4, 2) := by decide +kernel
theorem dX12_shares_115 : decode cX12_shares 115 = .ok (.iconst 4, 1) := by decide +kernel
theorem dX12_shares_116 : decode cX12_shares 116 = .ok (.iload 5, 2) := by decide +kernel
theorem dX12_shares_118 : decode cX12_shares 118 = .ok (.imul, 1) := by decide +kernel
theorem dX12_shares_119 : decode cX12_shares 119 = .ok (.ishr, 1) := by decide +kernel
theorem dX12_shares_120 : decode cX12_shares 120 = .ok (.bipush 15, 2) := by decide +kernel
theorem dX12_shares_122 : decode cX12_shares 122 = .ok (.iand, 1) := by decide +kernel
theorem dX12_shares_123 : decode cX12_shares 123 = .ok (.iconst 2, 1) := by decide +kernel
theorem dX12_shares_124 : decode cX12_shares 124 = .ok (.if_icmp .le 4, 3) := by decide +kernel
theorem dX12_shares_127 : decode cX12_shares 127 = .ok (.return_, 1) := by decide +kernel
theorem dX12_shares_128 : decode cX12_shares 128 = .ok (.iinc 5 1, 3) := by decide +kernel
theorem dX12_shares_131 : decode cX12_shares 131 = .ok (.goto (-24), 3) := by decide +kernel
theorem dX12_shares_134 : decode cX12_shares 134 = .ok (.aload_n 0, 1) := by decide +kernel
theorem dX12_shares_135 : decode cX12_shares 135 = .ok (.getfield 244, 3) := by decide +kernel
theorem dX12_shares_138 : decode cX12_shares 138 = .ok (.ifCond .lt 27, 3) := by decide +kernel
theorem dX12_shares_141 : decode cX12_shares 141 = .ok (.iload_n 2, 1) := by decide +kernel
theorem dX12_shares_142 : decode cX12_shares 142 = .ok (.aload_n 0, 1) := by decide +kernel
theorem dX12_shares_143 : decode cX12_shares 143 = .ok (.getfield 247, 3) := by decide +kernel
theorem dX12_shares_146 : decode cX12_shares 146 = .ok (.if_icmp .gt 19, 3) := by decide +kernel
theorem dX12_shares_149 : decode cX12_shares 149 = .ok (.iload_n 2, 1) := by decide +kernel
theorem dX12_shares_150 : decode cX12_shares 150 = .ok (.aload_n 0, 1) := by decide +kernel
theorem dX12_shares_151 : decode cX12_shares 151 = .ok (.getfield 247, 3) := by decide +kernel
theorem dX12_shares_154 : decode cX12_shares 154 = .ok (.if_icmp .ne 26, 3) := by decide +kernel
theorem dX12_shares_157 : decode cX12_shares 157 = .ok (.iload_n 3, 1) := by decide +kernel
theorem dX12_shares_158 : decode cX12_shares 158 = .ok (.aload_n 0, 1) := by decide +kernel
theorem dX12_shares_159 : decode cX12_shares 159 = .ok (.getfield 250, 3) := by decide +kernel
theorem dX12_shares_162 : decode cX12_shares 162 = .ok (.if_icmp .ge 18, 3) := by decide +kernel
theorem dX12_shares_165 : decode cX12_shares 165 = .ok (.aload_n 0, 1) := by decide +kernel
theorem dX12_shares_166 : decode cX12_shares 166 = .ok (.iload_n 1, 1) := by decide +kernel
theorem dX12_shares_167 : decode cX12_shares 167 = .ok (.putfield 244, 3) := by decide +kernel
theorem dX12_shares_170 : decode cX12_shares 170 = .ok (.aload_n 0, 1) := by decide +kernel
theorem dX12_shares_171 : decode cX12_shares 171 = .ok (.iload_n 2, 1) := by decide +kernel
theorem dX12_shares_172 : decode cX12_shares 172 = .ok (.putfield 247, 3) := by decide +kernel
theorem dX12_shares_175 : decode cX12_shares 175 = .ok (.aload_n 0, 1) := by decide +kernel
theorem dX12_shares_176 : decode cX12_shares 176 = .ok (.iload_n 3, 1) := by decide +kernel
theorem dX12_shares_177 : decode cX12_shares 177 = .ok (.putfield 250, 3) := by decide +kernel
theorem dX12_shares_180 : decode cX12_shares 180 = .ok (.return_, 1) := by decide +kernel
theorem dX12_share_0 : decode cX12_share 0 = .ok (.iload_n 1, 1) := by decide +kernel
theorem dX12_share_1 : decode cX12_share 1 = .ok (.bipush (-3), 2) := by decide +kernel
theorem dX12_share_3 : decode cX12_share 3 = .ok (.if_icmp .eq 24, 3) := by decide +kernel
theorem dX12_share_6 : decode cX12_share 6 = .ok (.iload_n 1, 1) := by decide +kernel
theorem dX12_share_7 : decode cX12_share 7 = .ok (.bipush (-2), 2) := by decide +kernel
theorem dX12_share_9 : decode cX12_share 9 = .ok (.if_icmp .eq 18, 3) := by decide +kernel
theorem dX12_share_12 : decode cX12_share 12 = .ok (.aload_n 0, 1) := by decide +kernel
theorem dX12_share_13 : decode cX12_share 13 = .ok (.iload_n 1, 1) := by decide +kernel
theorem dX12_share_14 : decode cX12_share 14 = .ok (.invokevirtual 190, 3) := by decide +kernel
theorem dX12_share_17 : decode cX12_share 17 = .ok (.ifCond .ne 10, 3) := by decide +kernel
theorem dX12_share_20 : decode cX12_share 20 = .ok (.aload_n 0, 1) := by decide +kernel
theorem dX12_share_21 : decode cX12_share 21 = .ok (.bipush (-10), 2) := by decide +kernel
theorem dX12_share_23 : decode cX12_share 23 = .ok (.invokevirtual 84, 3) := by decide +kernel
theorem dX12_share_26 : decode cX12_share 26 = .ok (.ireturn, 1) := by decide +kernel
theorem dX12_share_27 : decode cX12_share 27 = .ok (.aload_n 0, 1) := by decide +kernel
theorem dX12_share_28 : decode cX12_share 28 = .ok (.invokevirtual 253, 3) := by decide +kernel
theorem dX12_share_31 : decode cX12_share 31 = .ok (.aload_n 0, 1) := by decide +kernel
theorem dX12_share_32 : decode cX12_share 32 = .ok (.iconst (-1), 1) := by decide +kernel
theorem dX12_share_33 : decode cX12_share 33 = .ok (.putfield 244, 3) := by decide +kernel
theorem dX12_share_36 : decode cX12_share 36 = .ok (.iconst 0, 1) := by decide +kernel
theorem dX12_share_37 : decode cX12_share 37 = .ok (.istore_n 2, 1) := by decide +kernel
theorem dX12_share_38 : decode cX12_share 38 = .ok (.iload_n 2, 1) := by decide +kernel
theorem dX12_share_39 : decode cX12_share 39 = .ok (.iconst 1, 1) := by decide +kernel
theorem dX12_share_40 : decode cX12_share 40 = .ok (.iconst 2, 1) := by decide +kernel
theorem dX12_share_41 : decode cX12_share 41 = .ok (.aload_n 0, 1) := by decide +kernel
theorem dX12_share_42 : decode cX12_share 42 = .ok (.getfield 7, 3) := by decide +kernel
theorem dX12_share_45 : decode cX12_share 45 = .ok (.bipush 37, 2) := by decide +kernel
theorem dX12_share_47 : decode cX12_share 47 = .ok (.iaload, 1) := by decide +kernel
theorem dX12_share_48 : decode cX12_share 48 = .ok (.imul, 1) := by decide +kernel
theorem dX12_share_49 : decode cX12_share 49 = .ok (.ishl, 1) := by decide +kernel
theorem dX12_share_50 : decode cX12_share 50 = .ok (.if_icmp .ge 14, 3) := by decide +kernel
theorem dX12_share_53 : decode cX12_share 53 = .ok (.aload_n 0, 1) := by decide +kernel
theorem dX12_share_54 : decode cX12_share 54 = .ok (.iload_n 2, 1) := by decide +kernel
theorem dX12_share_55 : decode cX12_share 55 = .ok (.invokevirtual 256, 3) := by decide +kernel
theorem dX12_share_58 : decode cX12_share 58 = .ok (.iinc 2 1, 3) := by decide +kernel
theorem dX12_share_61 : decode cX12_share 61 = .ok (.goto (-23), 3) := by decide +kernel
theorem dX12_share_64 : decode cX12_share 64 = .ok (.aload_n 0, 1) := by decide +kernel
theorem dX12_share_65 : decode cX12_share 65 = .ok (.getfield 244, 3) := by decide +kernel
theorem dX12_share_68 : decode cX12_share 68 = .ok (.ifCond .ge 6, 3) := by decide +kernel
theorem dX12_share_71 : decode cX12_share 71 = .ok (.bipush (-5), 2) := by decide +kernel
theorem dX12_share_73 : decode cX12_share 73 = .ok (.ireturn, 1) := by decide +kernel
theorem dX12_share_74 : decode cX12_share 74 = .ok (.iload_n 1, 1) := by decide +kernel
theorem dX12_share_75 : decode cX12_share 75 = .ok (.ifCond .ge 21, 3) := by decide +kernel
theorem dX12_share_78 : decode cX12_share 78 = .ok (.iload_n 1, 1) := by decide +kernel
theorem dX12_share_79 : decode cX12_share 79 = .ok (.bipush (-3), 2) := by decide +kernel
theorem dX12_share_81 : decode cX12_share 81 = .ok (.if_icmp .ne 10, 3) := by decide +kernel
theorem dX12_share_84 : decode cX12_share 84 = .ok (.aload_n 0, 1) := by decide +kernel
theorem dX12_share_85 : decode cX12_share 85 = .ok (.getfield 247, 3) := by decide +kernel
theorem dX12_share_88 : decode cX12_share 88 = .ok (.goto 7, 3) := by decide +kernel
theorem dX12_share_91 : decode cX12_share 91 = .ok (.aload_n 0, 1) := by decide +kernel
theorem dX12_share_92 : decode cX12_share 92 = .ok (.getfield 250, 3) := by decide +kernel
theorem dX12_share_95 : decode cX12_share 95 = .ok (.ireturn, 1) := by decide +kernel
theorem dX12_share_96 : decode cX12_share 96 = .ok (.aload_n 0, 1) := by decide +kernel
theorem dX12_share_97 : decode cX12_share 97 = .ok (.aload_n 0, 1) := by decide +kernel
theorem dX12_share_98 : decode cX12_share 98 = .ok (.getfield 244, 3) := by decide +kernel
theorem dX12_share_101 : decode cX12_share 101 = .ok (.iload_n 1, 1) := by decide +kernel
theorem dX12_share_102 : decode cX12_share 102 = .ok (.invokevirtual 241, 3) := by decide +kernel
theorem dX12_share_105 : decode cX12_share 105 = .ok (.istore_n 2, 1) := by decide +kernel
theorem dX12_share_106 : decode cX12_share 106 = .ok (.iload_n 2, 1) := by decide +kernel
theorem dX12_share_107 : decode cX12_share 107 = .ok (.iconst 3, 1) := by decide +kernel
theorem dX12_share_108 : decode cX12_share 108 = .ok (.if_icmp .ne 7, 3) := by decide +kernel
theorem dX12_share_111 : decode cX12_share 111 = .ok (.iconst (-1), 1) := by decide +kernel
theorem dX12_share_112 : decode cX12_share 112 = .ok (.goto 4, 3) := by decide +kernel
theorem dX12_share_115 : decode cX12_share 115 = .ok (.iload_n 2, 1) := by decide +kernel
theorem dX12_share_116 : decode cX12_share 116 = .ok (.ireturn, 1) := by decide +kernel
theorem dX12_seen_0 : decode cX12_seen 0 = .ok (.aload_n 0, 1) := by decide +kernel
theorem dX12_seen_1 : decode cX12_seen 1 = .ok (.iload_n 1, 1) := by decide +kernel
theorem dX12_seen_2 : decode cX12_seen 2 = .ok (.invokevirtual 193, 3) := by decide +kernel
theorem dX12_seen_5 : decode cX12_seen 5 = .ok (.ifCond .eq 40, 3) := by decide +kernel
theorem dX12_seen_8 : decode cX12_seen 8 = .ok (.iload_n 2, 1) := by decide +kernel
theorem dX12_seen_9 : decode cX12_seen 9 = .ok (.i2l, 1) := by decide +kernel
theorem dX12_seen_10 : decode cX12_seen 10 = .ok (.lconst 0, 1) := by decide +kernel
theorem dX12_seen_11 : decode cX12_seen 11 = .ok (.ldc2_w 82, 3) := by decide +kernel
theorem dX12_seen_14 : decode cX12_seen 14 = .ok (.invokestatic 69, 3) := by decide +kernel
theorem dX12_seen_17 : decode cX12_seen 17 = .ok (.ifCond .eq 28, 3) := by decide +kernel
theorem dX12_seen_20 : decode cX12_seen 20 = .ok (.iload_n 3, 1) := by decide +kernel
theorem dX12_seen_21 : decode cX12_seen 21 = .ok (.i2l, 1) := by decide +kernel
theorem dX12_seen_22 : decode cX12_seen 22 = .ok (.lconst 0, 1) := by decide +kernel
theorem dX12_seen_23 : decode cX12_seen 23 = .ok (.ldc2_w 259, 3) := by decide +kernel
theorem dX12_seen_26 : decode cX12_seen 26 = .ok (.invokestatic 69, 3) := by decide +kernel
theorem dX12_seen_29 : decode cX12_seen 29 = .ok (.ifCond .eq 16, 3) := by decide +kernel
theorem dX12_seen_32 : decode cX12_seen 32 = .ok (.iload 4, 2) := by decide +kernel
theorem dX12_seen_34 : decode cX12_seen 34 = .ok (.i2l, 1) := by decide +kernel
theorem dX12_seen_35 : decode cX12_seen 35 = .ok (.lconst 0, 1) := by decide +kernel
theorem dX12_seen_36 : decode cX12_seen 36 = .ok (.ldc2_w 259, 3) := by decide +kernel
theorem dX12_seen_39 : decode cX12_seen 39 = .ok (.invokestatic 69, 3) := by decide +kernel
theorem dX12_seen_42 : decode cX12_seen 42 = .ok (.ifCond .ne 10, 3) := by decide +kernel
theorem dX12_seen_45 : decode cX12_seen 45 = .ok (.aload_n 0, 1) := by decide +kernel
theorem dX12_seen_46 : decode cX12_seen 46 = .ok (.bipush (-2), 2) := by decide +kernel
theorem dX12_seen_48 : decode cX12_seen 48 = .ok (.invokevirtual 84, 3) := by decide +kernel
theorem dX12_seen_51 : decode cX12_seen 51 = .ok (.ireturn, 1) := by decide +kernel
theorem dX12_seen_52 : decode cX12_seen 52 = .ok (.aload_n 0, 1) := by decide +kernel
theorem dX12_seen_53 : decode cX12_seen 53 = .ok (.getfield 7, 3) := by decide +kernel
theorem dX12_seen_56 : decode cX12_seen 56 = .ok (.bipush 68, 2) := by decide +kernel
theorem dX12_seen_58 : decode cX12_seen 58 = .ok (.iaload, 1) := by decide +kernel
theorem dX12_seen_59 : decode cX12_seen 59 = .ok (.iconst 5, 1) := by decide +kernel
theorem dX12_seen_60 : decode cX12_seen 60 = .ok (.if_icmp .ne 8, 3) := by decide +kernel
theorem dX12_seen_63 : decode cX12_seen 63 = .ok (.aload_n 0, 1) := by decide +kernel
theorem dX12_seen_64 : decode cX12_seen 64 = .ok (.invokevirtual 101, 3) := by decide +kernel
theorem dX12_seen_67 : decode cX12_seen 67 = .ok (.ireturn, 1) := by decide +kernel
theorem dX12_seen_68 : decode cX12_seen 68 = .ok (.bipush 69, 2) := by decide +kernel
theorem dX12_seen_70 : decode cX12_seen 70 = .ok (.iconst 4, 1) := by decide +kernel
theorem dX12_seen_71 : decode cX12_seen 71 = .ok (.aload_n 0, 1) := by decide +kernel
theorem dX12_seen_72 : decode cX12_seen 72 = .ok (.getfield 7, 3) := by decide +kernel
theorem dX12_seen_75 : decode cX12_seen 75 = .ok (.bipush 68, 2) := by decide +kernel
theorem dX12_seen_77 : decode cX12_seen 77 = .ok (.iaload, 1) := by decide +kernel
theorem dX12_seen_78 : decode cX12_seen 78 = .ok (.imul, 1) := by decide +kernel
theorem dX12_seen_79 : decode cX12_seen 79 = .ok (.iadd, 1) := by decide +kernel
theorem dX12_seen_80 : decode cX12_seen 80 = .ok (.istore 5, 2) := by decide +kernel
theorem dX12_seen_82 : decode cX12_seen 82 = .ok (.aload_n 0, 1) := by decide +kernel
theorem dX12_seen_83 : decode cX12_seen 83 = .ok (.getfield 7, 3) := by decide +kernel
theorem dX12_seen_86 : decode cX12_seen 86 = .ok (.iload 5, 2) := by decide +kernel
theorem dX12_seen_88 : decode cX12_seen 88 = .ok (.iload_n 1, 1) := by decide +kernel
theorem dX12_seen_89 : decode cX12_seen 89 = .ok (.iastore, 1) := by decide +kernel
theorem dX12_seen_90 : decode cX12_seen 90 = .ok (.aload_n 0, 1) := by decide +kernel
theorem dX12_seen_91 : decode cX12_seen 91 = .ok (.getfield 7, 3) := by decide +kernel
theorem dX12_seen_94 : decode cX12_seen 94 = .ok (.iload 5, 2) := by decide +kernel
theorem dX12_seen_96 : decode cX12_seen 96 = .ok (.iconst 1, 1) := by decide +kernel
theorem dX12_seen_97 : decode cX12_seen 97 = .ok (.iadd, 1) := by decide +kernel
theorem dX12_seen_98 : decode cX12_seen 98 = .ok (.iload_n 2, 1) := by decide +kernel
theorem dX12_seen_99 : decode cX12_seen 99 = .ok (.iastore, 1) := by decide +kernel
theorem dX12_seen_100 : decode cX12_seen 100 = .ok (.aload_n 0, 1) := by decide +kernel
theorem dX12_seen_101 : decode cX12_seen 101 = .ok (.getfield 7, 3) := by decide +kernel
theorem dX12_seen_104 : decode cX12_seen 104 = .ok (.iload 5, 2) := by decide +kernel
theorem dX12_seen_106 : decode cX12_seen 106 = .ok (.iconst 2, 1) := by decide +kernel
theorem dX12_seen_107 : decode cX12_seen 107 = .ok (.iadd, 1) := by decide +kernel
theorem dX12_seen_108 : decode cX12_seen 108 = .ok (.iload_n 3, 1) := by decide +kernel
theorem dX12_seen_109 : decode cX12_seen 109 = .ok (.iastore, 1) := by decide +kernel
theorem dX12_seen_110 : decode cX12_seen 110 = .ok (.aload_n 0, 1) := by decide +kernel
theorem dX12_seen_111 : decode cX12_seen 111 = .ok (.getfield 7, 3) := by decide +kernel
theorem dX12_seen_114 : decode cX12_seen 114 = .ok (.iload 5, 2) := by decide +kernel
theorem dX12_seen_116 : decode cX12_seen 116 = .ok (.iconst 3, 1) := by decide +kernel
theorem dX12_seen_117 : decode cX12_seen 117 = .ok (.iadd, 1) := by decide +kernel
theorem dX12_seen_118 : decode cX12_seen 118 = .ok (.iload 4, 2) := by decide +kernel
theorem dX12_seen_120 : decode cX12_seen 120 = .ok (.iastore, 1) := by decide +kernel
theorem dX12_seen_121 : decode cX12_seen 121 = .ok (.aload_n 0, 1) := by decide +kernel
theorem dX12_seen_122 : decode cX12_seen 122 = .ok (.getfield 7, 3) := by decide +kernel
theorem dX12_seen_125 : decode cX12_seen 125 = .ok (.bipush 68, 2) := by decide +kernel
theorem dX12_seen_127 : decode cX12_seen 127 = .ok (.dup2, 1) := by decide +kernel
theorem dX12_seen_128 : decode cX12_seen 128 = .ok (.iaload, 1) := by decide +kernel
theorem dX12_seen_129 : decode cX12_seen 129 = .ok (.iconst 1, 1) := by decide +kernel
theorem dX12_seen_130 : decode cX12_seen 130 = .ok (.iadd, 1) := by decide +kernel
theorem dX12_seen_131 : decode cX12_seen 131 = .ok (.iastore, 1) := by decide +kernel
theorem dX12_seen_132 : decode cX12_seen 132 = .ok (.aload_n 0, 1) := by decide +kernel
theorem dX12_seen_133 : decode cX12_seen 133 = .ok (.getfield 7, 3) := by decide +kernel
theorem dX12_seen_136 : decode cX12_seen 136 = .ok (.bipush 68, 2) := by decide +kernel
theorem dX12_seen_138 : decode cX12_seen 138 = .ok (.iaload, 1) := by decide +kernel
theorem dX12_seen_139 : decode cX12_seen 139 = .ok (.ireturn, 1) := by decide +kernel
theorem dX12_tonguesOf_0 : decode cX12_tonguesOf 0 = .ok (.sipush 1023, 3) := by decide +kernel
theorem dX12_tonguesOf_3 : decode cX12_tonguesOf 3 = .ok (.istore_n 2, 1) := by decide +kernel
theorem dX12_tonguesOf_4 : decode cX12_tonguesOf 4 = .ok (.iconst 0, 1) := by decide +kernel
theorem dX12_tonguesOf_5 : decode cX12_tonguesOf 5 = .ok (.istore_n 3, 1) := by decide +kernel
theorem dX12_tonguesOf_6 : decode cX12_tonguesOf 6 = .ok (.iload_n 3, 1) := by decide +kernel
theorem dX12_tonguesOf_7 : decode cX12_tonguesOf 7 = .ok (.aload_n 0, 1) := by decide +kernel
theorem dX12_tonguesOf_8 : decode cX12_tonguesOf 8 = .ok (.getfield 7, 3) := by decide +kernel
theorem dX12_tonguesOf_11 : decode cX12_tonguesOf 11 = .ok (.bipush 68, 2) := by decide +kernel
theorem dX12_tonguesOf_13 : decode cX12_tonguesOf 13 = .ok (.iaload, 1) := by decide +kernel
theorem dX12_tonguesOf_14 : decode cX12_tonguesOf 14 = .ok (.if_icmp .ge 103, 3) := by decide +kernel
theorem dX12_tonguesOf_17 : decode cX12_tonguesOf 17 = .ok (.bipush 69, 2) := by decide +kernel
theorem dX12_tonguesOf_19 : decode cX12_tonguesOf 19 = .ok (.iconst 4, 1) := by decide +kernel
theorem dX12_tonguesOf_20 : decode cX12_tonguesOf 20 = .ok (.iload_n 3, 1) := by decide +kernel
theorem dX12_tonguesOf_21 : decode cX12_tonguesOf 21 = .ok (.imul, 1) := by decide +kernel
theorem dX12_tonguesOf_22 : decode cX12_tonguesOf 22 = .ok (.iadd, 1) := by decide +kernel
theorem dX12_tonguesOf_23 : decode cX12_tonguesOf 23 = .ok (.istore 4, 2) := by decide +kernel
theorem dX12_tonguesOf_25 : decode cX12_tonguesOf 25 = .ok (.iconst 0, 1) := by decide +kernel
theorem dX12_tonguesOf_26 : decode cX12_tonguesOf 26 = .ok (.istore 5, 2) := by decide +kernel
theorem dX12_tonguesOf_28 : decode cX12_tonguesOf 28 = .ok (.iload 5, 2) := by decide +kernel
theorem dX12_tonguesOf_30 : decode cX12_tonguesOf 30 = .ok (.bipush 10, 2) := by decide +kernel
theorem dX12_tonguesOf_32 : decode cX12_tonguesOf 32 = .ok (.if_icmp .ge 79, 3) := by decide +kernel
theorem dX12_tonguesOf_35 : decode cX12_tonguesOf 35 = .ok (.aload_n 0, 1) := by decide +kernel
theorem dX12_tonguesOf_36 : decode cX12_tonguesOf 36 = .ok (.getfield 7, 3) := by decide +kernel
theorem dX12_tonguesOf_39 : decode cX12_tonguesOf 39 = .ok (.iload 4, 2) := by decide +kernel
theorem dX12_tonguesOf_41 : decode cX12_tonguesOf 41 = .ok (.iaload, 1) := by decide +kernel
theorem dX12_tonguesOf_42 : decode cX12_tonguesOf 42 = .ok (.iload_n 1, 1) := by decide +kernel
theorem dX12_tonguesOf_43 : decode cX12_tonguesOf 43 = .ok (.if_icmp .ne 68, 3) := by decide +kernel
theorem dX12_tonguesOf_46 : decode cX12_tonguesOf 46 = .ok (.iload_n 2, 1) := by decide +kernel
theorem dX12_tonguesOf_47 : decode cX12_tonguesOf 47 = .ok (.aload_n 0, 1) := by decide +kernel
theorem dX12_tonguesOf_48 : decode cX12_tonguesOf 48 = .ok (.getfield 7, 3) := by decide +kernel
theorem dX12_tonguesOf_51 : decode cX12_tonguesOf 51 = .ok (.bipush 38, 2) := by decide +kernel
theorem dX12_tonguesOf_53 : decode cX12_tonguesOf 53 = .ok (.iload_n 1, 1) := by decide +kernel
theorem dX12_tonguesOf_54 : decode cX12_tonguesOf 54 = .ok (.iadd, 1) := by decide +kernel
theorem dX12_tonguesOf_55 : decode cX12_tonguesOf 55 = .ok (.iaload, 1) := by decide +kernel
theorem dX12_tonguesOf_56 : decode cX12_tonguesOf 56 = .ok (.iload 5, 2) := by decide +kernel
theorem dX12_tonguesOf_58 : decode cX12_tonguesOf 58 = .ok (.aload_n 0, 1) := by decide +kernel
theorem dX12_tonguesOf_59 : decode cX12_tonguesOf 59 = .ok (.getfield 7, 3) := by decide +kernel
theorem dX12_tonguesOf_62 : decode cX12_tonguesOf 62 = .ok (.iload 4, 2) := by decide +kernel
theorem dX12_tonguesOf_64 : decode cX12_tonguesOf 64 = .ok (.iconst 1, 1) := by decide +kernel
theorem dX12_tonguesOf_65 : decode cX12_tonguesOf 65 = .ok (.iadd, 1) := by decide +kernel
theorem dX12_tonguesOf_66 : decode cX12_tonguesOf 66 = .ok (.iaload, 1) := by decide +kernel
theorem dX12_tonguesOf_67 : decode cX12_tonguesOf 67 = .ok (.aload_n 0, 1) := by decide +kernel
theorem dX12_tonguesOf_68 : decode cX12_tonguesOf 68 = .ok (.getfield 7, 3) := by decide +kernel
theorem dX12_tonguesOf_71 : decode cX12_tonguesOf 71 = .ok (.iload 4, 2) := by decide +kernel
theorem dX12_tonguesOf_73 : decode cX12_tonguesOf 73 = .ok (.iconst 2, 1) := by decide +kernel
theorem dX12_tonguesOf_74 : decode cX12_tonguesOf 74 = .ok (.iadd, 1) := by decide +kernel
theorem dX12_tonguesOf_75 : decode cX12_tonguesOf 75 = .ok (.iaload, 1) := by decide +kernel
theorem dX12_tonguesOf_76 : decode cX12_tonguesOf 76 = .ok (.invokestatic 182, 3) := by decide +kernel
theorem dX12_tonguesOf_79 : decode cX12_tonguesOf 79 = .ok (.aload_n 0, 1) := by decide +kernel
theorem dX12_tonguesOf_80 : decode cX12_tonguesOf 80 = .ok (.getfield 7, 3) := by decide +kernel
theorem dX12_tonguesOf_83 : decode cX12_tonguesOf 83 = .ok (.iload 4, 2) := by decide +kernel
theorem dX12_tonguesOf_85 : decode cX12_tonguesOf 85 = .ok (.iconst 3, 1) := by decide +kernel
theorem dX12_tonguesOf_86 : decode cX12_tonguesOf 86 = .ok (.iadd, 1) := by decide +kernel
theorem dX12_tonguesOf_87 : decode cX12_tonguesOf 87 = .ok (.iaload, 1) := by decide +kernel
theorem dX12_tonguesOf_88 : decode cX12_tonguesOf 88 = .ok (.if_icmp .ne 9, 3) := by decide +kernel
theorem dX12_tonguesOf_91 : decode cX12_tonguesOf 91 = .ok (.sipush 1023, 3) := by decide +kernel
theorem dX12_tonguesOf_94 : decode cX12_tonguesOf 94 = .ok (.goto 9, 3) := by decide +kernel
theorem dX12_tonguesOf_97 : decode cX12_tonguesOf 97 = .ok (.iconst 1, 1) := by decide +kernel
theorem dX12_tonguesOf_98 : decode cX12_tonguesOf 98 = .ok (.iload 5, 2) := by decide +kernel
theorem dX12_tonguesOf_100 : decode cX12_tonguesOf 100 = .ok (.ishl, 1) := by decide +kernel
theorem dX12_tonguesOf_101 : decode cX12_tonguesOf 101 = .ok (.iconst (-1), 1) := by decide +kernel
theorem dX12_tonguesOf_102 : decode cX12_tonguesOf 102 = .ok (.ixor, 1) := by decide +kernel
theorem dX12_tonguesOf_103 : decode cX12_tonguesOf 103 = .ok (.iand, 1) := by decide +kernel
theorem dX12_tonguesOf_104 : decode cX12_tonguesOf 104 = .ok (.istore_n 2, 1) := by decide +kernel
theorem dX12_tonguesOf_105 : decode cX12_tonguesOf 105 = .ok (.iinc 5 1, 3) := by decide +kernel
theorem dX12_tonguesOf_108 : decode cX12_tonguesOf 108 = .ok (.goto (-80), 3) := by decide +kernel
theorem dX12_tonguesOf_111 : decode cX12_tonguesOf 111 = .ok (.iinc 3 1, 3) := by decide +kernel
theorem dX12_tonguesOf_114 : decode cX12_tonguesOf 114 = .ok (.goto (-108), 3) := by decide +kernel
theorem dX12_tonguesOf_117 : decode cX12_tonguesOf 117 = .ok (.iload_n 2, 1) := by decide +kernel
theorem dX12_tonguesOf_118 : decode cX12_tonguesOf 118 = .ok (.ireturn, 1) := by decide +kernel
theorem dX12_tongues_0 : decode cX12_tongues 0 = .ok (.aload_n 0, 1) := by decide +kernel
theorem dX12_tongues_1 : decode cX12_tongues 1 = .ok (.iload_n 1, 1) := by decide +kernel
theorem dX12_tongues_2 : decode cX12_tongues 2 = .ok (.invokevirtual 193, 3) := by decide +kernel
theorem dX12_tongues_5 : decode cX12_tongues 5 = .ok (.ifCond .eq 11, 3) := by decide +kernel
theorem dX12_tongues_8 : decode cX12_tongues 8 = .ok (.aload_n 0, 1) := by decide +kernel
theorem dX12_tongues_9 : decode cX12_tongues 9 = .ok (.iload_n 1, 1) := by decide +kernel
theorem dX12_tongues_10 : decode cX12_tongues 10 = .ok (.invokevirtual 261, 3) := by decide +kernel
theorem dX12_tongues_13 : decode cX12_tongues 13 = .ok (.goto 9, 3) := by decide +kernel
theorem dX12_tongues_16 : decode cX12_tongues 16 = .ok (.aload_n 0, 1) := by decide +kernel
theorem dX12_tongues_17 : decode cX12_tongues 17 = .ok (.bipush (-2), 2) := by decide +kernel
theorem dX12_tongues_19 : decode cX12_tongues 19 = .ok (.invokevirtual 84, 3) := by decide +kernel
theorem dX12_tongues_22 : decode cX12_tongues 22 = .ok (.ireturn, 1) := by decide +kernel
theorem dX12_mostAlike_0 : decode cX12_mostAlike 0 = .ok (.iconst 0, 1) := by decide +kernel
theorem dX12_mostAlike_1 : decode cX12_mostAlike 1 = .ok (.istore_n 3, 1) := by decide +kernel
theorem dX12_mostAlike_2 : decode cX12_mostAlike 2 = .ok (.iconst 0, 1) := by decide +kernel
theorem dX12_mostAlike_3 : decode cX12_mostAlike 3 = .ok (.istore 4, 2) := by decide +kernel
theorem dX12_mostAlike_5 : decode cX12_mostAlike 5 = .ok (.iload 4, 2) := by decide +kernel
theorem dX12_mostAlike_7 : decode cX12_mostAlike 7 = .ok (.iload_n 2, 1) := by decide +kernel
theorem dX12_mostAlike_8 : decode cX12_mostAlike 8 = .ok (.if_icmp .ge 82, 3) := by decide +kernel
theorem dX12_mostAlike_11 : decode cX12_mostAlike 11 = .ok (.iconst 0, 1) := by decide +kernel
theorem dX12_mostAlike_12 : decode cX12_mostAlike 12 = .ok (.istore 5, 2) := by decide +kernel
theorem dX12_mostAlike_14 : decode cX12_mostAlike 14 = .ok (.iconst 0, 1) := by decide +kernel
theorem dX12_mostAlike_15 : decode cX12_mostAlike 15 = .ok (.istore 6, 2) := by decide +kernel
theorem dX12_mostAlike_17 : decode cX12_mostAlike 17 = .ok (.iload 6, 2) := by decide +kernel
theorem dX12_mostAlike_19 : decode cX12_mostAlike 19 = .ok (.iload_n 2, 1) := by decide +kernel
theorem dX12_mostAlike_20 : decode cX12_mostAlike 20 = .ok (.if_icmp .ge 51, 3) := by decide +kernel
theorem dX12_mostAlike_23 : decode cX12_mostAlike 23 = .ok (.iload 5, 2) := by decide +kernel
theorem dX12_mostAlike_25 : decode cX12_mostAlike 25 = .ok (.iload_n 1, 1) := by decide +kernel
theorem dX12_mostAlike_26 : decode cX12_mostAlike 26 = .ok (.iload 4, 2) := by decide +kernel
theorem dX12_mostAlike_28 : decode cX12_mostAlike 28 = .ok (.ishr, 1) := by decide +kernel
theorem dX12_mostAlike_29 : decode cX12_mostAlike 29 = .ok (.iload_n 1, 1) := by decide +kernel
theorem dX12_mostAlike_30 : decode cX12_mostAlike 30 = .ok (.iload 6, 2) := by decide +kernel
theorem dX12_mostAlike_32 : decode cX12_mostAlike 32 = .ok (.ishr, 1) := by decide +kernel
theorem dX12_mostAlike_33 : decode cX12_mostAlike 33 = .ok (.iand, 1) := by decide +kernel
theorem dX12_mostAlike_34 : decode cX12_mostAlike 34 = .ok (.iconst 1, 1) := by decide +kernel
theorem dX12_mostAlike_35 : decode cX12_mostAlike 35 = .ok (.iand, 1) := by decide +kernel
theorem dX12_mostAlike_36 : decode cX12_mostAlike 36 = .ok (.iconst 1, 1) := by decide +kernel
theorem dX12_mostAlike_37 : decode cX12_mostAlike 37 = .ok (.if_icmp .ne 24, 3) := by decide +kernel
theorem dX12_mostAlike_40 : decode cX12_mostAlike 40 = .ok (.aload_n 0, 1) := by decide +kernel
theorem dX12_mostAlike_41 : decode cX12_mostAlike 41 = .ok (.getfield 66, 3) := by decide +kernel
theorem dX12_mostAlike_44 : decode cX12_mostAlike 44 = .ok (.iload 4, 2) := by decide +kernel
theorem dX12_mostAlike_46 : decode cX12_mostAlike 46 = .ok (.iaload, 1) := by decide +kernel
theorem dX12_mostAlike_47 : decode cX12_mostAlike 47 = .ok (.aload_n 0, 1) := by decide +kernel
theorem dX12_mostAlike_48 : decode cX12_mostAlike 48 = .ok (.getfield 66, 3) := by decide +kernel
theorem dX12_mostAlike_51 : decode cX12_mostAlike 51 = .ok (.iload 6, 2) := by decide +kernel
theorem dX12_mostAlike_53 : decode cX12_mostAlike 53 = .ok (.iaload, 1) := by decide +kernel
theorem dX12_mostAlike_54 : decode cX12_mostAlike 54 = .ok (.if_icmp .ne 7, 3) := by decide +kernel
theorem dX12_mostAlike_57 : decode cX12_mostAlike 57 = .ok (.iconst 1, 1) := by decide +kernel
theorem dX12_mostAlike_58 : decode cX12_mostAlike 58 = .ok (.goto 4, 3) := by decide +kernel
theorem dX12_mostAlike_61 : decode cX12_mostAlike 61 = .ok (.iconst 0, 1) := by decide +kernel
theorem dX12_mostAlike_62 : decode cX12_mostAlike 62 = .ok (.iadd, 1) := by decide +kernel
theorem dX12_mostAlike_63 : decode cX12_mostAlike 63 = .ok (.istore 5, 2) := by decide +kernel
theorem dX12_mostAlike_65 : decode cX12_mostAlike 65 = .ok (.iinc 6 1, 3) := by decide +kernel
theorem dX12_mostAlike_68 : decode cX12_mostAlike 68 = .ok (.goto (-51), 3) := by decide +kernel
theorem dX12_mostAlike_71 : decode cX12_mostAlike 71 = .ok (.iload 5, 2) := by decide +kernel
theorem dX12_mostAlike_73 : decode cX12_mostAlike 73 = .ok (.iload_n 3, 1) := by decide +kernel
theorem dX12_mostAlike_74 : decode cX12_mostAlike 74 = .ok (.if_icmp .le 8, 3) := by decide +kernel
theorem dX12_mostAlike_77 : decode cX12_mostAlike 77 = .ok (.iload 5, 2) := by decide +kernel
theorem dX12_mostAlike_79 : decode cX12_mostAlike 79 = .ok (.goto 4, 3) := by decide +kernel
theorem dX12_mostAlike_82 : decode cX12_mostAlike 82 = .ok (.iload_n 3, 1) := by decide +kernel
theorem dX12_mostAlike_83 : decode cX12_mostAlike 83 = .ok (.istore_n 3, 1) := by decide +kernel
theorem dX12_mostAlike_84 : decode cX12_mostAlike 84 = .ok (.iinc 4 1, 3) := by decide +kernel
theorem dX12_mostAlike_87 : decode cX12_mostAlike 87 = .ok (.goto (-82), 3) := by decide +kernel
theorem dX12_mostAlike_90 : decode cX12_mostAlike 90 = .ok (.iload_n 3, 1) := by decide +kernel
theorem dX12_mostAlike_91 : decode cX12_mostAlike 91 = .ok (.ireturn, 1) := by decide +kernel
theorem dX12_tell_0 : decode cX12_tell 0 = .ok (.aload_n 0, 1) := by decide +kernel
theorem dX12_tell_1 : decode cX12_tell 1 = .ok (.iload_n 1, 1) := by decide +kernel
theorem dX12_tell_2 : decode cX12_tell 2 = .ok (.invokevirtual 193, 3) := by decide +kernel
theorem dX12_tell_5 : decode cX12_tell 5 = .ok (.ifCond .ne 10, 3) := by decide +kernel
theorem dX12_tell_8 : decode cX12_tell 8 = .ok (.aload_n 0, 1) := by decide +kernel
theorem dX12_tell_9 : decode cX12_tell 9 = .ok (.bipush (-2), 2) := by decide +kernel
theorem dX12_tell_11 : decode cX12_tell 11 = .ok (.invokevirtual 84, 3) := by decide +kernel
theorem dX12_tell_14 : decode cX12_tell 14 = .ok (.ireturn, 1) := by decide +kernel
theorem dX12_tell_15 : decode cX12_tell 15 = .ok (.aload_n 0, 1) := by decide +kernel
theorem dX12_tell_16 : decode cX12_tell 16 = .ok (.iload_n 1, 1) := by decide +kernel
theorem dX12_tell_17 : decode cX12_tell 17 = .ok (.invokevirtual 261, 3) := by decide +kernel
theorem dX12_tell_20 : decode cX12_tell 20 = .ok (.istore_n 2, 1) := by decide +kernel
theorem dX12_tell_21 : decode cX12_tell 21 = .ok (.iconst (-1), 1) := by decide +kernel
theorem dX12_tell_22 : decode cX12_tell 22 = .ok (.istore_n 3, 1) := by decide +kernel
theorem dX12_tell_23 : decode cX12_tell 23 = .ok (.bipush 99, 2) := by decide +kernel
theorem dX12_tell_25 : decode cX12_tell 25 = .ok (.istore 4, 2) := by decide +kernel
theorem dX12_tell_27 : decode cX12_tell 27 = .ok (.iconst 0, 1) := by decide +kernel
theorem dX12_tell_28 : decode cX12_tell 28 = .ok (.istore 5, 2) := by decide +kernel
theorem dX12_tell_30 : decode cX12_tell 30 = .ok (.iload 5, 2) := by decide +kernel
theorem dX12_tell_32 : decode cX12_tell 32 = .ok (.bipush 10, 2) := by decide +kernel
theorem dX12_tell_34 : decode cX12_tell 34 = .ok (.if_icmp .ge 108, 3) := by decide +kernel
theorem dX12_tell_37 : decode cX12_tell 37 = .ok (.iload_n 2, 1) := by decide +kernel
theorem dX12_tell_38 : decode cX12_tell 38 = .ok (.ifCond .eq 104, 3) := by decide +kernel
theorem dX12_tell_41 : decode cX12_tell 41 = .ok (.iconst 0, 1) := by decide +kernel
theorem dX12_tell_42 : decode cX12_tell 42 = .ok (.istore 6, 2) := by decide +kernel
theorem dX12_tell_44 : decode cX12_tell 44 = .ok (.iload 6, 2) := by decide +kernel
theorem dX12_tell_46 : decode cX12_tell 46 = .ok (.bipush 31, 2) := by decide +kernel
theorem dX12_tell_48 : decode cX12_tell 48 = .ok (.if_icmp .ge 88, 3) := by decide +kernel
theorem dX12_tell_51 : decode cX12_tell 51 = .ok (.iconst 0, 1) := by decide +kernel
theorem dX12_tell_52 : decode cX12_tell 52 = .ok (.istore 7, 2) := by decide +kernel
theorem dX12_tell_54 : decode cX12_tell 54 = .ok (.iload 7, 2) := by decide +kernel
theorem dX12_tell_56 : decode cX12_tell 56 = .ok (.bipush 10, 2) := by decide +kernel
theorem dX12_tell_58 : decode cX12_tell 58 = .ok (.if_icmp .ge 34, 3) := by decide +kernel
theorem dX12_tell_61 : decode cX12_tell 61 = .ok (.aload_n 0, 1) := by decide +kernel
theorem dX12_tell_62 : decode cX12_tell 62 = .ok (.getfield 66, 3) := by decide +kernel
theorem dX12_tell_65 : decode cX12_tell 65 = .ok (.iload 7, 2) := by decide +kernel
theorem dX12_tell_67 : decode cX12_tell 67 = .ok (.aload_n 0, 1) := by decide +kernel
theorem dX12_tell_68 : decode cX12_tell 68 = .ok (.getfield 7, 3) := by decide +kernel
theorem dX12_tell_71 : decode cX12_tell 71 = .ok (.bipush 38, 2) := by decide +kernel
theorem dX12_tell_73 : decode cX12_tell 73 = .ok (.iload_n 1, 1) := by decide +kernel
theorem dX12_tell_74 : decode cX12_tell 74 = .ok (.iadd, 1) := by decide +kernel
theorem dX12_tell_75 : decode cX12_tell 75 = .ok (.iaload, 1) := by decide +kernel
theorem dX12_tell_76 : decode cX12_tell 76 = .ok (.iload 7, 2) := by decide +kernel
theorem dX12_tell_78 : decode cX12_tell 78 = .ok (.iload 5, 2) := by decide +kernel
theorem dX12_tell_80 : decode cX12_tell 80 = .ok (.iload 6, 2) := by decide +kernel
theorem dX12_tell_82 : decode cX12_tell 82 = .ok (.invokestatic 182, 3) := by decide +kernel
theorem dX12_tell_85 : decode cX12_tell 85 = .ok (.iastore, 1) := by decide +kernel
theorem dX12_tell_86 : decode cX12_tell 86 = .ok (.iinc 7 1, 3) := by decide +kernel
theorem dX12_tell_89 : decode cX12_tell 89 = .ok (.goto (-35), 3) := by decide +kernel
theorem dX12_tell_92 : decode cX12_tell 92 = .ok (.aload_n 0, 1) := by decide +kernel
theorem dX12_tell_93 : decode cX12_tell 93 = .ok (.iload_n 2, 1) := by decide +kernel
theorem dX12_tell_94 : decode cX12_tell 94 = .ok (.bipush 10, 2) := by decide +kernel
theorem dX12_tell_96 : decode cX12_tell 96 = .ok (.invokevirtual 264, 3) := by decide +kernel
theorem dX12_tell_99 : decode cX12_tell 99 = .ok (.istore 7, 2) := by decide +kernel
theorem dX12_tell_101 : decode cX12_tell 101 = .ok (.iload 7, 2) := by decide +kernel
theorem dX12_tell_103 : decode cX12_tell 103 = .ok (.iload 4, 2) := by decide +kernel
theorem dX12_tell_105 : decode cX12_tell 105 = .ok (.if_icmp .ge 14, 3) := by decide +kernel
theorem dX12_tell_108 : decode cX12_tell 108 = .ok (.bipush 100, 2) := by decide +kernel
theorem dX12_tell_110 : decode cX12_tell 110 = .ok (.iload 5, 2) := by decide +kernel
theorem dX12_tell_112 : decode cX12_tell 112 = .ok (.imul, 1) := by decide +kernel
theorem dX12_tell_113 : decode cX12_tell 113 = .ok (.iload 6, 2) := by decide +kernel
theorem dX12_tell_115 : decode cX12_tell 115 = .ok (.iadd, 1) := by decide +kernel
theorem dX12_tell_116 : decode cX12_tell 116 = .ok (.goto 4, 3) := by decide +kernel
theorem dX12_tell_119 : decode cX12_tell 119 = .ok (.iload_n 3, 1) := by decide +kernel
theorem dX12_tell_120 : decode cX12_tell 120 = .ok (.istore_n 3, 1) := by decide +kernel
theorem dX12_tell_121 : decode cX12_tell 121 = .ok (.iload 4, 2) := by decide +kernel
theorem dX12_tell_123 : decode cX12_tell 123 = .ok (.iload 7, 2) := by decide +kernel
theorem dX12_tell_125 : decode cX12_tell 125 = .ok (.invokestatic 75, 3) := by decide +kernel
theorem dX12_tell_128 : decode cX12_tell 128 = .ok (.istore 4, 2) := by decide +kernel
theorem dX12_tell_130 : decode cX12_tell 130 = .ok (.iinc 6 1, 3) := by decide +kernel
theorem dX12_tell_133 : decode cX12_tell 133 = .ok (.goto (-89), 3) := by decide +kernel
theorem dX12_tell_136 : decode cX12_tell 136 = .ok (.iinc 5 1, 3) := by decide +kernel
theorem dX12_tell_139 : decode cX12_tell 139 = .ok (.goto (-109), 3) := by decide +kernel
theorem dX12_tell_142 : decode cX12_tell 142 = .ok (.iload_n 3, 1) := by decide +kernel
theorem dX12_tell_143 : decode cX12_tell 143 = .ok (.ireturn, 1) := by decide +kernel
theorem dX12_note_0 : decode cX12_note 0 = .ok (.aload_n 0, 1) := by decide +kernel
theorem dX12_note_1 : decode cX12_note 1 = .ok (.iload_n 1, 1) := by decide +kernel
theorem dX12_note_2 : decode cX12_note 2 = .ok (.invokevirtual 190, 3) := by decide +kernel
theorem dX12_note_5 : decode cX12_note 5 = .ok (.ifCond .eq 65, 3) := by decide +kernel
theorem dX12_note_8 : decode cX12_note 8 = .ok (.iload_n 2, 1) := by decide +kernel
theorem dX12_note_9 : decode cX12_note 9 = .ok (.i2l, 1) := by decide +kernel
theorem dX12_note_10 : decode cX12_note 10 = .ok (.lconst 1, 1) := by decide +kernel
theorem dX12_note_11 : decode cX12_note 11 = .ok (.ldc2_w 109, 3) := by decide +kernel
theorem dX12_note_14 : decode cX12_note 14 = .ok (.invokestatic 69, 3) := by decide +kernel
theorem dX12_note_17 : decode cX12_note 17 = .ok (.ifCond .eq 53, 3) := by decide +kernel
theorem dX12_note_20 : decode cX12_note 20 = .ok (.iload_n 3, 1) := by decide +kernel
theorem dX12_note_21 : decode cX12_note 21 = .ok (.i2l, 1) := by decide +kernel
theorem dX12_note_22 : decode cX12_note 22 = .ok (.lconst 0, 1) := by decide +kernel
theorem dX12_note_23 : decode cX12_note 23 = .ok (.iload_n 2, 1) := by decide +kernel
theorem dX12_note_24 : decode cX12_note 24 = .ok (.i2l, 1) := by decide +kernel
theorem dX12_note_25 : decode cX12_note 25 = .ok (.invokestatic 69, 3) := by decide +kernel
theorem dX12_note_28 : decode cX12_note 28 = .ok (.ifCond .eq 42, 3) := by decide +kernel
theorem dX12_note_31 : decode cX12_note 31 = .ok (.iload 4, 2) := by decide +kernel
theorem dX12_note_33 : decode cX12_note 33 = .ok (.i2l, 1) := by decide +kernel
theorem dX12_note_34 : decode cX12_note 34 = .ok (.lconst 0, 1) := by decide +kernel
theorem dX12_note_35 : decode cX12_note 35 = .ok (.ldc2_w 267, 3) := by decide +kernel
theorem dX12_note_38 : decode cX12_note 38 = .ok (.invokestatic 69, 3) := by decide +kernel
theorem dX12_note_41 : decode cX12_note 41 = .ok (.ifCond .eq 29, 3) := by decide +kernel
theorem dX12_note_44 : decode cX12_note 44 = .ok (.iload 5, 2) := by decide +kernel
theorem dX12_note_46 : decode cX12_note 46 = .ok (.i2l, 1) := by decide +kernel
theorem dX12_note_47 : decode cX12_note 47 = .ok (.lconst 0, 1) := by decide +kernel
theorem dX12_note_48 : decode cX12_note 48 = .ok (.ldc2_w 82, 3) := by decide +kernel
theorem dX12_note_51 : decode cX12_note 51 = .ok (.invokestatic 69, 3) := by decide +kernel
theorem dX12_note_54 : decode cX12_note 54 = .ok (.ifCond .eq 16, 3) := by decide +kernel
theorem dX12_note_57 : decode cX12_note 57 = .ok (.iload 6, 2) := by decide +kernel
theorem dX12_note_59 : decode cX12_note 59 = .ok (.i2l, 1) := by decide +kernel
theorem dX12_note_60 : decode cX12_note 60 = .ok (.lconst 0, 1) := by decide +kernel
theorem dX12_note_61 : decode cX12_note 61 = .ok (.ldc2_w 269, 3) := by decide +kernel
theorem dX12_note_64 : decode cX12_note 64 = .ok (.invokestatic 69, 3) := by decide +kernel
theorem dX12_note_67 : decode cX12_note 67 = .ok (.ifCond .ne 10, 3) := by decide +kernel
theorem dX12_note_70 : decode cX12_note 70 = .ok (.aload_n 0, 1) := by decide +kernel
theorem dX12_note_71 : decode cX12_note 71 = .ok (.bipush (-2), 2) := by decide +kernel
theorem dX12_note_73 : decode cX12_note 73 = .ok (.invokevirtual 84, 3) := by decide +kernel
theorem dX12_note_76 : decode cX12_note 76 = .ok (.ireturn, 1) := by decide +kernel
theorem dX12_note_77 : decode cX12_note 77 = .ok (.aload_n 0, 1) := by decide +kernel
theorem dX12_note_78 : decode cX12_note 78 = .ok (.getfield 7, 3) := by decide +kernel
theorem dX12_note_81 : decode cX12_note 81 = .ok (.bipush 89, 2) := by decide +kernel
theorem dX12_note_83 : decode cX12_note 83 = .ok (.iaload, 1) := by decide +kernel
theorem dX12_note_84 : decode cX12_note 84 = .ok (.bipush 6, 2) := by decide +kernel
theorem dX12_note_86 : decode cX12_note 86 = .ok (.if_icmp .ne 8, 3) := by decide +kernel
theorem dX12_note_89 : decode cX12_note 89 = .ok (.aload_n 0, 1) := by decide +kernel
theorem dX12_note_90 : decode cX12_note 90 = .ok (.invokevirtual 101, 3) := by decide +kernel
theorem dX12_note_93 : decode cX12_note 93 = .ok (.ireturn, 1) := by decide +kernel
theorem dX12_note_94 : decode cX12_note 94 = .ok (.bipush 90, 2) := by decide +kernel
theorem dX12_note_96 : decode cX12_note 96 = .ok (.bipush 6, 2) := by decide +kernel
theorem dX12_note_98 : decode cX12_note 98 = .ok (.aload_n 0, 1) := by decide +kernel
theorem dX12_note_99 : decode cX12_note 99 = .ok (.getfield 7, 3) := by decide +kernel
theorem dX12_note_102 : decode cX12_note 102 = .ok (.bipush 89, 2) := by decide +kernel
theorem dX12_note_104 : decode cX12_note 104 = .ok (.iaload, 1) := by decide +kernel
theorem dX12_note_105 : decode cX12_note 105 = .ok (.imul, 1) := by decide +kernel
theorem dX12_note_106 : decode cX12_note 106 = .ok (.iadd, 1) := by decide +kernel
theorem dX12_note_107 : decode cX12_note 107 = .ok (.istore 7, 2) := by decide +kernel
theorem dX12_note_109 : decode cX12_note 109 = .ok (.aload_n 0, 1) := by decide +kernel
theorem dX12_note_110 : decode cX12_note 110 = .ok (.getfield 7, 3) := by decide +kernel
theorem dX12_note_113 : decode cX12_note 113 = .ok (.iload 7, 2) := by decide +kernel
theorem dX12_note_115 : decode cX12_note 115 = .ok (.iload_n 1, 1) := by decide +kernel
theorem dX12_note_116 : decode cX12_note 116 = .ok (.iastore, 1) := by decide +kernel
theorem dX12_note_117 : decode cX12_note 117 = .ok (.aload_n 0, 1) := by decide +kernel
theorem dX12_note_118 : decode cX12_note 118 = .ok (.getfield 7, 3) := by decide +kernel
theorem dX12_note_121 : decode cX12_note 121 = .ok (.iload 7, 2) := by decide +kernel
theorem dX12_note_123 : decode cX12_note 123 = .ok (.iconst 1, 1) := by decide +kernel
theorem dX12_note_124 : decode cX12_note 124 = .ok (.iadd, 1) := by decide +kernel
theorem dX12_note_125 : decode cX12_note 125 = .ok (.iload_n 2, 1) := by decide +kernel
theorem dX12_note_126 : decode cX12_note 126 = .ok (.iastore, 1) := by decide +kernel
theorem dX12_note_127 : decode cX12_note 127 = .ok (.aload_n 0, 1) := by decide +kernel
theorem dX12_note_128 : decode cX12_note 128 = .ok (.getfield 7, 3) := by decide +kernel
theorem dX12_note_131 : decode cX12_note 131 = .ok (.iload 7, 2) := by decide +kernel
theorem dX12_note_133 : decode cX12_note 133 = .ok (.iconst 2, 1) := by decide +kernel
theorem dX12_note_134 : decode cX12_note 134 = .ok (.iadd, 1) := by decide +kernel
theorem dX12_note_135 : decode cX12_note 135 = .ok (.iload_n 3, 1) := by decide +kernel
theorem dX12_note_136 : decode cX12_note 136 = .ok (.iastore, 1) := by decide +kernel
theorem dX12_note_137 : decode cX12_note 137 = .ok (.aload_n 0, 1) := by decide +kernel
theorem dX12_note_138 : decode cX12_note 138 = .ok (.getfield 7, 3) := by decide +kernel
theorem dX12_note_141 : decode cX12_note 141 = .ok (.iload 7, 2) := by decide +kernel
theorem dX12_note_143 : decode cX12_note 143 = .ok (.iconst 3, 1) := by decide +kernel
theorem dX12_note_144 : decode cX12_note 144 = .ok (.iadd, 1) := by decide +kernel
theorem dX12_note_145 : decode cX12_note 145 = .ok (.iload 4, 2) := by decide +kernel
theorem dX12_note_147 : decode cX12_note 147 = .ok (.iastore, 1) := by decide +kernel
theorem dX12_note_148 : decode cX12_note 148 = .ok (.aload_n 0, 1) := by decide +kernel
theorem dX12_note_149 : decode cX12_note 149 = .ok (.getfield 7, 3) := by decide +kernel
theorem dX12_note_152 : decode cX12_note 152 = .ok (.iload 7, 2) := by decide +kernel
theorem dX12_note_154 : decode cX12_note 154 = .ok (.iconst 4, 1) := by decide +kernel
theorem dX12_note_155 : decode cX12_note 155 = .ok (.iadd, 1) := by decide +kernel
theorem dX12_note_156 : decode cX12_note 156 = .ok (.iload 5, 2) := by decide +kernel
theorem dX12_note_158 : decode cX12_note 158 = .ok (.iastore, 1) := by decide +kernel
theorem dX12_note_159 : decode cX12_note 159 = .ok (.aload_n 0, 1) := by decide +kernel
theorem dX12_note_160 : decode cX12_note 160 = .ok (.getfield 7, 3) := by decide +kernel
theorem dX12_note_163 : decode cX12_note 163 = .ok (.iload 7, 2) := by decide +kernel
theorem dX12_note_165 : decode cX12_note 165 = .ok (.iconst 5, 1) := by decide +kernel
theorem dX12_note_166 : decode cX12_note 166 = .ok (.iadd, 1) := by decide +kernel
theorem dX12_note_167 : decode cX12_note 167 = .ok (.iload 6, 2) := by decide +kernel
theorem dX12_note_169 : decode cX12_note 169 = .ok (.iastore, 1) := by decide +kernel
theorem dX12_note_170 : decode cX12_note 170 = .ok (.aload_n 0, 1) := by decide +kernel
theorem dX12_note_171 : decode cX12_note 171 = .ok (.getfield 7, 3) := by decide +kernel
theorem dX12_note_174 : decode cX12_note 174 = .ok (.bipush 89, 2) := by decide +kernel
theorem dX12_note_176 : decode cX12_note 176 = .ok (.dup2, 1) := by decide +kernel
theorem dX12_note_177 : decode cX12_note 177 = .ok (.iaload, 1) := by decide +kernel
theorem dX12_note_178 : decode cX12_note 178 = .ok (.iconst 1, 1) := by decide +kernel
theorem dX12_note_179 : decode cX12_note 179 = .ok (.iadd, 1) := by decide +kernel
theorem dX12_note_180 : decode cX12_note 180 = .ok (.iastore, 1) := by decide +kernel
theorem dX12_note_181 : decode cX12_note 181 = .ok (.aload_n 0, 1) := by decide +kernel
theorem dX12_note_182 : decode cX12_note 182 = .ok (.getfield 7, 3) := by decide +kernel
theorem dX12_note_185 : decode cX12_note 185 = .ok (.bipush 89, 2) := by decide +kernel
theorem dX12_note_187 : decode cX12_note 187 = .ok (.iaload, 1) := by decide +kernel
theorem dX12_note_188 : decode cX12_note 188 = .ok (.ireturn, 1) := by decide +kernel
theorem dX12_mark_0 : decode cX12_mark 0 = .ok (.aload_n 0, 1) := by decide +kernel
theorem dX12_mark_1 : decode cX12_mark 1 = .ok (.iload_n 1, 1) := by decide +kernel
theorem dX12_mark_2 : decode cX12_mark 2 = .ok (.invokevirtual 193, 3) := by decide +kernel
theorem dX12_mark_5 : decode cX12_mark 5 = .ok (.ifCond .eq 53, 3) := by decide +kernel
theorem dX12_mark_8 : decode cX12_mark 8 = .ok (.iload_n 2, 1) := by decide +kernel
theorem dX12_mark_9 : decode cX12_mark 9 = .ok (.i2l, 1) := by decide +kernel
theorem dX12_mark_10 : decode cX12_mark 10 = .ok (.lconst 0, 1) := by decide +kernel
theorem dX12_mark_11 : decode cX12_mark 11 = .ok (.ldc2_w 82, 3) := by decide +kernel
theorem dX12_mark_14 : decode cX12_mark 14 = .ok (.invokestatic 69, 3) := by decide +kernel
theorem dX12_mark_17 : decode cX12_mark 17 = .ok (.ifCond .eq 41, 3) := by decide +kernel
theorem dX12_mark_20 : decode cX12_mark 20 = .ok (.iload_n 3, 1) := by decide +kernel
theorem dX12_mark_21 : decode cX12_mark 21 = .ok (.i2l, 1) := by decide +kernel
theorem dX12_mark_22 : decode cX12_mark 22 = .ok (.lconst 0, 1) := by decide +kernel
theorem dX12_mark_23 : decode cX12_mark 23 = .ok (.ldc2_w 82, 3) := by decide +kernel
theorem dX12_mark_26 : decode cX12_mark 26 = .ok (.invokestatic 69, 3) := by decide +kernel
theorem dX12_mark_29 : decode cX12_mark 29 = .ok (.ifCond .eq 29, 3) := by decide +kernel
theorem dX12_mark_32 : decode cX12_mark 32 = .ok (.iload 4, 2) := by decide +kernel
theorem dX12_mark_34 : decode cX12_mark 34 = .ok (.i2l, 1) := by decide +kernel
theorem dX12_mark_35 : decode cX12_mark 35 = .ok (.lconst 0, 1) := by decide +kernel
theorem dX12_mark_36 : decode cX12_mark 36 = .ok (.ldc2_w 259, 3) := by decide +kernel
theorem dX12_mark_39 : decode cX12_mark 39 = .ok (.invokestatic 69, 3) := by decide +kernel
theorem dX12_mark_42 : decode cX12_mark 42 = .ok (.ifCond .eq 16, 3) := by decide +kernel
theorem dX12_mark_45 : decode cX12_mark 45 = .ok (.iload 5, 2) := by decide +kernel
theorem dX12_mark_47 : decode cX12_mark 47 = .ok (.i2l, 1) := by decide +kernel
theorem dX12_mark_48 : decode cX12_mark 48 = .ok (.lconst 0, 1) := by decide +kernel
theorem dX12_mark_49 : decode cX12_mark 49 = .ok (.ldc2_w 259, 3) := by decide +kernel
theorem dX12_mark_52 : decode cX12_mark 52 = .ok (.invokestatic 69, 3) := by decide +kernel
theorem dX12_mark_55 : decode cX12_mark 55 = .ok (.ifCond .ne 10, 3) := by decide +kernel
theorem dX12_mark_58 : decode cX12_mark 58 = .ok (.aload_n 0, 1) := by decide +kernel
theorem dX12_mark_59 : decode cX12_mark 59 = .ok (.bipush (-2), 2) := by decide +kernel
theorem dX12_mark_61 : decode cX12_mark 61 = .ok (.invokevirtual 84, 3) := by decide +kernel
theorem dX12_mark_64 : decode cX12_mark 64 = .ok (.ireturn, 1) := by decide +kernel
theorem dX12_mark_65 : decode cX12_mark 65 = .ok (.aload_n 0, 1) := by decide +kernel
theorem dX12_mark_66 : decode cX12_mark 66 = .ok (.getfield 7, 3) := by decide +kernel
theorem dX12_mark_69 : decode cX12_mark 69 = .ok (.bipush 126, 2) := by decide +kernel
theorem dX12_mark_71 : decode cX12_mark 71 = .ok (.iaload, 1) := by decide +kernel
theorem dX12_mark_72 : decode cX12_mark 72 = .ok (.bipush 6, 2) := by decide +kernel
theorem dX12_mark_74 : decode cX12_mark 74 = .ok (.if_icmp .ne 8, 3) := by decide +kernel
theorem dX12_mark_77 : decode cX12_mark 77 = .ok (.aload_n 0, 1) := by decide +kernel
theorem dX12_mark_78 : decode cX12_mark 78 = .ok (.invokevirtual 101, 3) := by decide +kernel
theorem dX12_mark_81 : decode cX12_mark 81 = .ok (.ireturn, 1) := by decide +kernel
theorem dX12_mark_82 : decode cX12_mark 82 = .ok (.bipush 127, 2) := by decide +kernel
theorem dX12_mark_84 : decode cX12_mark 84 = .ok (.iconst 5, 1) := by decide +kernel
theorem dX12_mark_85 : decode cX12_mark 85 = .ok (.aload_n 0, 1) := by decide +kernel
theorem dX12_mark_86 : decode cX12_mark 86 = .ok (.getfield 7, 3) := by decide +kernel
theorem dX12_mark_89 : decode cX12_mark 89 = .ok (.bipush 126, 2) := by decide +kernel
theorem dX12_mark_91 : decode cX12_mark 91 = .ok (.iaload, 1) := by decide +kernel
theorem dX12_mark_92 : decode cX12_mark 92 = .ok (.imul, 1) := by decide +kernel
theorem dX12_mark_93 : decode cX12_mark 93 = .ok (.iadd, 1) := by decide +kernel
theorem dX12_mark_94 : decode cX12_mark 94 = .ok (.istore 6, 2) := by decide +kernel
theorem dX12_mark_96 : decode cX12_mark 96 = .ok (.aload_n 0, 1) := by decide +kernel

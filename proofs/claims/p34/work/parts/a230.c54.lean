theorem hd_yX12_whole1_RX12 : yX12_whole1.cls = RX12 ∧ yX12_whole1.cls ≠ "java/lang/invoke/MethodHandle" ∧ yX12_whole1.cls ≠ "java/lang/invoke/VarHandle" ∧ (parseMethodDescriptor yX12_whole1.desc).map (fun d => d.parameters.length) = some 1 := by decide +kernel
theorem hd_yX12_bare_RX12 : yX12_bare.cls = RX12 ∧ yX12_bare.cls ≠ "java/lang/invoke/MethodHandle" ∧ yX12_bare.cls ≠ "java/lang/invoke/VarHandle" ∧ (parseMethodDescriptor yX12_bare.desc).map (fun d => d.parameters.length) = some 2 := by decide +kernel
theorem hd_yX12_common_RX12 : yX12_common.cls = RX12 ∧ yX12_common.cls ≠ "java/lang/invoke/MethodHandle" ∧ yX12_common.cls ≠ "java/lang/invoke/VarHandle" ∧ (parseMethodDescriptor yX12_common.desc).map (fun d => d.parameters.length) = some 3 := by decide +kernel
theorem dX12_keep_0 : decode cX12_keep 0 = .ok (.aload_n 0, 1) := dk_42 (by decide +kernel)
theorem dX12_keep_1 : decode cX12_keep 1 = .ok (.bipush 19, 2) := dk_16 (by decide +kernel)
theorem dX12_keep_3 : decode cX12_keep 3 = .ok (.lconst 1, 1) := dk_10 (by decide +kernel)
theorem dX12_keep_4 : decode cX12_keep 4 = .ok (.invokevirtual 369, 3) := dk_182 (by decide +kernel)
theorem dX12_keep_7 : decode cX12_keep 7 = .ok (.iconst 0, 1) := dk_3 (by decide +kernel)
theorem dX12_keep_8 : decode cX12_keep 8 = .ok (.istore 5, 2) := dk_54 (by decide +kernel)
theorem dX12_keep_10 : decode cX12_keep 10 = .ok (.iload 5, 2) := dk_21 (by decide +kernel)
theorem dX12_keep_12 : decode cX12_keep 12 = .ok (.bipush 9, 2) := dk_16 (by decide +kernel)
theorem dX12_keep_14 : decode cX12_keep 14 = .ok (.if_icmp .ge 145, 3) := dk_162 (by decide +kernel)
theorem dX12_keep_17 : decode cX12_keep 17 = .ok (.aload_n 0, 1) := dk_42 (by decide +kernel)
theorem dX12_keep_18 : decode cX12_keep 18 = .ok (.getfield 170, 3) := dk_180 (by decide +kernel)
theorem dX12_keep_21 : decode cX12_keep 21 = .ok (.iload 5, 2) := dk_21 (by decide +kernel)
theorem dX12_keep_23 : decode cX12_keep 23 = .ok (.iaload, 1) := dk_46 (by decide +kernel)
theorem dX12_keep_24 : decode cX12_keep 24 = .ok (.i2l, 1) := dk_133 (by decide +kernel)
theorem dX12_keep_25 : decode cX12_keep 25 = .ok (.aload_n 0, 1) := dk_42 (by decide +kernel)
theorem dX12_keep_26 : decode cX12_keep 26 = .ok (.getfield 173, 3) := dk_180 (by decide +kernel)
theorem dX12_keep_29 : decode cX12_keep 29 = .ok (.bipush 9, 2) := dk_16 (by decide +kernel)
theorem dX12_keep_31 : decode cX12_keep 31 = .ok (.iload 5, 2) := dk_21 (by decide +kernel)
theorem dX12_keep_33 : decode cX12_keep 33 = .ok (.iadd, 1) := dk_96 (by decide +kernel)
theorem dX12_keep_34 : decode cX12_keep 34 = .ok (.iaload, 1) := dk_46 (by decide +kernel)
theorem dX12_keep_35 : decode cX12_keep 35 = .ok (.i2l, 1) := dk_133 (by decide +kernel)
theorem dX12_keep_36 : decode cX12_keep 36 = .ok (.lmul, 1) := dk_105 (by decide +kernel)
theorem dX12_keep_37 : decode cX12_keep 37 = .ok (.aload_n 0, 1) := dk_42 (by decide +kernel)
theorem dX12_keep_38 : decode cX12_keep 38 = .ok (.getfield 170, 3) := dk_180 (by decide +kernel)
theorem dX12_keep_41 : decode cX12_keep 41 = .ok (.bipush 9, 2) := dk_16 (by decide +kernel)
theorem dX12_keep_43 : decode cX12_keep 43 = .ok (.iload 5, 2) := dk_21 (by decide +kernel)
theorem dX12_keep_45 : decode cX12_keep 45 = .ok (.iadd, 1) := dk_96 (by decide +kernel)
theorem dX12_keep_46 : decode cX12_keep 46 = .ok (.iaload, 1) := dk_46 (by decide +kernel)
theorem dX12_keep_47 : decode cX12_keep 47 = .ok (.i2l, 1) := dk_133 (by decide +kernel)
theorem dX12_keep_48 : decode cX12_keep 48 = .ok (.aload_n 0, 1) := dk_42 (by decide +kernel)
theorem dX12_keep_49 : decode cX12_keep 49 = .ok (.getfield 173, 3) := dk_180 (by decide +kernel)
theorem dX12_keep_52 : decode cX12_keep 52 = .ok (.iload 5, 2) := dk_21 (by decide +kernel)
theorem dX12_keep_54 : decode cX12_keep 54 = .ok (.iaload, 1) := dk_46 (by decide +kernel)
theorem dX12_keep_55 : decode cX12_keep 55 = .ok (.i2l, 1) := dk_133 (by decide +kernel)
theorem dX12_keep_56 : decode cX12_keep 56 = .ok (.lmul, 1) := dk_105 (by decide +kernel)
theorem dX12_keep_57 : decode cX12_keep 57 = .ok (.lsub, 1) := dk_101 (by decide +kernel)
theorem dX12_keep_58 : decode cX12_keep 58 = .ok (.lstore 6, 2) := dk_55 (by decide +kernel)
theorem dX12_keep_60 : decode cX12_keep 60 = .ok (.aload_n 0, 1) := dk_42 (by decide +kernel)
theorem dX12_keep_61 : decode cX12_keep 61 = .ok (.getfield 173, 3) := dk_180 (by decide +kernel)
theorem dX12_keep_64 : decode cX12_keep 64 = .ok (.iload 5, 2) := dk_21 (by decide +kernel)
theorem dX12_keep_66 : decode cX12_keep 66 = .ok (.iaload, 1) := dk_46 (by decide +kernel)
theorem dX12_keep_67 : decode cX12_keep 67 = .ok (.i2l, 1) := dk_133 (by decide +kernel)
theorem dX12_keep_68 : decode cX12_keep 68 = .ok (.aload_n 0, 1) := dk_42 (by decide +kernel)
theorem dX12_keep_69 : decode cX12_keep 69 = .ok (.getfield 173, 3) := dk_180 (by decide +kernel)
theorem dX12_keep_72 : decode cX12_keep 72 = .ok (.bipush 9, 2) := dk_16 (by decide +kernel)
theorem dX12_keep_74 : decode cX12_keep 74 = .ok (.iload 5, 2) := dk_21 (by decide +kernel)
theorem dX12_keep_76 : decode cX12_keep 76 = .ok (.iadd, 1) := dk_96 (by decide +kernel)
theorem dX12_keep_77 : decode cX12_keep 77 = .ok (.iaload, 1) := dk_46 (by decide +kernel)
theorem dX12_keep_78 : decode cX12_keep 78 = .ok (.i2l, 1) := dk_133 (by decide +kernel)
theorem dX12_keep_79 : decode cX12_keep 79 = .ok (.lmul, 1) := dk_105 (by decide +kernel)
theorem dX12_keep_80 : decode cX12_keep 80 = .ok (.lstore 8, 2) := dk_55 (by decide +kernel)
theorem dX12_keep_82 : decode cX12_keep 82 = .ok (.lload 6, 2) := dk_22 (by decide +kernel)
theorem dX12_keep_84 : decode cX12_keep 84 = .ok (.lload 8, 2) := dk_22 (by decide +kernel)
theorem dX12_keep_86 : decode cX12_keep 86 = .ok (.invokestatic 626, 3) := dk_184 (by decide +kernel)
theorem dX12_keep_89 : decode cX12_keep 89 = .ok (.lstore 10, 2) := dk_55 (by decide +kernel)
theorem dX12_keep_91 : decode cX12_keep 91 = .ok (.aload_n 0, 1) := dk_42 (by decide +kernel)
theorem dX12_keep_92 : decode cX12_keep 92 = .ok (.bipush 10, 2) := dk_16 (by decide +kernel)
theorem dX12_keep_94 : decode cX12_keep 94 = .ok (.lload 6, 2) := dk_22 (by decide +kernel)
theorem dX12_keep_96 : decode cX12_keep 96 = .ok (.lload 10, 2) := dk_22 (by decide +kernel)
theorem dX12_keep_98 : decode cX12_keep 98 = .ok (.ldiv, 1) := dk_109 (by decide +kernel)
theorem dX12_keep_99 : decode cX12_keep 99 = .ok (.invokevirtual 369, 3) := dk_182 (by decide +kernel)
theorem dX12_keep_102 : decode cX12_keep 102 = .ok (.aload_n 0, 1) := dk_42 (by decide +kernel)
theorem dX12_keep_103 : decode cX12_keep 103 = .ok (.bipush 11, 2) := dk_16 (by decide +kernel)
theorem dX12_keep_105 : decode cX12_keep 105 = .ok (.lload 8, 2) := dk_22 (by decide +kernel)
theorem dX12_keep_107 : decode cX12_keep 107 = .ok (.lload 10, 2) := dk_22 (by decide +kernel)
theorem dX12_keep_109 : decode cX12_keep 109 = .ok (.ldiv, 1) := dk_109 (by decide +kernel)
theorem dX12_keep_110 : decode cX12_keep 110 = .ok (.invokevirtual 369, 3) := dk_182 (by decide +kernel)
theorem dX12_keep_113 : decode cX12_keep 113 = .ok (.aload_n 0, 1) := dk_42 (by decide +kernel)
theorem dX12_keep_114 : decode cX12_keep 114 = .ok (.bipush 12, 2) := dk_16 (by decide +kernel)
theorem dX12_keep_116 : decode cX12_keep 116 = .ok (.bipush 19, 2) := dk_16 (by decide +kernel)
theorem dX12_keep_118 : decode cX12_keep 118 = .ok (.bipush 11, 2) := dk_16 (by decide +kernel)
theorem dX12_keep_120 : decode cX12_keep 120 = .ok (.invokevirtual 387, 3) := dk_182 (by decide +kernel)
theorem dX12_keep_123 : decode cX12_keep 123 = .ok (.aload_n 0, 1) := dk_42 (by decide +kernel)
theorem dX12_keep_124 : decode cX12_keep 124 = .ok (.bipush 13, 2) := dk_16 (by decide +kernel)
theorem dX12_keep_126 : decode cX12_keep 126 = .ok (.bipush 14, 2) := dk_16 (by decide +kernel)
theorem dX12_keep_128 : decode cX12_keep 128 = .ok (.bipush 11, 2) := dk_16 (by decide +kernel)
theorem dX12_keep_130 : decode cX12_keep 130 = .ok (.bipush 12, 2) := dk_16 (by decide +kernel)
theorem dX12_keep_132 : decode cX12_keep 132 = .ok (.invokevirtual 383, 3) := dk_182 (by decide +kernel)
theorem dX12_keep_135 : decode cX12_keep 135 = .ok (.aload_n 0, 1) := dk_42 (by decide +kernel)
theorem dX12_keep_136 : decode cX12_keep 136 = .ok (.bipush 15, 2) := dk_16 (by decide +kernel)
theorem dX12_keep_138 : decode cX12_keep 138 = .ok (.bipush 19, 2) := dk_16 (by decide +kernel)
theorem dX12_keep_140 : decode cX12_keep 140 = .ok (.bipush 13, 2) := dk_16 (by decide +kernel)
theorem dX12_keep_142 : decode cX12_keep 142 = .ok (.invokevirtual 390, 3) := dk_182 (by decide +kernel)
theorem dX12_keep_145 : decode cX12_keep 145 = .ok (.aload_n 0, 1) := dk_42 (by decide +kernel)
theorem dX12_keep_146 : decode cX12_keep 146 = .ok (.bipush 19, 2) := dk_16 (by decide +kernel)
theorem dX12_keep_148 : decode cX12_keep 148 = .ok (.bipush 15, 2) := dk_16 (by decide +kernel)
theorem dX12_keep_150 : decode cX12_keep 150 = .ok (.invokevirtual 365, 3) := dk_182 (by decide +kernel)
theorem dX12_keep_153 : decode cX12_keep 153 = .ok (.iinc 5 1, 3) := dk_132 (by decide +kernel)
theorem dX12_keep_156 : decode cX12_keep 156 = .ok (.goto (-146), 3) := dk_167 (by decide +kernel)
theorem dX12_keep_159 : decode cX12_keep 159 = .ok (.bipush 9, 2) := dk_16 (by decide +kernel)
theorem dX12_keep_161 : decode cX12_keep 161 = .ok (.iconst 3, 1) := dk_6 (by decide +kernel)
theorem dX12_keep_162 : decode cX12_keep 162 = .ok (.iload_n 1, 1) := dk_27 (by decide +kernel)
theorem dX12_keep_163 : decode cX12_keep 163 = .ok (.imul, 1) := dk_104 (by decide +kernel)
theorem dX12_keep_164 : decode cX12_keep 164 = .ok (.iload_n 2, 1) := dk_28 (by decide +kernel)
theorem dX12_keep_165 : decode cX12_keep 165 = .ok (.iadd, 1) := dk_96 (by decide +kernel)
theorem dX12_keep_166 : decode cX12_keep 166 = .ok (.imul, 1) := dk_104 (by decide +kernel)
theorem dX12_keep_167 : decode cX12_keep 167 = .ok (.istore 5, 2) := dk_54 (by decide +kernel)
theorem dX12_keep_169 : decode cX12_keep 169 = .ok (.aload_n 0, 1) := dk_42 (by decide +kernel)
theorem dX12_keep_170 : decode cX12_keep 170 = .ok (.bipush 16, 2) := dk_16 (by decide +kernel)
theorem dX12_keep_172 : decode cX12_keep 172 = .ok (.lconst 0, 1) := dk_9 (by decide +kernel)
theorem dX12_keep_173 : decode cX12_keep 173 = .ok (.invokevirtual 369, 3) := dk_182 (by decide +kernel)
theorem dX12_keep_176 : decode cX12_keep 176 = .ok (.iconst 0, 1) := dk_3 (by decide +kernel)
theorem dX12_keep_177 : decode cX12_keep 177 = .ok (.istore 6, 2) := dk_54 (by decide +kernel)
theorem dX12_keep_179 : decode cX12_keep 179 = .ok (.iload 6, 2) := dk_21 (by decide +kernel)
theorem dX12_keep_181 : decode cX12_keep 181 = .ok (.bipush 9, 2) := dk_16 (by decide +kernel)
theorem dX12_keep_183 : decode cX12_keep 183 = .ok (.if_icmp .ge 33, 3) := dk_162 (by decide +kernel)
theorem dX12_keep_186 : decode cX12_keep 186 = .ok (.aload_n 0, 1) := dk_42 (by decide +kernel)
theorem dX12_keep_187 : decode cX12_keep 187 = .ok (.iload 6, 2) := dk_21 (by decide +kernel)
theorem dX12_keep_189 : decode cX12_keep 189 = .ok (.invokevirtual 792, 3) := dk_182 (by decide +kernel)
theorem dX12_keep_192 : decode cX12_keep 192 = .ok (.aload_n 0, 1) := dk_42 (by decide +kernel)
theorem dX12_keep_193 : decode cX12_keep 193 = .ok (.bipush 12, 2) := dk_16 (by decide +kernel)
theorem dX12_keep_195 : decode cX12_keep 195 = .ok (.bipush 16, 2) := dk_16 (by decide +kernel)
theorem dX12_keep_197 : decode cX12_keep 197 = .ok (.bipush 17, 2) := dk_16 (by decide +kernel)
theorem dX12_keep_199 : decode cX12_keep 199 = .ok (.invokevirtual 387, 3) := dk_182 (by decide +kernel)
theorem dX12_keep_202 : decode cX12_keep 202 = .ok (.aload_n 0, 1) := dk_42 (by decide +kernel)
theorem dX12_keep_203 : decode cX12_keep 203 = .ok (.bipush 16, 2) := dk_16 (by decide +kernel)
theorem dX12_keep_205 : decode cX12_keep 205 = .ok (.bipush 12, 2) := dk_16 (by decide +kernel)
theorem dX12_keep_207 : decode cX12_keep 207 = .ok (.invokevirtual 365, 3) := dk_182 (by decide +kernel)
theorem dX12_keep_210 : decode cX12_keep 210 = .ok (.iinc 6 1, 3) := dk_132 (by decide +kernel)
theorem dX12_keep_213 : decode cX12_keep 213 = .ok (.goto (-34), 3) := dk_167 (by decide +kernel)
theorem dX12_keep_216 : decode cX12_keep 216 = .ok (.iconst 0, 1) := dk_3 (by decide +kernel)
theorem dX12_keep_217 : decode cX12_keep 217 = .ok (.istore 6, 2) := dk_54 (by decide +kernel)
theorem dX12_keep_219 : decode cX12_keep 219 = .ok (.iload 6, 2) := dk_21 (by decide +kernel)
theorem dX12_keep_221 : decode cX12_keep 221 = .ok (.bipush 9, 2) := dk_16 (by decide +kernel)
theorem dX12_keep_223 : decode cX12_keep 223 = .ok (.if_icmp .ge 122, 3) := dk_162 (by decide +kernel)
theorem dX12_keep_226 : decode cX12_keep 226 = .ok (.aload_n 0, 1) := dk_42 (by decide +kernel)
theorem dX12_keep_227 : decode cX12_keep 227 = .ok (.iload 6, 2) := dk_21 (by decide +kernel)
theorem dX12_keep_229 : decode cX12_keep 229 = .ok (.invokevirtual 792, 3) := dk_182 (by decide +kernel)
theorem dX12_keep_232 : decode cX12_keep 232 = .ok (.aload_n 0, 1) := dk_42 (by decide +kernel)
theorem dX12_keep_233 : decode cX12_keep 233 = .ok (.bipush 16, 2) := dk_16 (by decide +kernel)
theorem dX12_keep_235 : decode cX12_keep 235 = .ok (.invokevirtual 353, 3) := dk_182 (by decide +kernel)
theorem dX12_keep_238 : decode cX12_keep 238 = .ok (.ifCond .le 23, 3) := dk_158 (by decide +kernel)
theorem dX12_keep_241 : decode cX12_keep 241 = .ok (.aload_n 0, 1) := dk_42 (by decide +kernel)
theorem dX12_keep_242 : decode cX12_keep 242 = .ok (.bipush 13, 2) := dk_16 (by decide +kernel)
theorem dX12_keep_244 : decode cX12_keep 244 = .ok (.bipush 14, 2) := dk_16 (by decide +kernel)
theorem dX12_keep_246 : decode cX12_keep 246 = .ok (.bipush 17, 2) := dk_16 (by decide +kernel)
theorem dX12_keep_248 : decode cX12_keep 248 = .ok (.bipush 16, 2) := dk_16 (by decide +kernel)
theorem dX12_keep_250 : decode cX12_keep 250 = .ok (.invokevirtual 383, 3) := dk_182 (by decide +kernel)
theorem dX12_keep_253 : decode cX12_keep 253 = .ok (.aload_n 0, 1) := dk_42 (by decide +kernel)
theorem dX12_keep_254 : decode cX12_keep 254 = .ok (.bipush 17, 2) := dk_16 (by decide +kernel)
theorem dX12_keep_256 : decode cX12_keep 256 = .ok (.bipush 13, 2) := dk_16 (by decide +kernel)
theorem dX12_keep_258 : decode cX12_keep 258 = .ok (.invokevirtual 365, 3) := dk_182 (by decide +kernel)
theorem dX12_keep_261 : decode cX12_keep 261 = .ok (.aload_n 0, 1) := dk_42 (by decide +kernel)
theorem dX12_keep_262 : decode cX12_keep 262 = .ok (.bipush 18, 2) := dk_16 (by decide +kernel)
theorem dX12_keep_264 : decode cX12_keep 264 = .ok (.iload 6, 2) := dk_21 (by decide +kernel)
theorem dX12_keep_266 : decode cX12_keep 266 = .ok (.ifCond .ne 9, 3) := dk_154 (by decide +kernel)
theorem dX12_keep_269 : decode cX12_keep 269 = .ok (.ldc2_w 795, 3) := dk_20 (by decide +kernel)
theorem dX12_keep_272 : decode cX12_keep 272 = .ok (.goto 6, 3) := dk_167 (by decide +kernel)
theorem dX12_keep_275 : decode cX12_keep 275 = .ok (.ldc2_w 797, 3) := dk_20 (by decide +kernel)
theorem dX12_keep_278 : decode cX12_keep 278 = .ok (.invokevirtual 369, 3) := dk_182 (by decide +kernel)
theorem dX12_keep_281 : decode cX12_keep 281 = .ok (.aload_n 0, 1) := dk_42 (by decide +kernel)
theorem dX12_keep_282 : decode cX12_keep 282 = .ok (.bipush 17, 2) := dk_16 (by decide +kernel)
theorem dX12_keep_284 : decode cX12_keep 284 = .ok (.bipush 18, 2) := dk_16 (by decide +kernel)
theorem dX12_keep_286 : decode cX12_keep 286 = .ok (.invokevirtual 357, 3) := dk_182 (by decide +kernel)
theorem dX12_keep_289 : decode cX12_keep 289 = .ok (.ifCond .le 11, 3) := dk_158 (by decide +kernel)
theorem dX12_keep_292 : decode cX12_keep 292 = .ok (.aload_n 0, 1) := dk_42 (by decide +kernel)
theorem dX12_keep_293 : decode cX12_keep 293 = .ok (.bipush 9, 2) := dk_16 (by decide +kernel)
theorem dX12_keep_295 : decode cX12_keep 295 = .ok (.iload 4, 2) := dk_21 (by decide +kernel)
theorem dX12_keep_297 : decode cX12_keep 297 = .ok (.invokevirtual 518, 3) := dk_182 (by decide +kernel)
theorem dX12_keep_300 : decode cX12_keep 300 = .ok (.aload_n 0, 1) := dk_42 (by decide +kernel)
theorem dX12_keep_301 : decode cX12_keep 301 = .ok (.getfield 515, 3) := dk_180 (by decide +kernel)
theorem dX12_keep_304 : decode cX12_keep 304 = .ok (.ifCond .le 4, 3) := dk_158 (by decide +kernel)
theorem dX12_keep_307 : decode cX12_keep 307 = .ok (.return_, 1) := dk_177 (by decide +kernel)
theorem dX12_keep_308 : decode cX12_keep 308 = .ok (.aload_n 0, 1) := dk_42 (by decide +kernel)
theorem dX12_keep_309 : decode cX12_keep 309 = .ok (.bipush 17, 2) := dk_16 (by decide +kernel)
theorem dX12_keep_311 : decode cX12_keep 311 = .ok (.invokevirtual 799, 3) := dk_182 (by decide +kernel)
theorem dX12_keep_314 : decode cX12_keep 314 = .ok (.istore 7, 2) := dk_54 (by decide +kernel)
theorem dX12_keep_316 : decode cX12_keep 316 = .ok (.aload_n 0, 1) := dk_42 (by decide +kernel)
theorem dX12_keep_317 : decode cX12_keep 317 = .ok (.getfield 203, 3) := dk_180 (by decide +kernel)
theorem dX12_keep_320 : decode cX12_keep 320 = .ok (.iload 5, 2) := dk_21 (by decide +kernel)
theorem dX12_keep_322 : decode cX12_keep 322 = .ok (.iload 6, 2) := dk_21 (by decide +kernel)
theorem dX12_keep_324 : decode cX12_keep 324 = .ok (.iadd, 1) := dk_96 (by decide +kernel)
theorem dX12_keep_325 : decode cX12_keep 325 = .ok (.iload 6, 2) := dk_21 (by decide +kernel)
theorem dX12_keep_327 : decode cX12_keep 327 = .ok (.ifCond .ne 9, 3) := dk_154 (by decide +kernel)
theorem dX12_keep_330 : decode cX12_keep 330 = .ok (.iload 7, 2) := dk_21 (by decide +kernel)
theorem dX12_keep_332 : decode cX12_keep 332 = .ok (.ineg, 1) := dk_116 (by decide +kernel)
theorem dX12_keep_333 : decode cX12_keep 333 = .ok (.goto 5, 3) := dk_167 (by decide +kernel)
theorem dX12_keep_336 : decode cX12_keep 336 = .ok (.iload 7, 2) := dk_21 (by decide +kernel)
theorem dX12_keep_338 : decode cX12_keep 338 = .ok (.iastore, 1) := dk_79 (by decide +kernel)
theorem dX12_keep_339 : decode cX12_keep 339 = .ok (.iinc 6 1, 3) := dk_132 (by decide +kernel)
theorem dX12_keep_342 : decode cX12_keep 342 = .ok (.goto (-123), 3) := dk_167 (by decide +kernel)
theorem dX12_keep_345 : decode cX12_keep 345 = .ok (.aload_n 0, 1) := dk_42 (by decide +kernel)
theorem dX12_keep_346 : decode cX12_keep 346 = .ok (.getfield 206, 3) := dk_180 (by decide +kernel)
theorem dX12_keep_349 : decode cX12_keep 349 = .ok (.iconst 3, 1) := dk_6 (by decide +kernel)
theorem dX12_keep_350 : decode cX12_keep 350 = .ok (.iload_n 1, 1) := dk_27 (by decide +kernel)
theorem dX12_keep_351 : decode cX12_keep 351 = .ok (.imul, 1) := dk_104 (by decide +kernel)
theorem dX12_keep_352 : decode cX12_keep 352 = .ok (.iload_n 2, 1) := dk_28 (by decide +kernel)
theorem dX12_keep_353 : decode cX12_keep 353 = .ok (.iadd, 1) := dk_96 (by decide +kernel)
theorem dX12_keep_354 : decode cX12_keep 354 = .ok (.iload_n 3, 1) := dk_29 (by decide +kernel)
theorem dX12_keep_355 : decode cX12_keep 355 = .ok (.iastore, 1) := dk_79 (by decide +kernel)
theorem dX12_keep_356 : decode cX12_keep 356 = .ok (.return_, 1) := dk_177 (by decide +kernel)
def wsRX12_keep : List Cond := .code yX12_keep cX12_keep 12 none :: ([.fieldLink RX12 206 "OptimaWorksModel" "waySign" "[I", .constantLong RX12 797 99, .constantLong RX12 795 99999, .fieldLink RX12 515 "OptimaWorksModel" "stop" "I", .fieldLink RX12 203 "OptimaWorksModel" "wayNumber" "[I", .fieldLink RX12 170 "OptimaWorksModel" "top" "[I", .fieldLink RX12 173 "OptimaWorksModel" "under" "[I"] ++ wsX120 ++ (wsV RX12 369 RX12 yX12_put wsRX12_put) ++ (wsV RX12 792 RX12 yX12_whole1 wsRX12_whole1) ++ (wsV RX12 353 RX12 yX12_sign wsRX12_sign) ++ (wsV RX12 383 RX12 yX12_divide wsRX12_divide) ++ (wsV RX12 365 RX12 yX12_copy wsRX12_copy) ++ (wsV RX12 357 RX12 yX12_bare wsRX12_bare) ++ (wsV RX12 799 RX12 yX12_small wsRX12_small) ++ (wsV RX12 518 RX12 yX12_faultAt wsRX12_faultAt) ++ (wsV RX12 387 RX12 yX12_common wsRX12_common) ++ (va_wsS RX12 626 yX12_common1 wsRX12_common1) ++ (wsV RX12 390 RX12 yX12_times wsRX12_times))
theorem iwsRX12_keep_in12 : ∀ w ∈ wsX120, w ∈ wsRX12_keep := fun _ h => List.mem_cons_of_mem _ (List.mem_append_left _ (List.mem_append_left _ (List.mem_append_left _ (List.mem_append_left _ (List.mem_append_left _ (List.mem_append_left _ (List.mem_append_left _ (List.mem_append_left _ (List.mem_append_left _ (List.mem_append_left _ (List.mem_append_left _ (List.mem_append_right _ h))))))))))))
theorem gwsRX12_keep_0 : GoodIn wsRX12_keep (wsV RX12 369 RX12 yX12_put wsRX12_put) := goodIn_sub (fun _ h => List.mem_cons_of_mem _ (List.mem_append_left _ (List.mem_append_left _ (List.mem_append_left _ (List.mem_append_left _ (List.mem_append_left _ (List.mem_append_left _ (List.mem_append_left _ (List.mem_append_left _ (List.mem_append_left _ (List.mem_append_left _ (List.mem_append_right _ h)))))))))))) (gdV (by decide +kernel) gdwsRX12_put)
theorem gwsRX12_keep_1 : GoodIn wsRX12_keep (wsV RX12 792 RX12 yX12_whole1 wsRX12_whole1) := goodIn_sub (fun _ h => List.mem_cons_of_mem _ (List.mem_append_left _ (List.mem_append_left _ (List.mem_append_left _ (List.mem_append_left _ (List.mem_append_left _ (List.mem_append_left _ (List.mem_append_left _ (List.mem_append_left _ (List.mem_append_left _ (List.mem_append_right _ h))))))))))) (gdV (by decide +kernel) gdwsRX12_whole1)
theorem gwsRX12_keep_2 : GoodIn wsRX12_keep (wsV RX12 353 RX12 yX12_sign wsRX12_sign) := goodIn_sub (fun _ h => List.mem_cons_of_mem _ (List.mem_append_left _ (List.mem_append_left _ (List.mem_append_left _ (List.mem_append_left _ (List.mem_append_left _ (List.mem_append_left _ (List.mem_append_left _ (List.mem_append_left _ (List.mem_append_right _ h)))))))))) (gdV (by decide +kernel) gdwsRX12_sign)
theorem gwsRX12_keep_3 : GoodIn wsRX12_keep (wsV RX12 383 RX12 yX12_divide wsRX12_divide) := goodIn_sub (fun _ h => List.mem_cons_of_mem _ (List.mem_append_left _ (List.mem_append_left _ (List.mem_append_left _ (List.mem_append_left _ (List.mem_append_left _ (List.mem_append_left _ (List.mem_append_left _ (List.mem_append_right _ h))))))))) (gdV (by decide +kernel) gdwsRX12_divide)
theorem gwsRX12_keep_4 : GoodIn wsRX12_keep (wsV RX12 365 RX12 yX12_copy wsRX12_copy) := goodIn_sub (fun _ h => List.mem_cons_of_mem _ (List.mem_append_left _ (List.mem_append_left _ (List.mem_append_left _ (List.mem_append_left _ (List.mem_append_left _ (List.mem_append_left _ (List.mem_append_right _ h)))))))) (gdV (by decide +kernel) gdwsRX12_copy)
theorem gwsRX12_keep_5 : GoodIn wsRX12_keep (wsV RX12 357 RX12 yX12_bare wsRX12_bare) := goodIn_sub (fun _ h => List.mem_cons_of_mem _ (List.mem_append_left _ (List.mem_append_left _ (List.mem_append_left _ (List.mem_append_left _ (List.mem_append_left _ (List.mem_append_right _ h))))))) (gdV (by decide +kernel) gdwsRX12_bare)
theorem gwsRX12_keep_6 : GoodIn wsRX12_keep (wsV RX12 799 RX12 yX12_small wsRX12_small) := goodIn_sub (fun _ h => List.mem_cons_of_mem _ (List.mem_append_left _ (List.mem_append_left _ (List.mem_append_left _ (List.mem_append_left _ (List.mem_append_right _ h)))))) (gdV (by decide +kernel) gdwsRX12_small)
theorem gwsRX12_keep_7 : GoodIn wsRX12_keep (wsV RX12 518 RX12 yX12_faultAt wsRX12_faultAt) := goodIn_sub (fun _ h => List.mem_cons_of_mem _ (List.mem_append_left _ (List.mem_append_left _ (List.mem_append_left _ (List.mem_append_right _ h))))) (gdV (by decide +kernel) gdwsRX12_faultAt)
theorem gwsRX12_keep_8 : GoodIn wsRX12_keep (wsV RX12 387 RX12 yX12_common wsRX12_common) := goodIn_sub (fun _ h => List.mem_cons_of_mem _ (List.mem_append_left _ (List.mem_append_left _ (List.mem_append_right _ h)))) (gdV (by decide +kernel) gdwsRX12_common)
theorem gwsRX12_keep_9 : GoodIn wsRX12_keep (va_wsS RX12 626 yX12_common1 wsRX12_common1) := goodIn_sub (fun _ h => List.mem_cons_of_mem _ (List.mem_append_left _ (List.mem_append_right _ h))) (gdS (by decide +kernel) gdwsRX12_common1)
theorem gwsRX12_keep_10 : GoodIn wsRX12_keep (wsV RX12 390 RX12 yX12_times wsRX12_times) := goodIn_sub (fun _ h => List.mem_cons_of_mem _ (List.mem_append_right _ h)) (gdV (by decide +kernel) gdwsRX12_times)
theorem gdwsRX12_keep : wsRX12_keep.all goodWord = true := gdC rfl (gdA (gdA (gdA (gdA (gdA (gdA (gdA (gdA (gdA (gdA (gdA (gdA (by decide +kernel : ([.fieldLink RX12 206 "OptimaWorksModel" "waySign" "[I", .constantLong RX12 797 99, .constantLong RX12 795 99999, .fieldLink RX12 515 "OptimaWorksModel" "stop" "I", .fieldLink RX12 203 "OptimaWorksModel" "wayNumber" "[I", .fieldLink RX12 170 "OptimaWorksModel" "top" "[I", .fieldLink RX12 173 "OptimaWorksModel" "under" "[I"] : List Cond).all goodWord = true) gdwsX120) (gdV (by decide +kernel) gdwsRX12_put)) (gdV (by decide +kernel) gdwsRX12_whole1)) (gdV (by decide +kernel) gdwsRX12_sign)) (gdV (by decide +kernel) gdwsRX12_divide)) (gdV (by decide +kernel) gdwsRX12_copy)) (gdV (by decide +kernel) gdwsRX12_bare)) (gdV (by decide +kernel) gdwsRX12_small)) (gdV (by decide +kernel) gdwsRX12_faultAt)) (gdV (by decide +kernel) gdwsRX12_common)) (gdS (by decide +kernel) gdwsRX12_common1)) (gdV (by decide +kernel) gdwsRX12_times))
set_option maxHeartbeats 4000000 in
set_option maxRecDepth 100000 in
/-- keep(r, w, sign, p) -/
theorem r_X12_keep (l : Launch) (dC : Nat → ClassId) (dI : Nat → Nat → Nat) (a : Nat → Nat) (k : Nat → ClassId) (h0 : Nat) (vi : Nat → Int32) (vj : Nat → Int64) (vF : Nat → Nat → Int32) (vG : Nat → Nat → Int64) (rN : Nat) (wN : Nat) (sI : Int32) (pI : Int32) (mg : Nat → Int) (hBg : Bg (vF 0) mg) (hrN : rN < 12) (hwN : wN < 3) (hR0 : RowU (vF 49) (vF 50) 0) (hR1 : RowU (vF 49) (vF 50) 1) (hWn : WnO (vF 60)) (hst0 : 0 ≤ (vi 21).toInt) (sz : Nat) : Met l yX12_keep wsRX12_keep ({ frames := 3, cells := 0, slots := 0, locals := 89 }) (va_Pc [.ref h0, .int (nI rN), .int (nI wN), .int sI, .int pI] (fun U => U.heap.size = sz ∧ va_P (dC, dI) vwCl (WR a k h0 vi vj vF vG) U.heap ∧ va_K (dC, dI) vwCl (tX12 k) U ∧ va_D (fun _ => True) (WR a k h0 vi vj vF vG))) (va_Qv (fun (u : (Nat → Int32) × (Nat → Int32) × (Nat → Int32) × (Nat → Int64) × (Nat → Int32) × (Nat → Int32) × (Int32) × (Int32) × (Nat → Int)) => (Bg (u.1) (u.2.2.2.2.2.2.2.2)) ∧ (WnO (u.2.2.2.2.1)) ∧ (0 ≤ ((u.2.2.2.2.2.2.1)).toInt) ∧ ((u.2.2.2.2.2.2.1) = vi 21 ∨ 0 < ((u.2.2.2.2.2.2.1)).toInt) ∧ (∀ q, (q < 10 ∨ 19 < q) → (q < 5 ∨ 8 < q) → (u.2.2.2.2.2.2.2.2) q = mg q)) (fun (u : (Nat → Int32) × (Nat → Int32) × (Nat → Int32) × (Nat → Int64) × (Nat → Int32) × (Nat → Int32) × (Int32) × (Int32) × (Nat → Int)) t => va_P (dC, dI) vwCl (WR a k h0 (fT (fT vi 21 (u.2.2.2.2.2.2.1)) 22 (u.2.2.2.2.2.2.2.1)) vj (fT (fT (fT (fT (fT vF 0 (u.1)) 2 (u.2.1)) 3 (u.2.2.1)) 60 (u.2.2.2.2.1)) 61 (u.2.2.2.2.2.1)) (fT vG 1 (u.2.2.2.1))) t.heap ∧ va_D (va_A (WR a k h0 vi vj vF vG) sz) (WR a k h0 (fT (fT vi 21 (u.2.2.2.2.2.2.1)) 22 (u.2.2.2.2.2.2.2.1)) vj (fT (fT (fT (fT (fT vF 0 (u.1)) 2 (u.2.1)) 3 (u.2.2.1)) 60 (u.2.2.2.2.1)) 61 (u.2.2.2.2.2.1)) (fT vG 1 (u.2.2.2.1)))) (va_A (WR a k h0 vi vj vF vG) sz)) 0 0 (va_A (WR a k h0 vi vj vF vG) sz) := by
  refine Met.ofW (cc := cX12_keep) (maxL := 12) (ret := none) (by decide) rfl ?_
  intro p e s m args below meth c s₁ B hml hv
  obtain ⟨rfl, hsz, hP, hK, hD0⟩ := hv
  have hx := B.exec
  have hb := B.bytes
  have hr := B.returns
  have hts := atoms_spec (ws := wsRX12_keep) B.pre
  have hown : s.vm.findClass RX12 = some m.cls := findClass_of_methodNamed B.named
  have hlocks := B.notSynchronized
  subst hsz
  have hD := hD0.self (sz := s.heap.size)
  generalize hAe : va_A (WR a k h0 vi vj vF vG) s.heap.size = A at hD ⊢
  have hA : ∀ q : Nat, s.heap.size ≤ q → A q := fun q h => by rw [← hAe]; exact Or.inr h
  have hS : va_S A s.heap s.heap [] := va_S.rf
  have hl := lv_entry ([.ref h0, .int (nI rN), .int (nI wN), .int sI, .int pI]) (n := 12) (Nat.le_of_ble_eq_true rfl)
  rw [lg_entry_eq]
  generalize (lg_sl ([.ref h0, .int (nI rN), .int (nI wN), .int sI, .int pI]) ++ List.replicate (12 - (lg_sl ([.ref h0, .int (nI rN), .int (nI wN), .int sI, .int pI])).length) Slot.unset).toArray = ls at hl ⊢
  have hl : lv_has ls 12 [(0, .ref h0), (1, .int (nI rN)), (2, .int (nI wN)), (3, .int sI), (4, .int pI)] := hl
  refine lv_aload_n hx hb dX12_keep_0 rfl (lv_at hl 0 rfl) ?_
  refine lv_bipush (v := 19) hx hb dX12_keep_1 (by decide) ?_
  refine lv_lconst (v := 1) hx hb dX12_keep_3 (by decide) ?_
  have hFc := allFree hD hS hA
  refine va_callv (va_runV (As := [.int 19, .long 1]) (rest := []) ⟨hx, hb, hml, hown, hts⟩ (b_X12_put l dC dI a k h0 vi vj vF vG 19 1 1 mg hBg (by first | assumption | decide | omega | rfl) (by decide) (by first | assumption | decide | omega | rfl) s.heap.size) (cwV 2 hts gwsRX12_keep_0 rfl rfl rfl hd_yX12_put_RX12 (by decide +kernel)) (fz_pre (va_recv hK hP (ci := 12) (q0 := 0) rfl rfl) hP hK hD) rfl rfl hl.1 rfl (lv_room (Nat.le_of_ble_eq_true rfl)) dX12_keep_4 (by decide +kernel)) hS (fun q _ h => hFc q h) hFc (fun u t9_ H locs ht hvm hw9 hB9 hz1 hk1 hS => ?_)
  obtain ⟨g4, hwit4⟩ : ∃ w9, w9 = u := ⟨u, rfl⟩
  subst hwit4
  have hP : va_P (dC, dI) vwCl (WR a k h0 vi vj (fT vF 0 g4) vG) H := fz_P ht hB9.1
  have hD : va_D A (WR a k h0 vi vj (fT vF 0 g4) vG) := hB9.2.weaken (fun _ q _ h => hFc q.1 h)
  have f4_0 := hw9
  try dsimp only at f4_0
  refine lv_iconst (v := 0) hx hb dX12_keep_7 (by decide) ?_
  refine lv_istore hx hb dX12_keep_8 hl (by decide) rfl (fun ls (hl : lv_has ls _ ([(5, .int 0), (0, .ref h0), (1, .int (nI rN)), (2, .int (nI wN)), (3, .int sI), (4, .int pI)])) => ?_)
  have e9 : fT (fT (fT vF 0 g4) 2 (vF 2)) 3 (vF 3) = fT vF 0 g4 := by funext q9; by_cases h9_0 : q9 = 0; (subst h9_0; exact ((fT_ne _ _ (Nat.ne_of_beq_eq_false rfl)).trans ((fT_ne _ _ (Nat.ne_of_beq_eq_false rfl)).trans (fT_eq _ _ _))).trans (Eq.trans (by first | rfl | assumption | (symm; assumption) | (subst_vars; rfl)) (fT_eq _ _ _).symm)); by_cases h9_2 : q9 = 2; (subst h9_2; exact ((fT_ne _ _ (Nat.ne_of_beq_eq_false rfl)).trans (fT_eq _ _ _)).trans (Eq.trans (by first | rfl | assumption | (symm; assumption) | (subst_vars; rfl)) (fT_ne _ _ (Nat.ne_of_beq_eq_false rfl)).symm)); by_cases h9_3 : q9 = 3; (subst h9_3; exact (fT_eq _ _ _).trans (Eq.trans (by first | rfl | assumption | (symm; assumption) | (subst_vars; rfl)) (fT_ne _ _ (Nat.ne_of_beq_eq_false rfl)).symm)); exact ((fT_ne _ _ h9_3).trans ((fT_ne _ _ h9_2).trans (fT_ne _ _ h9_0))).trans (fT_ne _ _ h9_0).symm
  have hP : va_P (dC, dI) vwCl (WR a k h0 vi vj (fT (fT (fT vF 0 g4) 2 (vF 2)) 3 (vF 3)) vG) H := by rw [e9]; exact hP
  have hD : va_D A (WR a k h0 vi vj (fT (fT (fT vF 0 g4) 2 (vF 2)) 3 (vF 3)) vG) := by rw [e9]; exact hD
  clear e9
  have e9 : fT vG 1 (vG 1) = vG := by funext q9; by_cases h9_1 : q9 = 1; (subst h9_1; exact (fT_eq _ _ _).trans (Eq.trans (by first | rfl | assumption | (symm; assumption) | (subst_vars; rfl)) (Eq.refl _).symm)); exact (fT_ne _ _ h9_1).trans (Eq.refl _).symm
  have hP : va_P (dC, dI) vwCl (WR a k h0 vi vj (fT (fT (fT vF 0 g4) 2 (vF 2)) 3 (vF 3)) (fT vG 1 (vG 1))) H := by rw [e9]; exact hP
  have hD : va_D A (WR a k h0 vi vj (fT (fT (fT vF 0 g4) 2 (vF 2)) 3 (vF 3)) (fT vG 1 (vG 1))) := by rw [e9]; exact hD
  clear e9
  have hl : lv_has _ _ ([(0, .ref h0), (1, .int (nI rN)), (2, .int (nI wN)), (3, .int sI), (4, .int pI), (5, .int (nI 0))]) := lv_sub hl [1, 2, 3, 4, 5, 0] rfl
  refine (fun (loop : ∀ (n9 : Nat) (k5 : Nat) (x16_F0 : Nat → Int32) (x16_F2 : Nat → Int32) (x16_F3 : Nat → Int32) (x16_G1 : Nat → Int64) (mK : Nat → Int) (x19 : Int) (H : Heap) (locs : List Loc) (ls : Array Slot), (Bg x16_F0 mK) → (mK 19 = x19) → (k5 ≤ 9) → (0 < x19) → (x19.natAbs ≤ p42 k5) → (∀ q, (q < 10 ∨ 19 < q) → (q < 5 ∨ 8 < q) → mK q = mg q) →  (9 < k5 + n9) → va_P (dC, dI) vwCl (WR a k h0 vi vj (fT (fT (fT vF 0 x16_F0) 2 x16_F2) 3 x16_F3) (fT vG 1 x16_G1)) H → va_D A (WR a k h0 vi vj (fT (fT (fT vF 0 x16_F0) 2 x16_F2) 3 x16_F3) (fT vG 1 x16_G1)) → va_S A s.heap H locs → lv_has ls 12 [(0, .ref h0), (1, .int (nI rN)), (2, .int (nI wN)), (3, .int sI), (4, .int pI), (5, .int (nI k5))] → W p l e _ s m _ below meth c H locs 0 0 _ (F0 m 10 ls [])) => loop (10) 0 g4 (vF 2) (vF 3) (vG 1) (fT mg 19 1) 1 _ _ _ (f4_0) ((by rw [fT_eq])) (by omega) (by decide) (by decide) (fun q h1 h2 => by (rw [fT_ne _ _ (by omega)])) (by omega) hP hD hS hl) ?_
  intro n9
  induction n9 with
  | zero => intro k5 x16_F0 x16_F2 x16_F3 x16_G1 mK x19 H locs ls hBK v_x19 hk5 hx19p hx19b ho1 hf9; exact False.elim (by omega)
  | succ n9 ih10 =>
    intro k5 x16_F0 x16_F2 x16_F3 x16_G1 mK x19 H locs ls hBK v_x19 hk5 hx19p hx19b ho1 hf10 hP hD hS hl
    refine lv_iload hx hb dX12_keep_10 (lv_at hl 5 rfl) ?_
    refine lv_bipush (v := 9) hx hb dX12_keep_12 (by decide) ?_
    refine lv_icmp_ge (tgt := 159) hx hb dX12_keep_14 (by decide) (fun c_14 => ?_) (fun c_14 => ?_)
    · have t_14 : ((k5 : Nat) : Int) ≥ 9 := toI_ge c_14 (nI_toInt (by omega)) (by decide)
      have h19c : x19.natAbs < 2 ^ 380 := Nat.lt_of_le_of_lt hx19b (Nat.lt_trans (p42_le k5 (by omega)) (by decide +kernel))
      refine lv_bipush (v := 9) hx hb dX12_keep_159 (by decide) ?_
      refine lv_iconst (v := 3) hx hb dX12_keep_161 (by decide) ?_
      refine lv_iload_n hx hb dX12_keep_162 rfl (lv_at hl 1 rfl) ?_
      refine lv_imul hx hb dX12_keep_163 ?_
      refine lv_topi (fun y1 hy1 => ?_)
      obtain rfl : (nI (3 * rN)) = y1 := (hy1.trans (pk_mul 3 rN)).symm
      refine lv_iload_n hx hb dX12_keep_164 rfl (lv_at hl 2 rfl) ?_
      refine lv_iadd hx hb dX12_keep_165 ?_
      refine lv_topi (fun y2 hy2 => ?_)
      obtain rfl : (nI ((3 * rN) + wN)) = y2 := (hy2.trans (nI_add (3 * rN) wN)).symm
      refine lv_imul hx hb dX12_keep_166 ?_
      refine lv_topi (fun y3 hy3 => ?_)
      obtain rfl : (nI (9 * ((3 * rN) + wN))) = y3 := (hy3.trans (pk_mul 9 ((3 * rN) + wN))).symm
      refine lv_istore hx hb dX12_keep_167 hl (by decide) rfl (fun ls (hl : lv_has ls _ ([(5, .int (nI (9 * ((3 * rN) + wN)))), (0, .ref h0), (1, .int (nI rN)), (2, .int (nI wN)), (3, .int sI), (4, .int pI)])) => ?_)
      refine lv_aload_n hx hb dX12_keep_169 rfl (lv_at hl 1 rfl) ?_
      refine lv_bipush (v := 16) hx hb dX12_keep_170 (by decide) ?_
      refine lv_lconst (v := 0) hx hb dX12_keep_172 (by decide) ?_
      have hFc := allFree hD hS hA
      refine va_callv (va_runV (As := [.int 16, .long 0]) (rest := []) ⟨hx, hb, hml, hown, hts⟩ (b_X12_put l dC dI a k h0 vi vj (fT (fT (fT vF 0 x16_F0) 2 x16_F2) 3 x16_F3) (fT vG 1 x16_G1) 16 0 0 mK hBK (by first | assumption | decide | omega | rfl) (by decide) (by first | assumption | decide | omega | rfl) H.size) (cwV 2 hts gwsRX12_keep_0 rfl rfl rfl hd_yX12_put_RX12 (by decide +kernel)) (fz_pre (va_recv hK hP (ci := 12) (q0 := 0) rfl rfl) hP hK hD) rfl rfl hl.1 rfl (lv_room (Nat.le_of_ble_eq_true rfl)) dX12_keep_173 (by decide +kernel)) hS (fun q _ h => hFc q h) hFc (fun u t9_ H locs ht hvm hw9 hB9 hz1 hk1 hS => ?_)
      obtain ⟨g173, hwit173⟩ : ∃ w9, w9 = u := ⟨u, rfl⟩
      subst hwit173
      have hP : va_P (dC, dI) vwCl (WR a k h0 vi vj (fT (fT (fT (fT vF 0 x16_F0) 2 x16_F2) 3 x16_F3) 0 g173) (fT vG 1 x16_G1)) H := fz_P ht hB9.1
      have hD : va_D A (WR a k h0 vi vj (fT (fT (fT (fT vF 0 x16_F0) 2 x16_F2) 3 x16_F3) 0 g173) (fT vG 1 x16_G1)) := hB9.2.weaken (fun _ q _ h => hFc q.1 h)
      have e9 : fT (fT (fT vF 0 g173) 2 x16_F2) 3 x16_F3 = fT (fT (fT (fT vF 0 x16_F0) 2 x16_F2) 3 x16_F3) 0 g173 := ((fT_sw _ _ _ (Nat.ne_of_beq_eq_false rfl)).trans (congrArg (fun g9 => fT g9 3 x16_F3) ((fT_sw _ _ _ (Nat.ne_of_beq_eq_false rfl)).trans (congrArg (fun g9 => fT g9 2 x16_F2) (fT_sm _ _ _ _))))).symm
      rw [← e9] at hP hD
      clear e9
      have hP : va_P (dC, dI) vwCl (WR a k h0 vi vj (fT (fT (fT vF 0 g173) 2 x16_F2) 3 x16_F3) (fT vG 1 x16_G1)) H := hP
      have hD : va_D A (WR a k h0 vi vj (fT (fT (fT vF 0 g173) 2 x16_F2) 3 x16_F3) (fT vG 1 x16_G1)) := hD
      have f173_0 := hw9
      try dsimp only at f173_0
      refine lv_iconst (v := 0) hx hb dX12_keep_176 (by decide) ?_
      refine lv_istore hx hb dX12_keep_177 hl (by decide) rfl (fun ls (hl : lv_has ls _ ([(6, .int 0), (5, .int (nI (9 * ((3 * rN) + wN)))), (0, .ref h0), (1, .int (nI rN)), (2, .int (nI wN)), (3, .int sI), (4, .int pI)])) => ?_)
      have hl : lv_has _ _ ([(0, .ref h0), (1, .int (nI rN)), (2, .int (nI wN)), (3, .int sI), (4, .int pI), (5, .int (nI (9 * ((3 * rN) + wN)))), (6, .int (nI 0))]) := lv_sub hl [2, 3, 4, 5, 6, 1, 0] rfl
      refine (fun (loop : ∀ (n9 : Nat) (k6 : Nat) (x24_F0 : Nat → Int32) (x24_F2 : Nat → Int32) (x24_F3 : Nat → Int32) (x24_G1 : Nat → Int64) (m3 : Nat → Int) (H : Heap) (locs : List Loc) (ls : Array Slot), (Bg x24_F0 m3) → (k6 ≤ 9) → (m3 19 = x19) → (∀ q, (q < 10 ∨ 19 < q) → (q < 5 ∨ 8 < q) → m3 q = mg q) →  (9 < k6 + n9) → va_P (dC, dI) vwCl (WR a k h0 vi vj (fT (fT (fT vF 0 x24_F0) 2 x24_F2) 3 x24_F3) (fT vG 1 x24_G1)) H → va_D A (WR a k h0 vi vj (fT (fT (fT vF 0 x24_F0) 2 x24_F2) 3 x24_F3) (fT vG 1 x24_G1)) → va_S A s.heap H locs → lv_has ls 12 [(0, .ref h0), (1, .int (nI rN)), (2, .int (nI wN)), (3, .int sI), (4, .int pI), (5, .int (nI (9 * ((3 * rN) + wN)))), (6, .int (nI k6))] → W p l e _ s m _ below meth c H locs 0 0 _ (F0 m 179 ls [])) => loop (10) 0 g173 x16_F2 x16_F3 x16_G1 (fT mK 16 0) _ _ _ (f173_0) (by omega) (by (rw [fT_ne _ _ (by omega)]); exact v_x19) (fun q h1 h2 => by (rw [fT_ne _ _ (by omega)]); exact ho1 q h1 h2) (by omega) hP hD hS hl) ?_
      intro n9
      induction n9 with
      | zero => intro k6 x24_F0 x24_F2 x24_F3 x24_G1 m3 H locs ls hB3 hk6 h193 ho3 hf9; exact False.elim (by omega)
      | succ n9 ih179_1 =>
        intro k6 x24_F0 x24_F2 x24_F3 x24_G1 m3 H locs ls hB3 hk6 h193 ho3 hf179_1 hP hD hS hl
        refine lv_iload hx hb dX12_keep_179 (lv_at hl 6 rfl) ?_
        refine lv_bipush (v := 9) hx hb dX12_keep_181 (by decide) ?_
        refine lv_icmp_ge (tgt := 216) hx hb dX12_keep_183 (by decide) (fun c_183 => ?_) (fun c_183 => ?_)
        · have t_183 : ((k6 : Nat) : Int) ≥ 9 := toI_ge c_183 (nI_toInt (by omega)) (by decide)
          refine lv_iconst (v := 0) hx hb dX12_keep_216 (by decide) ?_
          refine lv_istore hx hb dX12_keep_217 hl (by decide) rfl (fun ls (hl : lv_has ls _ ([(6, .int 0), (0, .ref h0), (1, .int (nI rN)), (2, .int (nI wN)), (3, .int sI), (4, .int pI), (5, .int (nI (9 * ((3 * rN) + wN))))])) => ?_)
          have e9 : fT (fT (fT (fT vF 0 x24_F0) 2 x24_F2) 3 x24_F3) 60 (vF 60) = fT (fT (fT vF 0 x24_F0) 2 x24_F2) 3 x24_F3 := by funext q9; by_cases h9_0 : q9 = 0; (subst h9_0; exact ((fT_ne _ _ (Nat.ne_of_beq_eq_false rfl)).trans ((fT_ne _ _ (Nat.ne_of_beq_eq_false rfl)).trans ((fT_ne _ _ (Nat.ne_of_beq_eq_false rfl)).trans (fT_eq _ _ _)))).trans (Eq.trans (by first | rfl | assumption | (symm; assumption) | (subst_vars; rfl)) ((fT_ne _ _ (Nat.ne_of_beq_eq_false rfl)).trans ((fT_ne _ _ (Nat.ne_of_beq_eq_false rfl)).trans (fT_eq _ _ _))).symm)); by_cases h9_2 : q9 = 2; (subst h9_2; exact ((fT_ne _ _ (Nat.ne_of_beq_eq_false rfl)).trans ((fT_ne _ _ (Nat.ne_of_beq_eq_false rfl)).trans (fT_eq _ _ _))).trans (Eq.trans (by first | rfl | assumption | (symm; assumption) | (subst_vars; rfl)) ((fT_ne _ _ (Nat.ne_of_beq_eq_false rfl)).trans (fT_eq _ _ _)).symm)); by_cases h9_3 : q9 = 3; (subst h9_3; exact ((fT_ne _ _ (Nat.ne_of_beq_eq_false rfl)).trans (fT_eq _ _ _)).trans (Eq.trans (by first | rfl | assumption | (symm; assumption) | (subst_vars; rfl)) (fT_eq _ _ _).symm)); by_cases h9_60 : q9 = 60; (subst h9_60; exact (fT_eq _ _ _).trans (Eq.trans (by first | rfl | assumption | (symm; assumption) | (subst_vars; rfl)) ((fT_ne _ _ (Nat.ne_of_beq_eq_false rfl)).trans ((fT_ne _ _ (Nat.ne_of_beq_eq_false rfl)).trans (fT_ne _ _ (Nat.ne_of_beq_eq_false rfl)))).symm)); exact ((fT_ne _ _ h9_60).trans ((fT_ne _ _ h9_3).trans ((fT_ne _ _ h9_2).trans (fT_ne _ _ h9_0)))).trans ((fT_ne _ _ h9_3).trans ((fT_ne _ _ h9_2).trans (fT_ne _ _ h9_0))).symm
          have hP : va_P (dC, dI) vwCl (WR a k h0 vi vj (fT (fT (fT (fT vF 0 x24_F0) 2 x24_F2) 3 x24_F3) 60 (vF 60)) (fT vG 1 x24_G1)) H := by rw [e9]; exact hP
          have hD : va_D A (WR a k h0 vi vj (fT (fT (fT (fT vF 0 x24_F0) 2 x24_F2) 3 x24_F3) 60 (vF 60)) (fT vG 1 x24_G1)) := by rw [e9]; exact hD
          clear e9
          have hl : lv_has _ _ ([(0, .ref h0), (1, .int (nI rN)), (2, .int (nI wN)), (3, .int sI), (4, .int pI), (5, .int (nI (9 * ((3 * rN) + wN)))), (6, .int (nI 0))]) := lv_sub hl [1, 2, 3, 4, 5, 6, 0] rfl
          refine (fun (loop : ∀ (n9 : Nat) (k7 : Nat) (f60x : Nat → Int32) (x28_F0 : Nat → Int32) (x28_F2 : Nat → Int32) (x28_F3 : Nat → Int32) (x28_G1 : Nat → Int64) (m4 : Nat → Int) (H : Heap) (locs : List Loc) (ls : Array Slot), (Bg x28_F0 m4) → (k7 ≤ 9) → (m4 19 = x19) → (WnO f60x) → (∀ q, (q < 10 ∨ 19 < q) → (q < 5 ∨ 8 < q) → m4 q = mg q) →  (9 < k7 + n9) → va_P (dC, dI) vwCl (WR a k h0 vi vj (fT (fT (fT (fT vF 0 x28_F0) 2 x28_F2) 3 x28_F3) 60 f60x) (fT vG 1 x28_G1)) H → va_D A (WR a k h0 vi vj (fT (fT (fT (fT vF 0 x28_F0) 2 x28_F2) 3 x28_F3) 60 f60x) (fT vG 1 x28_G1)) → va_S A s.heap H locs → lv_has ls 12 [(0, .ref h0), (1, .int (nI rN)), (2, .int (nI wN)), (3, .int sI), (4, .int pI), (5, .int (nI (9 * ((3 * rN) + wN)))), (6, .int (nI k7))] → W p l e _ s m _ below meth c H locs 0 0 _ (F0 m 219 ls [])) => loop (10) 0 (vF 60) x24_F0 x24_F2 x24_F3 x24_G1 m3 _ _ _ (hB3) (by omega) (h193) (hWn) (ho3) (by omega) hP hD hS hl) ?_
          intro n9
          induction n9 with
          | zero => intro k7 f60x x28_F0 x28_F2 x28_F3 x28_G1 m4 H locs ls hB4 hk7 h194 hW4 ho4 hf9; exact False.elim (by omega)
          | succ n9 ih219_2 =>
            intro k7 f60x x28_F0 x28_F2 x28_F3 x28_G1 m4 H locs ls hB4 hk7 h194 hW4 ho4 hf219_2 hP hD hS hl
            refine lv_iload hx hb dX12_keep_219 (lv_at hl 6 rfl) ?_
            refine lv_bipush (v := 9) hx hb dX12_keep_221 (by decide) ?_
            refine lv_icmp_ge (tgt := 345) hx hb dX12_keep_223 (by decide) (fun c_223 => ?_) (fun c_223 => ?_)
            · have t_223 : ((k7 : Nat) : Int) ≥ 9 := toI_ge c_223 (nI_toInt (by omega)) (by decide)
              refine lv_aload_n hx hb dX12_keep_345 rfl (lv_at hl 0 rfl) ?_
              refine va_get (D := (dC, dI)) (ci := 12) (v := .ref (a 61)) (C := RX12) (T := TX12) (N := 163) (fs := fM (vS a vi vj)) hx hb hts iwsRX12_keep_in12 hown hK hP 0 rfl rfl 101 (by decide) (hts (.fieldLink RX12 206 "OptimaWorksModel" "waySign" "[I") (by decide +kernel)) (fun _ h9 => h9) rfl dX12_keep_346 ?_
              refine lv_iconst (v := 3) hx hb dX12_keep_349 (by decide) ?_
              refine lv_iload_n hx hb dX12_keep_350 rfl (lv_at hl 1 rfl) ?_
              refine lv_imul hx hb dX12_keep_351 ?_
              refine lv_topi (fun y4 hy4 => ?_)
              obtain rfl : (nI (3 * rN)) = y4 := (hy4.trans (pk_mul 3 rN)).symm
              refine lv_iload_n hx hb dX12_keep_352 rfl (lv_at hl 2 rfl) ?_
              refine lv_iadd hx hb dX12_keep_353 ?_
              refine lv_topi (fun y5 hy5 => ?_)
              obtain rfl : (nI ((3 * rN) + wN)) = y5 := (hy5.trans (nI_add (3 * rN) wN)).symm
              refine lv_iload_n hx hb dX12_keep_354 rfl (lv_at hl 3 rfl) ?_
              refine va_iast (cA := k 61) (n := 39) (f := (vF 61)) hx hb hK hP hD hS 62 61 (WR_get 61 (by decide)) (TR_get 61 (by decide)) (vp_in_nI (show ((3 * rN) + wN) < 39 by omega) (by omega)) dX12_keep_355 (fun H locs hP hD hS => ?_)
              have hP : va_P (dC, dI) vwCl (WR a k h0 vi vj (fT (fT (fT (fT (fT vF 0 x28_F0) 2 x28_F2) 3 x28_F3) 60 f60x) 61 (upd (vF 61) ((nI ((3 * rN) + wN))).toNatClampNeg sI)) (fT vG 1 x28_G1)) H := by rw [← WR_F 61 (by decide) _ rfl]; exact hP
              have hD : va_D A (WR a k h0 vi vj (fT (fT (fT (fT (fT vF 0 x28_F0) 2 x28_F2) 3 x28_F3) 60 f60x) 61 (upd (vF 61) ((nI ((3 * rN) + wN))).toNatClampNeg sI)) (fT vG 1 x28_G1)) := by rw [← WR_F 61 (by decide) _ rfl]; exact hD
              refine W.widen (k := 0) (n := 0) (by decide +kernel) (by decide +kernel) ?_
              have e9 : fT (fT vi 21 (vi 21)) 22 (vi 22) = vi := (fT_id _ _ (fT_ne _ _ (Nat.ne_of_beq_eq_false rfl))).trans (fT_id _ _ (rfl))
              have hP : va_P (dC, dI) vwCl (WR a k h0 (fT (fT vi 21 (vi 21)) 22 (vi 22)) vj (fT (fT (fT (fT (fT vF 0 x28_F0) 2 x28_F2) 3 x28_F3) 60 f60x) 61 (upd (vF 61) ((nI ((3 * rN) + wN))).toNatClampNeg sI)) (fT vG 1 x28_G1)) H := by rw [e9]; exact hP
              have hD : va_D A (WR a k h0 (fT (fT vi 21 (vi 21)) 22 (vi 22)) vj (fT (fT (fT (fT (fT vF 0 x28_F0) 2 x28_F2) 3 x28_F3) 60 f60x) 61 (upd (vF 61) ((nI ((3 * rN) + wN))).toNatClampNeg sI)) (fT vG 1 x28_G1)) := by rw [e9]; exact hD
              clear e9
              exact W.vret hx hb hr (fun t9_ ht hW => ⟨⟨(x28_F0, x28_F2, x28_F3, x28_G1, f60x, (upd (vF 61) ((nI ((3 * rN) + wN))).toNatClampNeg sI), (vi 21), (vi 22), m4), rfl, by (try dsimp only); exact ⟨hB4, hW4, hst0, Or.inl rfl, ho4⟩, by rw [ht]; exact hP, hD⟩, hS.F ht⟩) hS.2.2 dX12_keep_356
            · have t_223 : ¬ ((k7 : Nat) : Int) ≥ 9 := toI_nge c_223 (nI_toInt (by omega)) (by decide)
              refine lv_aload_n hx hb dX12_keep_226 rfl (lv_at hl 0 rfl) ?_
              refine lv_iload hx hb dX12_keep_227 (lv_at hl 6 rfl) ?_
              have hFc := allFree hD hS hA
              refine va_callv (va_runV (As := [.int (nI k7)]) (rest := []) ⟨hx, hb, hml, hown, hts⟩ (r_X12_whole1 l dC dI a k h0 vi vj (fT (fT (fT (fT vF 0 x28_F0) 2 x28_F2) 3 x28_F3) 60 f60x) (fT vG 1 x28_G1) k7 m4 hB4 (by first | assumption | decide | omega | rfl) (by first | assumption | decide | omega | rfl) (by first | assumption | decide | omega | rfl) (by rw [h194]; exact h19c) H.size) (cwV 1 hts gwsRX12_keep_1 rfl rfl rfl hd_yX12_whole1_RX12 (by decide +kernel)) (fz_pre (va_recv hK hP (ci := 12) (q0 := 0) rfl rfl) hP hK hD) rfl rfl hl.1 rfl (lv_room (Nat.le_of_ble_eq_true rfl)) dX12_keep_229 (by decide +kernel)) hS (fun q _ h => hFc q h) hFc (fun u t9_ H locs ht hvm hw9 hB9 hz1 hk1 hS => ?_)
              obtain ⟨g229, f2w229, f3w229, gs229, m2229⟩ := u
              try dsimp only at hw9 hB9
              have hP : va_P (dC, dI) vwCl (WR a k h0 vi vj (fT (fT (fT (fT (fT (fT (fT vF 0 x28_F0) 2 x28_F2) 3 x28_F3) 60 f60x) 0 g229) 2 f2w229) 3 f3w229) (fT (fT vG 1 x28_G1) 1 gs229)) H := fz_P ht hB9.1
              have hD : va_D A (WR a k h0 vi vj (fT (fT (fT (fT (fT (fT (fT vF 0 x28_F0) 2 x28_F2) 3 x28_F3) 60 f60x) 0 g229) 2 f2w229) 3 f3w229) (fT (fT vG 1 x28_G1) 1 gs229)) := hB9.2.weaken (fun _ q _ h => hFc q.1 h)
              have e9 : fT (fT (fT (fT vF 0 g229) 2 f2w229) 3 f3w229) 60 f60x = fT (fT (fT (fT (fT (fT (fT vF 0 x28_F0) 2 x28_F2) 3 x28_F3) 60 f60x) 0 g229) 2 f2w229) 3 f3w229 := ((congrArg (fun g9 => fT (fT g9 2 f2w229) 3 f3w229) ((fT_sw _ _ _ (Nat.ne_of_beq_eq_false rfl)).trans (congrArg (fun g9 => fT g9 60 f60x) ((fT_sw _ _ _ (Nat.ne_of_beq_eq_false rfl)).trans (congrArg (fun g9 => fT g9 3 x28_F3) ((fT_sw _ _ _ (Nat.ne_of_beq_eq_false rfl)).trans (congrArg (fun g9 => fT g9 2 x28_F2) (fT_sm _ _ _ _)))))))).trans ((congrArg (fun g9 => fT g9 3 f3w229) ((fT_sw _ _ _ (Nat.ne_of_beq_eq_false rfl)).trans (congrArg (fun g9 => fT g9 60 f60x) ((fT_sw _ _ _ (Nat.ne_of_beq_eq_false rfl)).trans (congrArg (fun g9 => fT g9 3 x28_F3) (fT_sm _ _ _ _)))))).trans ((fT_sw _ _ _ (Nat.ne_of_beq_eq_false rfl)).trans (congrArg (fun g9 => fT g9 60 f60x) (fT_sm _ _ _ _))))).symm
              rw [← e9] at hP hD
              clear e9
              have e9 : fT vG 1 gs229 = fT (fT vG 1 x28_G1) 1 gs229 := (fT_sm _ _ _ _).symm
              rw [← e9] at hP hD
              clear e9
              have hP : va_P (dC, dI) vwCl (WR a k h0 vi vj (fT (fT (fT (fT vF 0 g229) 2 f2w229) 3 f3w229) 60 f60x) (fT vG 1 gs229)) H := hP
              have hD : va_D A (WR a k h0 vi vj (fT (fT (fT (fT vF 0 g229) 2 f2w229) 3 f3w229) 60 f60x) (fT vG 1 gs229)) := hD
              obtain ⟨f229_0, f229_1⟩ := hw9
              refine lv_aload_n hx hb dX12_keep_232 rfl (lv_at hl 0 rfl) ?_
              refine lv_bipush (v := 16) hx hb dX12_keep_233 (by decide) ?_
              have hFc := allFree hD hS hA
              refine va_calli (va_runV (As := [.int 16]) (rest := []) ⟨hx, hb, hml, hown, hts⟩ (b_X12_sign l dC dI a k h0 vi vj (fT (fT (fT (fT vF 0 g229) 2 f2w229) 3 f3w229) 60 f60x) (fT vG 1 gs229) 16 m2229 f229_0 (m4 16) (by rw [f229_1 _ (by omega) (by omega)]) (by first | assumption | decide | omega | rfl) H.size) (cwV 1 hts gwsRX12_keep_2 rfl rfl rfl hd_yX12_sign_RX12 (by decide +kernel)) (fz_pre (va_recv hK hP (ci := 12) (q0 := 0) rfl rfl) hP hK hD) rfl rfl hl.1 rfl (lv_room (Nat.le_of_ble_eq_true rfl)) dX12_keep_235 (by decide +kernel)) hS (fun q _ h => hFc q h) hFc (fun r235 u t9_ H locs ht hvm hw9 hB9 hz1 hk1 hS => ?_)
              have hP : va_P (dC, dI) vwCl (WR a k h0 vi vj (fT (fT (fT (fT vF 0 g229) 2 f2w229) 3 f3w229) 60 f60x) (fT vG 1 gs229)) H := fz_P ht hB9.1
              have hD : va_D A (WR a k h0 vi vj (fT (fT (fT (fT vF 0 g229) 2 f2w229) 3 f3w229) 60 f60x) (fT vG 1 gs229)) := hB9.2.weaken (fun _ q _ h => hFc q.1 h)
              have f235_0 := hw9
              try dsimp only at f235_0
              refine W.cut (pc := 261) (fun H locs ls stk => ∃ (j29_F0 : Nat → Int32) (j29_F2 : Nat → Int32) (j29_F3 : Nat → Int32) (j29_G1 : Nat → Int64) (m5 : Nat → Int) (x17 : Int), (Bg j29_F0 m5) ∧ (m5 17 = x17) ∧ (m5 19 = x19) ∧ (∀ q, (q < 10 ∨ 19 < q) → (q < 5 ∨ 8 < q) → m5 q = mg q) ∧  stk = [] ∧ va_P (dC, dI) vwCl (WR a k h0 vi vj (fT (fT (fT (fT vF 0 j29_F0) 2 j29_F2) 3 j29_F3) 60 f60x) (fT vG 1 j29_G1)) H ∧ va_D A (WR a k h0 vi vj (fT (fT (fT (fT vF 0 j29_F0) 2 j29_F2) 3 j29_F3) 60 f60x) (fT vG 1 j29_G1)) ∧ va_S A s.heap H locs ∧ lv_has ls 12 [(0, .ref h0), (1, .int (nI rN)), (2, .int (nI wN)), (3, .int sI), (4, .int pI), (5, .int (nI (9 * ((3 * rN) + wN)))), (6, .int (nI k7))]) (fun join1 => ?_) ?_
              · refine lv_if_le (tgt := 261) hx hb dX12_keep_238 (by decide) (fun c_238 => ?_) (fun c_238 => ?_)
                · have t_238 : (r235).toInt ≤ 0 := toI_le c_238 rfl (by decide)
                  have hl : lv_has _ _ ([(0, .ref h0), (1, .int (nI rN)), (2, .int (nI wN)), (3, .int sI), (4, .int pI), (5, .int (nI (9 * ((3 * rN) + wN)))), (6, .int (nI k7))]) := lv_sub hl [0, 1, 2, 3, 4, 5, 6] rfl
                  exact join1 _ _ _ _ ⟨g229, f2w229, f3w229, gs229, m2229, (m2229 17), f229_0, rfl, by (rw [f229_1 _ (by omega) (by omega)]); exact h194, fun q h1 h2 => by (rw [f229_1 _ (by omega) (by omega)]); exact ho4 q h1 h2, rfl, hP, hD, hS, hl⟩
                · have t_238 : ¬ (r235).toInt ≤ 0 := toI_nle c_238 rfl (by decide)
                  refine lv_aload_n hx hb dX12_keep_241 rfl (lv_at hl 0 rfl) ?_
                  refine lv_bipush (v := 13) hx hb dX12_keep_242 (by decide) ?_
                  refine lv_bipush (v := 14) hx hb dX12_keep_244 (by decide) ?_
                  refine lv_bipush (v := 17) hx hb dX12_keep_246 (by decide) ?_
                  refine lv_bipush (v := 16) hx hb dX12_keep_248 (by decide) ?_
                  have hFc := allFree hD hS hA
                  refine va_callv (va_runV (As := [.int 13, .int 14, .int 17, .int 16]) (rest := []) ⟨hx, hb, hml, hown, hts⟩ (b_X12_divide l dC dI a k h0 vi vj (fT (fT (fT (fT vF 0 g229) 2 f2w229) 3 f3w229) 60 f60x) (fT vG 1 gs229) 13 14 17 16 m2229 f229_0 (m2229 17) (m4 16) rfl (by rw [f229_1 _ (by omega) (by omega)]) (by first | assumption | decide | omega | rfl) (by first | assumption | decide | omega | rfl) (by first | assumption | decide | omega | rfl) (by first | assumption | decide | omega | rfl) (by first | assumption | decide | omega | rfl) (by first | assumption | decide | omega | rfl) (by omega) H.size) (cwV 4 hts gwsRX12_keep_3 rfl rfl rfl hd_yX12_divide_RX12 (by decide +kernel)) (fz_pre (va_recv hK hP (ci := 12) (q0 := 0) rfl rfl) hP hK hD) rfl rfl hl.1 rfl (lv_room (Nat.le_of_ble_eq_true rfl)) dX12_keep_250 (by decide +kernel)) hS (fun q _ h => hFc q h) hFc (fun u t9_ H locs ht hvm hw9 hB9 hz1 hk1 hS => ?_)
                  obtain ⟨g250, f2w250, f3w250, gs250⟩ := u
                  try dsimp only at hw9 hB9
                  have hP : va_P (dC, dI) vwCl (WR a k h0 vi vj (fT (fT (fT (fT (fT (fT (fT vF 0 g229) 2 f2w229) 3 f3w229) 60 f60x) 2 f2w250) 3 f3w250) 0 g250) (fT (fT vG 1 gs229) 1 gs250)) H := fz_P ht hB9.1
                  have hD : va_D A (WR a k h0 vi vj (fT (fT (fT (fT (fT (fT (fT vF 0 g229) 2 f2w229) 3 f3w229) 60 f60x) 2 f2w250) 3 f3w250) 0 g250) (fT (fT vG 1 gs229) 1 gs250)) := hB9.2.weaken (fun _ q _ h => hFc q.1 h)
                  have e9 : fT (fT (fT (fT vF 0 g250) 2 f2w250) 3 f3w250) 60 f60x = fT (fT (fT (fT (fT (fT (fT vF 0 g229) 2 f2w229) 3 f3w229) 60 f60x) 2 f2w250) 3 f3w250) 0 g250 := ((congrArg (fun g9 => fT (fT g9 3 f3w250) 0 g250) ((fT_sw _ _ _ (Nat.ne_of_beq_eq_false rfl)).trans (congrArg (fun g9 => fT g9 60 f60x) ((fT_sw _ _ _ (Nat.ne_of_beq_eq_false rfl)).trans (congrArg (fun g9 => fT g9 3 f3w229) (fT_sm _ _ _ _)))))).trans ((congrArg (fun g9 => fT g9 0 g250) ((fT_sw _ _ _ (Nat.ne_of_beq_eq_false rfl)).trans (congrArg (fun g9 => fT g9 60 f60x) (fT_sm _ _ _ _)))).trans ((fT_sw _ _ _ (Nat.ne_of_beq_eq_false rfl)).trans (congrArg (fun g9 => fT g9 60 f60x) ((fT_sw _ _ _ (Nat.ne_of_beq_eq_false rfl)).trans (congrArg (fun g9 => fT g9 3 f3w250) ((fT_sw _ _ _ (Nat.ne_of_beq_eq_false rfl)).trans (congrArg (fun g9 => fT g9 2 f2w250) (fT_sm _ _ _ _))))))))).symm
                  rw [← e9] at hP hD
                  clear e9
                  have e9 : fT vG 1 gs250 = fT (fT vG 1 gs229) 1 gs250 := (fT_sm _ _ _ _).symm
                  rw [← e9] at hP hD
                  clear e9
                  have hP : va_P (dC, dI) vwCl (WR a k h0 vi vj (fT (fT (fT (fT vF 0 g250) 2 f2w250) 3 f3w250) 60 f60x) (fT vG 1 gs250)) H := hP
                  have hD : va_D A (WR a k h0 vi vj (fT (fT (fT (fT vF 0 g250) 2 f2w250) 3 f3w250) 60 f60x) (fT vG 1 gs250)) := hD
                  have f250_0 := hw9
                  try dsimp only at f250_0
                  refine lv_aload_n hx hb dX12_keep_253 rfl (lv_at hl 0 rfl) ?_
                  refine lv_bipush (v := 17) hx hb dX12_keep_254 (by decide) ?_
                  refine lv_bipush (v := 13) hx hb dX12_keep_256 (by decide) ?_
                  have hFc := allFree hD hS hA
                  refine va_callv (va_runV (As := [.int 17, .int 13]) (rest := []) ⟨hx, hb, hml, hown, hts⟩ (b_X12_copy l dC dI a k h0 vi vj (fT (fT (fT (fT vF 0 g250) 2 f2w250) 3 f3w250) 60 f60x) (fT vG 1 gs250) 17 13 (fT (fT m2229 13 (((m2229 17)).tdiv (m4 16))) 14 (((m2229 17)).tmod (m4 16))) f250_0 (((m2229 17)).tdiv (m4 16)) (by rw [fT_ne _ _ (by omega), fT_eq]) (by first | assumption | decide | omega | rfl) (by first | assumption | decide | omega | rfl) (by first | assumption | decide | omega | rfl) H.size) (cwV 2 hts gwsRX12_keep_4 rfl rfl rfl hd_yX12_copy_RX12 (by decide +kernel)) (fz_pre (va_recv hK hP (ci := 12) (q0 := 0) rfl rfl) hP hK hD) rfl rfl hl.1 rfl (lv_room (Nat.le_of_ble_eq_true rfl)) dX12_keep_258 (by decide +kernel)) hS (fun q _ h => hFc q h) hFc (fun u t9_ H locs ht hvm hw9 hB9 hz1 hk1 hS => ?_)
                  obtain ⟨g258, hwit258⟩ : ∃ w9, w9 = u := ⟨u, rfl⟩
                  subst hwit258
                  have hP : va_P (dC, dI) vwCl (WR a k h0 vi vj (fT (fT (fT (fT (fT vF 0 g250) 2 f2w250) 3 f3w250) 60 f60x) 0 g258) (fT vG 1 gs250)) H := fz_P ht hB9.1
                  have hD : va_D A (WR a k h0 vi vj (fT (fT (fT (fT (fT vF 0 g250) 2 f2w250) 3 f3w250) 60 f60x) 0 g258) (fT vG 1 gs250)) := hB9.2.weaken (fun _ q _ h => hFc q.1 h)
                  have e9 : fT (fT (fT (fT vF 0 g258) 2 f2w250) 3 f3w250) 60 f60x = fT (fT (fT (fT (fT vF 0 g250) 2 f2w250) 3 f3w250) 60 f60x) 0 g258 := ((fT_sw _ _ _ (Nat.ne_of_beq_eq_false rfl)).trans (congrArg (fun g9 => fT g9 60 f60x) ((fT_sw _ _ _ (Nat.ne_of_beq_eq_false rfl)).trans (congrArg (fun g9 => fT g9 3 f3w250) ((fT_sw _ _ _ (Nat.ne_of_beq_eq_false rfl)).trans (congrArg (fun g9 => fT g9 2 f2w250) (fT_sm _ _ _ _))))))).symm
                  rw [← e9] at hP hD
                  clear e9
                  have hP : va_P (dC, dI) vwCl (WR a k h0 vi vj (fT (fT (fT (fT vF 0 g258) 2 f2w250) 3 f3w250) 60 f60x) (fT vG 1 gs250)) H := hP
                  have hD : va_D A (WR a k h0 vi vj (fT (fT (fT (fT vF 0 g258) 2 f2w250) 3 f3w250) 60 f60x) (fT vG 1 gs250)) := hD
                  have f258_0 := hw9
                  try dsimp only at f258_0
                  have hl : lv_has _ _ ([(0, .ref h0), (1, .int (nI rN)), (2, .int (nI wN)), (3, .int sI), (4, .int pI), (5, .int (nI (9 * ((3 * rN) + wN)))), (6, .int (nI k7))]) := lv_sub hl [0, 1, 2, 3, 4, 5, 6] rfl
                  exact join1 _ _ _ _ ⟨g258, f2w250, f3w250, gs250, (fT (fT (fT m2229 13 (((m2229 17)).tdiv (m4 16))) 14 (((m2229 17)).tmod (m4 16))) 17 (((m2229 17)).tdiv (m4 16))), (((m2229 17)).tdiv (m4 16)), f258_0, (by rw [fT_eq]), by (rw [fT_ne _ _ (by omega), fT_ne _ _ (by omega), fT_ne _ _ (by omega), f229_1 _ (by omega) (by omega)]); exact h194, fun q h1 h2 => by (rw [fT_ne _ _ (by omega), fT_ne _ _ (by omega), fT_ne _ _ (by omega), f229_1 _ (by omega) (by omega)]); exact ho4 q h1 h2, rfl, hP, hD, hS, hl⟩
              · rintro H locs ls stk ⟨j29_F0, j29_F2, j29_F3, j29_G1, m5, x17, hB5, v_x17, h195, ho5, rfl, hP, hD, hS, hl⟩
                refine lv_aload_n hx hb dX12_keep_261 rfl (lv_at hl 0 rfl) ?_
                refine lv_bipush (v := 18) hx hb dX12_keep_262 (by decide) ?_
                refine lv_iload hx hb dX12_keep_264 (lv_at hl 6 rfl) ?_
                refine W.cut (pc := 278) (fun H locs ls stk => ∃ (v9 : Int64), (v9.toInt = if k7 = 0 then 99999 else 99) ∧  stk = [.long v9, .int 18, .ref h0] ∧ va_P (dC, dI) vwCl (WR a k h0 vi vj (fT (fT (fT (fT vF 0 j29_F0) 2 j29_F2) 3 j29_F3) 60 f60x) (fT vG 1 j29_G1)) H ∧ va_D A (WR a k h0 vi vj (fT (fT (fT (fT vF 0 j29_F0) 2 j29_F2) 3 j29_F3) 60 f60x) (fT vG 1 j29_G1)) ∧ va_S A s.heap H locs ∧ lv_has ls 12 [(0, .ref h0), (1, .int (nI rN)), (2, .int (nI wN)), (3, .int sI), (4, .int pI), (5, .int (nI (9 * ((3 * rN) + wN)))), (6, .int (nI k7))]) (fun join2 => ?_) ?_
                · refine lv_if_ne (tgt := 275) hx hb dX12_keep_266 (by decide) (fun c_266 => ?_) (fun c_266 => ?_)
                  · have t_266 : ((k7 : Nat) : Int) ≠ 0 := toI_ne c_266 (nI_toInt (by omega)) (by decide)
                    refine lv_ldc2 (v := 99) hx hb hown (hts (.constantLong RX12 797 99) (by decide +kernel)) dX12_keep_275 ?_
                    have hl : lv_has _ _ ([(0, .ref h0), (1, .int (nI rN)), (2, .int (nI wN)), (3, .int sI), (4, .int pI), (5, .int (nI (9 * ((3 * rN) + wN)))), (6, .int (nI k7))]) := lv_sub hl [0, 1, 2, 3, 4, 5, 6] rfl
                    exact join2 _ _ _ _ ⟨99, by rw [if_neg (by omega)]; decide, rfl, hP, hD, hS, hl⟩
                  · have t_266 : ((k7 : Nat) : Int) = 0 := toI_nne c_266 (nI_toInt (by omega)) (by decide)
                    refine lv_ldc2 (v := 99999) hx hb hown (hts (.constantLong RX12 795 99999) (by decide +kernel)) dX12_keep_269 ?_
                    refine lv_goto (tgt := 278) hx hb dX12_keep_272 (by decide) ?_
                    have hl : lv_has _ _ ([(0, .ref h0), (1, .int (nI rN)), (2, .int (nI wN)), (3, .int sI), (4, .int pI), (5, .int (nI (9 * ((3 * rN) + wN)))), (6, .int (nI k7))]) := lv_sub hl [0, 1, 2, 3, 4, 5, 6] rfl
                    exact join2 _ _ _ _ ⟨99999, by rw [if_pos (by omega)]; decide, rfl, hP, hD, hS, hl⟩
                · rintro H locs ls stk ⟨v9, hv9, rfl, hP, hD, hS, hl⟩
                  have hFc := allFree hD hS hA
                  refine va_callv (va_runV (As := [.int 18, .long v9]) (rest := []) ⟨hx, hb, hml, hown, hts⟩ (b_X12_put l dC dI a k h0 vi vj (fT (fT (fT (fT vF 0 j29_F0) 2 j29_F2) 3 j29_F3) 60 f60x) (fT vG 1 j29_G1) 18 v9 ((v9).toInt) m5 hB5 (by first | assumption | decide | omega | rfl) rfl (by first | assumption | decide | omega | rfl) H.size) (cwV 2 hts gwsRX12_keep_0 rfl rfl rfl hd_yX12_put_RX12 (by decide +kernel)) (fz_pre (va_recv hK hP (ci := 12) (q0 := 0) rfl rfl) hP hK hD) rfl rfl hl.1 rfl (lv_room (Nat.le_of_ble_eq_true rfl)) dX12_keep_278 (by decide +kernel)) hS (fun q _ h => hFc q h) hFc (fun u t9_ H locs ht hvm hw9 hB9 hz1 hk1 hS => ?_)
                  obtain ⟨g278, hwit278⟩ : ∃ w9, w9 = u := ⟨u, rfl⟩
                  subst hwit278
                  have hP : va_P (dC, dI) vwCl (WR a k h0 vi vj (fT (fT (fT (fT (fT vF 0 j29_F0) 2 j29_F2) 3 j29_F3) 60 f60x) 0 g278) (fT vG 1 j29_G1)) H := fz_P ht hB9.1
                  have hD : va_D A (WR a k h0 vi vj (fT (fT (fT (fT (fT vF 0 j29_F0) 2 j29_F2) 3 j29_F3) 60 f60x) 0 g278) (fT vG 1 j29_G1)) := hB9.2.weaken (fun _ q _ h => hFc q.1 h)
                  have e9 : fT (fT (fT (fT vF 0 g278) 2 j29_F2) 3 j29_F3) 60 f60x = fT (fT (fT (fT (fT vF 0 j29_F0) 2 j29_F2) 3 j29_F3) 60 f60x) 0 g278 := ((fT_sw _ _ _ (Nat.ne_of_beq_eq_false rfl)).trans (congrArg (fun g9 => fT g9 60 f60x) ((fT_sw _ _ _ (Nat.ne_of_beq_eq_false rfl)).trans (congrArg (fun g9 => fT g9 3 j29_F3) ((fT_sw _ _ _ (Nat.ne_of_beq_eq_false rfl)).trans (congrArg (fun g9 => fT g9 2 j29_F2) (fT_sm _ _ _ _))))))).symm
                  rw [← e9] at hP hD
                  clear e9
                  have hP : va_P (dC, dI) vwCl (WR a k h0 vi vj (fT (fT (fT (fT vF 0 g278) 2 j29_F2) 3 j29_F3) 60 f60x) (fT vG 1 j29_G1)) H := hP
                  have hD : va_D A (WR a k h0 vi vj (fT (fT (fT (fT vF 0 g278) 2 j29_F2) 3 j29_F3) 60 f60x) (fT vG 1 j29_G1)) := hD
                  have f278_0 := hw9
                  try dsimp only at f278_0
                  refine lv_aload_n hx hb dX12_keep_281 rfl (lv_at hl 0 rfl) ?_
                  refine lv_bipush (v := 17) hx hb dX12_keep_282 (by decide) ?_
                  refine lv_bipush (v := 18) hx hb dX12_keep_284 (by decide) ?_
                  have hFc := allFree hD hS hA
                  refine va_calli (va_runV (As := [.int 17, .int 18]) (rest := []) ⟨hx, hb, hml, hown, hts⟩ (b_X12_bare l dC dI a k h0 vi vj (fT (fT (fT (fT vF 0 g278) 2 j29_F2) 3 j29_F3) 60 f60x) (fT vG 1 j29_G1) 17 18 (fT m5 18 ((v9).toInt)) f278_0 x17 ((v9).toInt) (by rw [fT_ne _ _ (by omega), v_x17]) (by rw [fT_eq]) (by first | assumption | decide | omega | rfl) (by first | assumption | decide | omega | rfl) H.size) (cwV 2 hts gwsRX12_keep_5 rfl rfl rfl hd_yX12_bare_RX12 (by decide +kernel)) (fz_pre (va_recv hK hP (ci := 12) (q0 := 0) rfl rfl) hP hK hD) rfl rfl hl.1 rfl (lv_room (Nat.le_of_ble_eq_true rfl)) dX12_keep_286 (by decide +kernel)) hS (fun q _ h => hFc q h) hFc (fun r286 u t9_ H locs ht hvm hw9 hB9 hz1 hk1 hS => ?_)
                  have hP : va_P (dC, dI) vwCl (WR a k h0 vi vj (fT (fT (fT (fT vF 0 g278) 2 j29_F2) 3 j29_F3) 60 f60x) (fT vG 1 j29_G1)) H := fz_P ht hB9.1
                  have hD : va_D A (WR a k h0 vi vj (fT (fT (fT (fT vF 0 g278) 2 j29_F2) 3 j29_F3) 60 f60x) (fT vG 1 j29_G1)) := hB9.2.weaken (fun _ q _ h => hFc q.1 h)
                  obtain ⟨f286_0, f286_1⟩ := hw9
                  refine lv_if_le (tgt := 300) hx hb dX12_keep_289 (by decide) (fun c_289 => ?_) (fun c_289 => ?_)
                  · have t_289 : (r286).toInt ≤ 0 := toI_le c_289 rfl (by decide)
                    have hb17 : x17.natAbs ≤ (if k7 = 0 then 99999 else 99) := by (have h8 : v9.toInt.natAbs = (if k7 = 0 then 99999 else 99) := by rw [hv9]; split <;> rfl); rw [← h8]; omega
                    refine lv_aload_n hx hb dX12_keep_300 rfl (lv_at hl 0 rfl) ?_
                    refine va_get (D := (dC, dI)) (ci := 12) (v := .int (vi 21)) (C := RX12) (T := TX12) (N := 163) (fs := fM (vS a vi vj)) hx hb hts iwsRX12_keep_in12 hown hK hP 0 rfl rfl 21 (by decide) (hts (.fieldLink RX12 515 "OptimaWorksModel" "stop" "I") (by decide +kernel)) (fun _ h9 => h9) rfl dX12_keep_301 ?_
                    refine lv_if_le (tgt := 308) hx hb dX12_keep_304 (by decide) (fun c_304 => ?_) (fun c_304 => ?_)
                    · have t_304 : ((vi 21)).toInt ≤ 0 := toI_le c_304 rfl (by decide)
                      refine lv_aload_n hx hb dX12_keep_308 rfl (lv_at hl 0 rfl) ?_
                      refine lv_bipush (v := 17) hx hb dX12_keep_309 (by decide) ?_
                      have hFc := allFree hD hS hA
                      refine va_calli (va_runV (As := [.int 17]) (rest := []) ⟨hx, hb, hml, hown, hts⟩ (r_X12_small l dC dI a k h0 vi vj (fT (fT (fT (fT vF 0 g278) 2 j29_F2) 3 j29_F3) 60 f60x) (fT vG 1 j29_G1) 17 (fT m5 18 ((v9).toInt)) f278_0 x17 (by rw [fT_ne _ _ (by omega), v_x17]) (by first | assumption | decide | omega | rfl) H.size) (cwV 1 hts gwsRX12_keep_6 rfl rfl rfl hd_yX12_small_RX12 (by decide +kernel)) (fz_pre (va_recv hK hP (ci := 12) (q0 := 0) rfl rfl) hP hK hD) rfl rfl hl.1 rfl (lv_room (Nat.le_of_ble_eq_true rfl)) dX12_keep_311 (by decide +kernel)) hS (fun q _ h => hFc q h) hFc (fun r311 u t9_ H locs ht hvm hw9 hB9 hz1 hk1 hS => ?_)
                      have hP : va_P (dC, dI) vwCl (WR a k h0 vi vj (fT (fT (fT (fT vF 0 g278) 2 j29_F2) 3 j29_F3) 60 f60x) (fT vG 1 j29_G1)) H := fz_P ht hB9.1
                      have hD : va_D A (WR a k h0 vi vj (fT (fT (fT (fT vF 0 g278) 2 j29_F2) 3 j29_F3) 60 f60x) (fT vG 1 j29_G1)) := hB9.2.weaken (fun _ q _ h => hFc q.1 h)
                      obtain ⟨f311_0, f311_1⟩ := hw9
                      have hv7 : (r311).toInt.natAbs ≤ (if k7 = 0 then 99999 else 99) := by (have h9 := f311_1 (by (have h7 := hb17); split at h7 <;> omega)); rw [h9]; exact hb17
                      refine lv_istore hx hb dX12_keep_314 hl (by decide) rfl (fun ls (hl : lv_has ls _ ([(7, .int r311), (0, .ref h0), (1, .int (nI rN)), (2, .int (nI wN)), (3, .int sI), (4, .int pI), (5, .int (nI (9 * ((3 * rN) + wN)))), (6, .int (nI k7))])) => ?_)
                      refine lv_aload_n hx hb dX12_keep_316 rfl (lv_at hl 1 rfl) ?_
                      refine va_get (D := (dC, dI)) (ci := 12) (v := .ref (a 60)) (C := RX12) (T := TX12) (N := 163) (fs := fM (vS a vi vj)) hx hb hts iwsRX12_keep_in12 hown hK hP 0 rfl rfl 100 (by decide) (hts (.fieldLink RX12 203 "OptimaWorksModel" "wayNumber" "[I") (by decide +kernel)) (fun _ h9 => h9) rfl dX12_keep_317 ?_
                      refine lv_iload hx hb dX12_keep_320 (lv_at hl 6 rfl) ?_
                      refine lv_iload hx hb dX12_keep_322 (lv_at hl 7 rfl) ?_
                      refine lv_iadd hx hb dX12_keep_324 ?_
                      refine lv_topi (fun y6 hy6 => ?_)
                      obtain rfl : (nI ((9 * ((3 * rN) + wN)) + k7)) = y6 := (hy6.trans (nI_add (9 * ((3 * rN) + wN)) k7)).symm
                      refine lv_iload hx hb dX12_keep_325 (lv_at hl 7 rfl) ?_
                      refine W.cut (pc := 338) (fun H locs ls stk => ∃ (v8 : Int32), ((v8).toInt.natAbs ≤ (if k7 = 0 then 99999 else 99)) ∧  stk = [.int v8, .int (nI ((9 * ((3 * rN) + wN)) + k7)), .ref (a 60)] ∧ va_P (dC, dI) vwCl (WR a k h0 vi vj (fT (fT (fT (fT vF 0 g278) 2 j29_F2) 3 j29_F3) 60 f60x) (fT vG 1 j29_G1)) H ∧ va_D A (WR a k h0 vi vj (fT (fT (fT (fT vF 0 g278) 2 j29_F2) 3 j29_F3) 60 f60x) (fT vG 1 j29_G1)) ∧ va_S A s.heap H locs ∧ lv_has ls 12 [(7, .int r311), (0, .ref h0), (1, .int (nI rN)), (2, .int (nI wN)), (3, .int sI), (4, .int pI), (5, .int (nI (9 * ((3 * rN) + wN)))), (6, .int (nI k7))]) (fun join3 => ?_) ?_
                      · refine lv_if_ne (tgt := 336) hx hb dX12_keep_327 (by decide) (fun c_327 => ?_) (fun c_327 => ?_)
                        · have t_327 : ((k7 : Nat) : Int) ≠ 0 := toI_ne c_327 (nI_toInt (by omega)) (by decide)
                          refine lv_iload hx hb dX12_keep_336 (lv_at hl 0 rfl) ?_
                          have hl : lv_has _ _ ([(7, .int r311), (0, .ref h0), (1, .int (nI rN)), (2, .int (nI wN)), (3, .int sI), (4, .int pI), (5, .int (nI (9 * ((3 * rN) + wN)))), (6, .int (nI k7))]) := lv_sub hl [0, 1, 2, 3, 4, 5, 6, 7] rfl
                          exact join3 _ _ _ _ ⟨r311, hv7, rfl, hP, hD, hS, hl⟩
                        · have t_327 : ((k7 : Nat) : Int) = 0 := toI_nne c_327 (nI_toInt (by omega)) (by decide)
                          refine lv_iload hx hb dX12_keep_330 (lv_at hl 0 rfl) ?_
                          refine lv_ineg hx hb dX12_keep_332 ?_
                          refine lv_goto (tgt := 338) hx hb dX12_keep_333 (by decide) ?_
                          have hl : lv_has _ _ ([(7, .int r311), (0, .ref h0), (1, .int (nI rN)), (2, .int (nI wN)), (3, .int sI), (4, .int pI), (5, .int (nI (9 * ((3 * rN) + wN)))), (6, .int (nI k7))]) := lv_sub hl [0, 1, 2, 3, 4, 5, 6, 7] rfl
                          exact join3 _ _ _ _ ⟨(-r311), (neg32 (b := (if k7 = 0 then 99999 else 99)) hv7 (by split <;> omega)).1, rfl, hP, hD, hS, hl⟩
                      · rintro H locs ls stk ⟨v8, hv8, rfl, hP, hD, hS, hl⟩
                        refine va_iast (cA := k 60) (n := 351) (f := f60x) hx hb hK hP hD hS 61 60 (WR_get 60 (by decide)) (TR_get 60 (by decide)) (vp_in_nI (show ((9 * ((3 * rN) + wN)) + k7) < 351 by omega) (by omega)) dX12_keep_338 (fun H locs hP hD hS => ?_)
                        have e9 : fT (fT (fT (fT vF 0 g278) 2 j29_F2) 3 j29_F3) 60 (upd f60x ((nI ((9 * ((3 * rN) + wN)) + k7))).toNatClampNeg v8) = fT (fT (fT (fT (fT vF 0 g278) 2 j29_F2) 3 j29_F3) 60 f60x) 60 (upd f60x ((nI ((9 * ((3 * rN) + wN)) + k7))).toNatClampNeg v8) := (fT_sm _ _ _ _).symm
                        have hP : va_P (dC, dI) vwCl (WR a k h0 vi vj (fT (fT (fT (fT vF 0 g278) 2 j29_F2) 3 j29_F3) 60 (upd f60x ((nI ((9 * ((3 * rN) + wN)) + k7))).toNatClampNeg v8)) (fT vG 1 j29_G1)) H := by rw [e9, ← WR_F 60 (by decide) _ rfl]; exact hP
                        have hD : va_D A (WR a k h0 vi vj (fT (fT (fT (fT vF 0 g278) 2 j29_F2) 3 j29_F3) 60 (upd f60x ((nI ((9 * ((3 * rN) + wN)) + k7))).toNatClampNeg v8)) (fT vG 1 j29_G1)) := by rw [e9, ← WR_F 60 (by decide) _ rfl]; exact hD
                        clear e9
                        have hW9 : WnO (upd f60x (nI ((9 * ((3 * rN) + wN)) + k7)).toNatClampNeg v8) := hW4.set (q := 3 * rN + wN) (k := k7) (by omega) (by omega) (fun x hx9 => by rw [upd_at (by omega), if_neg hx9]) (by rw [upd_at (by omega), if_pos rfl]; exact hv8)
                        refine lv_iinc (v := (nI (k7 + 1))) hx hb dX12_keep_339 hl (k := 7) rfl (nI_add k7 1) (by decide) rfl (fun ls (hl : lv_has ls _ ([(6, .int (nI (k7 + 1))), (7, .int r311), (0, .ref h0), (1, .int (nI rN)), (2, .int (nI wN)), (3, .int sI), (4, .int pI), (5, .int (nI (9 * ((3 * rN) + wN))))])) => ?_)
                        refine lv_goto (tgt := 219) hx hb dX12_keep_342 (by decide) ?_
                        have hl : lv_has _ _ ([(0, .ref h0), (1, .int (nI rN)), (2, .int (nI wN)), (3, .int sI), (4, .int pI), (5, .int (nI (9 * ((3 * rN) + wN)))), (6, .int (nI (k7 + 1)))]) := lv_sub hl [2, 3, 4, 5, 6, 7, 0] rfl
                        exact ih219_2 (k7 + 1) (upd f60x ((nI ((9 * ((3 * rN) + wN)) + k7))).toNatClampNeg v8) g278 j29_F2 j29_F3 j29_G1 (fT m5 18 ((v9).toInt)) _ _ _ (f278_0) (by omega) (by (rw [fT_ne _ _ (by omega)]); exact h195) (hW9) (fun q h1 h2 => by (rw [fT_ne _ _ (by omega)]); exact ho5 q h1 h2) (by omega) hP hD hS hl
                    · have t_304 : ¬ ((vi 21)).toInt ≤ 0 := toI_nle c_304 rfl (by decide)
                      refine W.widen (k := 0) (n := 0) (by decide +kernel) (by decide +kernel) ?_
                      have e9 : fT (fT vi 21 (vi 21)) 22 (vi 22) = vi := (fT_id _ _ (fT_ne _ _ (Nat.ne_of_beq_eq_false rfl))).trans (fT_id _ _ (rfl))
                      have hP : va_P (dC, dI) vwCl (WR a k h0 (fT (fT vi 21 (vi 21)) 22 (vi 22)) vj (fT (fT (fT (fT vF 0 g278) 2 j29_F2) 3 j29_F3) 60 f60x) (fT vG 1 j29_G1)) H := by rw [e9]; exact hP
                      have hD : va_D A (WR a k h0 (fT (fT vi 21 (vi 21)) 22 (vi 22)) vj (fT (fT (fT (fT vF 0 g278) 2 j29_F2) 3 j29_F3) 60 f60x) (fT vG 1 j29_G1)) := by rw [e9]; exact hD
                      clear e9
                      have e9 : fT (fT (fT (fT (fT vF 0 g278) 2 j29_F2) 3 j29_F3) 60 f60x) 61 (vF 61) = fT (fT (fT (fT vF 0 g278) 2 j29_F2) 3 j29_F3) 60 f60x := fT_id _ _ ((fT_ne _ _ (Nat.ne_of_beq_eq_false rfl)).trans ((fT_ne _ _ (Nat.ne_of_beq_eq_false rfl)).trans ((fT_ne _ _ (Nat.ne_of_beq_eq_false rfl)).trans (fT_ne _ _ (Nat.ne_of_beq_eq_false rfl)))))
                      have hP : va_P (dC, dI) vwCl (WR a k h0 (fT (fT vi 21 (vi 21)) 22 (vi 22)) vj (fT (fT (fT (fT (fT vF 0 g278) 2 j29_F2) 3 j29_F3) 60 f60x) 61 (vF 61)) (fT vG 1 j29_G1)) H := by rw [e9]; exact hP
                      have hD : va_D A (WR a k h0 (fT (fT vi 21 (vi 21)) 22 (vi 22)) vj (fT (fT (fT (fT (fT vF 0 g278) 2 j29_F2) 3 j29_F3) 60 f60x) 61 (vF 61)) (fT vG 1 j29_G1)) := by rw [e9]; exact hD
                      clear e9
                      exact W.vret hx hb hr (fun t9_ ht hW => ⟨⟨(g278, j29_F2, j29_F3, j29_G1, f60x, (vF 61), (vi 21), (vi 22), (fT m5 18 ((v9).toInt))), rfl, by (try dsimp only); exact ⟨f278_0, hW4, hst0, Or.inl rfl, fun q h1 h2 => by (rw [fT_ne _ _ (by omega)]); exact ho5 q h1 h2⟩, by rw [ht]; exact hP, hD⟩, hS.F ht⟩) hS.2.2 dX12_keep_307
                  · have t_289 : ¬ (r286).toInt ≤ 0 := toI_nle c_289 rfl (by decide)
                    refine lv_aload_n hx hb dX12_keep_292 rfl (lv_at hl 0 rfl) ?_
                    refine lv_bipush (v := 9) hx hb dX12_keep_293 (by decide) ?_
                    refine lv_iload hx hb dX12_keep_295 (lv_at hl 4 rfl) ?_
                    have hFc := allFree hD hS hA
                    refine va_callv (va_runV (As := [.int 9, .int pI]) (rest := []) ⟨hx, hb, hml, hown, hts⟩ (r_X12_faultAt l dC dI a k h0 vi vj (fT (fT (fT (fT vF 0 g278) 2 j29_F2) 3 j29_F3) 60 f60x) (fT vG 1 j29_G1) 9 pI (by first | assumption | decide | omega | rfl) H.size) (cwV 2 hts gwsRX12_keep_7 rfl rfl rfl hd_yX12_faultAt_RX12 (by decide +kernel)) (fz_pre (va_recv hK hP (ci := 12) (q0 := 0) rfl rfl) hP hK hD) rfl rfl hl.1 rfl (lv_room (Nat.le_of_ble_eq_true rfl)) dX12_keep_297 (by decide +kernel)) hS (fun q _ h => hFc q h) hFc (fun u t9_ H locs ht hvm hw9 hB9 hz1 hk1 hS => ?_)
                    obtain ⟨s2297, p2297⟩ := u
                    try dsimp only at hw9 hB9
                    have hP : va_P (dC, dI) vwCl (WR a k h0 (fT (fT vi 21 s2297) 22 p2297) vj (fT (fT (fT (fT vF 0 g278) 2 j29_F2) 3 j29_F3) 60 f60x) (fT vG 1 j29_G1)) H := fz_P ht hB9.1
                    have hD : va_D A (WR a k h0 (fT (fT vi 21 s2297) 22 p2297) vj (fT (fT (fT (fT vF 0 g278) 2 j29_F2) 3 j29_F3) 60 f60x) (fT vG 1 j29_G1)) := hB9.2.weaken (fun _ q _ h => hFc q.1 h)
                    obtain ⟨f297_0, f297_1⟩ := hw9
                    have f297_0 : (0 < (vi 21).toInt ∧ s2297 = (vi 21) ∧ p2297 = (vi 22)) ∨ (¬ 0 < (vi 21).toInt ∧ s2297 = 9 ∧ p2297 = pI) := f297_0
                    refine lv_aload_n hx hb dX12_keep_300 rfl (lv_at hl 0 rfl) ?_
                    refine va_get (D := (dC, dI)) (ci := 12) (v := .int s2297) (C := RX12) (T := TX12) (N := 163) (fs := fM (vS a (fT (fT vi 21 s2297) 22 p2297) vj)) hx hb hts iwsRX12_keep_in12 hown hK hP 0 rfl rfl 21 (by decide) (hts (.fieldLink RX12 515 "OptimaWorksModel" "stop" "I") (by decide +kernel)) (fun _ h9 => h9) rfl dX12_keep_301 ?_
                    refine lv_if_le (tgt := 308) hx hb dX12_keep_304 (by decide) (fun c9 => False.elim (by have t9 : (s2297).toInt ≤ 0 := toI_le c9 rfl (by decide); omega)) (fun c_304 => ?_)
                    have t_304 : ¬ (s2297).toInt ≤ 0 := toI_nle c_304 rfl (by decide)
                    refine W.widen (k := 0) (n := 0) (by decide +kernel) (by decide +kernel) ?_
                    have e9 : fT (fT (fT (fT (fT vF 0 g278) 2 j29_F2) 3 j29_F3) 60 f60x) 61 (vF 61) = fT (fT (fT (fT vF 0 g278) 2 j29_F2) 3 j29_F3) 60 f60x := fT_id _ _ ((fT_ne _ _ (Nat.ne_of_beq_eq_false rfl)).trans ((fT_ne _ _ (Nat.ne_of_beq_eq_false rfl)).trans ((fT_ne _ _ (Nat.ne_of_beq_eq_false rfl)).trans (fT_ne _ _ (Nat.ne_of_beq_eq_false rfl)))))
                    have hP : va_P (dC, dI) vwCl (WR a k h0 (fT (fT vi 21 s2297) 22 p2297) vj (fT (fT (fT (fT (fT vF 0 g278) 2 j29_F2) 3 j29_F3) 60 f60x) 61 (vF 61)) (fT vG 1 j29_G1)) H := by rw [e9]; exact hP
                    have hD : va_D A (WR a k h0 (fT (fT vi 21 s2297) 22 p2297) vj (fT (fT (fT (fT (fT vF 0 g278) 2 j29_F2) 3 j29_F3) 60 f60x) 61 (vF 61)) (fT vG 1 j29_G1)) := by rw [e9]; exact hD
                    clear e9
                    exact W.vret hx hb hr (fun t9_ ht hW => ⟨⟨(g278, j29_F2, j29_F3, j29_G1, f60x, (vF 61), s2297, p2297, (fT m5 18 ((v9).toInt))), rfl, by (try dsimp only); exact ⟨f278_0, hW4, by (have h9 := f297_1); omega, Or.inr f297_1, fun q h1 h2 => by (rw [fT_ne _ _ (by omega)]); exact ho5 q h1 h2⟩, by rw [ht]; exact hP, hD⟩, hS.F ht⟩) hS.2.2 dX12_keep_307
        · have t_183 : ¬ ((k6 : Nat) : Int) ≥ 9 := toI_nge c_183 (nI_toInt (by omega)) (by decide)
          refine lv_aload_n hx hb dX12_keep_186 rfl (lv_at hl 0 rfl) ?_
          refine lv_iload hx hb dX12_keep_187 (lv_at hl 6 rfl) ?_
          have hFc := allFree hD hS hA
          refine va_callv (va_runV (As := [.int (nI k6)]) (rest := []) ⟨hx, hb, hml, hown, hts⟩ (r_X12_whole1 l dC dI a k h0 vi vj (fT (fT (fT vF 0 x24_F0) 2 x24_F2) 3 x24_F3) (fT vG 1 x24_G1) k6 m3 hB3 (by first | assumption | decide | omega | rfl) (by first | assumption | decide | omega | rfl) (by first | assumption | decide | omega | rfl) (by rw [h193]; exact h19c) H.size) (cwV 1 hts gwsRX12_keep_1 rfl rfl rfl hd_yX12_whole1_RX12 (by decide +kernel)) (fz_pre (va_recv hK hP (ci := 12) (q0 := 0) rfl rfl) hP hK hD) rfl rfl hl.1 rfl (lv_room (Nat.le_of_ble_eq_true rfl)) dX12_keep_189 (by decide +kernel)) hS (fun q _ h => hFc q h) hFc (fun u t9_ H locs ht hvm hw9 hB9 hz1 hk1 hS => ?_)
          obtain ⟨g189, f2w189, f3w189, gs189, m2189⟩ := u
          try dsimp only at hw9 hB9
          have hP : va_P (dC, dI) vwCl (WR a k h0 vi vj (fT (fT (fT (fT (fT (fT vF 0 x24_F0) 2 x24_F2) 3 x24_F3) 0 g189) 2 f2w189) 3 f3w189) (fT (fT vG 1 x24_G1) 1 gs189)) H := fz_P ht hB9.1
          have hD : va_D A (WR a k h0 vi vj (fT (fT (fT (fT (fT (fT vF 0 x24_F0) 2 x24_F2) 3 x24_F3) 0 g189) 2 f2w189) 3 f3w189) (fT (fT vG 1 x24_G1) 1 gs189)) := hB9.2.weaken (fun _ q _ h => hFc q.1 h)
          have e9 : fT (fT (fT vF 0 g189) 2 f2w189) 3 f3w189 = fT (fT (fT (fT (fT (fT vF 0 x24_F0) 2 x24_F2) 3 x24_F3) 0 g189) 2 f2w189) 3 f3w189 := ((congrArg (fun g9 => fT (fT g9 2 f2w189) 3 f3w189) ((fT_sw _ _ _ (Nat.ne_of_beq_eq_false rfl)).trans (congrArg (fun g9 => fT g9 3 x24_F3) ((fT_sw _ _ _ (Nat.ne_of_beq_eq_false rfl)).trans (congrArg (fun g9 => fT g9 2 x24_F2) (fT_sm _ _ _ _)))))).trans ((congrArg (fun g9 => fT g9 3 f3w189) ((fT_sw _ _ _ (Nat.ne_of_beq_eq_false rfl)).trans (congrArg (fun g9 => fT g9 3 x24_F3) (fT_sm _ _ _ _)))).trans (fT_sm _ _ _ _))).symm
          rw [← e9] at hP hD
          clear e9
          have e9 : fT vG 1 gs189 = fT (fT vG 1 x24_G1) 1 gs189 := (fT_sm _ _ _ _).symm
          rw [← e9] at hP hD
          clear e9
          have hP : va_P (dC, dI) vwCl (WR a k h0 vi vj (fT (fT (fT vF 0 g189) 2 f2w189) 3 f3w189) (fT vG 1 gs189)) H := hP
          have hD : va_D A (WR a k h0 vi vj (fT (fT (fT vF 0 g189) 2 f2w189) 3 f3w189) (fT vG 1 gs189)) := hD
          obtain ⟨f189_0, f189_1⟩ := hw9
          refine lv_aload_n hx hb dX12_keep_192 rfl (lv_at hl 0 rfl) ?_
          refine lv_bipush (v := 12) hx hb dX12_keep_193 (by decide) ?_
          refine lv_bipush (v := 16) hx hb dX12_keep_195 (by decide) ?_
          refine lv_bipush (v := 17) hx hb dX12_keep_197 (by decide) ?_
          have hFc := allFree hD hS hA
          refine va_callv (va_runV (As := [.int 12, .int 16, .int 17]) (rest := []) ⟨hx, hb, hml, hown, hts⟩ (r_X12_common l dC dI a k h0 vi vj (fT (fT (fT vF 0 g189) 2 f2w189) 3 f3w189) (fT vG 1 gs189) 12 16 17 m2189 f189_0 (m3 16) (m2189 17) (by rw [f189_1 _ (by omega) (by omega)]) rfl (by first | assumption | decide | omega | rfl) (by first | assumption | decide | omega | rfl) (by first | assumption | decide | omega | rfl) (by first | assumption | decide | omega | rfl) (by first | assumption | decide | omega | rfl) (by first | assumption | decide | omega | rfl) H.size) (cwV 3 hts gwsRX12_keep_8 rfl rfl rfl hd_yX12_common_RX12 (by decide +kernel)) (fz_pre (va_recv hK hP (ci := 12) (q0 := 0) rfl rfl) hP hK hD) rfl rfl hl.1 rfl (lv_room (Nat.le_of_ble_eq_true rfl)) dX12_keep_199 (by decide +kernel)) hS (fun q _ h => hFc q h) hFc (fun u t9_ H locs ht hvm hw9 hB9 hz1 hk1 hS => ?_)
          obtain ⟨g199, f2w199, f3w199, gs199, m2199⟩ := u
          try dsimp only at hw9 hB9
          have hP : va_P (dC, dI) vwCl (WR a k h0 vi vj (fT (fT (fT (fT (fT (fT vF 0 g189) 2 f2w189) 3 f3w189) 0 g199) 2 f2w199) 3 f3w199) (fT (fT vG 1 gs189) 1 gs199)) H := fz_P ht hB9.1
          have hD : va_D A (WR a k h0 vi vj (fT (fT (fT (fT (fT (fT vF 0 g189) 2 f2w189) 3 f3w189) 0 g199) 2 f2w199) 3 f3w199) (fT (fT vG 1 gs189) 1 gs199)) := hB9.2.weaken (fun _ q _ h => hFc q.1 h)
          have e9 : fT (fT (fT vF 0 g199) 2 f2w199) 3 f3w199 = fT (fT (fT (fT (fT (fT vF 0 g189) 2 f2w189) 3 f3w189) 0 g199) 2 f2w199) 3 f3w199 := ((congrArg (fun g9 => fT (fT g9 2 f2w199) 3 f3w199) ((fT_sw _ _ _ (Nat.ne_of_beq_eq_false rfl)).trans (congrArg (fun g9 => fT g9 3 f3w189) ((fT_sw _ _ _ (Nat.ne_of_beq_eq_false rfl)).trans (congrArg (fun g9 => fT g9 2 f2w189) (fT_sm _ _ _ _)))))).trans ((congrArg (fun g9 => fT g9 3 f3w199) ((fT_sw _ _ _ (Nat.ne_of_beq_eq_false rfl)).trans (congrArg (fun g9 => fT g9 3 f3w189) (fT_sm _ _ _ _)))).trans (fT_sm _ _ _ _))).symm
          rw [← e9] at hP hD
          clear e9
          have e9 : fT vG 1 gs199 = fT (fT vG 1 gs189) 1 gs199 := (fT_sm _ _ _ _).symm
          rw [← e9] at hP hD
          clear e9
          have hP : va_P (dC, dI) vwCl (WR a k h0 vi vj (fT (fT (fT vF 0 g199) 2 f2w199) 3 f3w199) (fT vG 1 gs199)) H := hP
          have hD : va_D A (WR a k h0 vi vj (fT (fT (fT vF 0 g199) 2 f2w199) 3 f3w199) (fT vG 1 gs199)) := hD
          obtain ⟨f199_0, f199_1, f199_2⟩ := hw9
          refine lv_aload_n hx hb dX12_keep_202 rfl (lv_at hl 0 rfl) ?_
          refine lv_bipush (v := 16) hx hb dX12_keep_203 (by decide) ?_
          refine lv_bipush (v := 12) hx hb dX12_keep_205 (by decide) ?_
          have hFc := allFree hD hS hA
          refine va_callv (va_runV (As := [.int 16, .int 12]) (rest := []) ⟨hx, hb, hml, hown, hts⟩ (b_X12_copy l dC dI a k h0 vi vj (fT (fT (fT vF 0 g199) 2 f2w199) 3 f3w199) (fT vG 1 gs199) 16 12 m2199 f199_0 ((Int.gcd (m3 16) (m2189 17) : Nat) : Int) (by rw [f199_1]) (by first | assumption | decide | omega | rfl) (by first | assumption | decide | omega | rfl) (by first | assumption | decide | omega | rfl) H.size) (cwV 2 hts gwsRX12_keep_4 rfl rfl rfl hd_yX12_copy_RX12 (by decide +kernel)) (fz_pre (va_recv hK hP (ci := 12) (q0 := 0) rfl rfl) hP hK hD) rfl rfl hl.1 rfl (lv_room (Nat.le_of_ble_eq_true rfl)) dX12_keep_207 (by decide +kernel)) hS (fun q _ h => hFc q h) hFc (fun u t9_ H locs ht hvm hw9 hB9 hz1 hk1 hS => ?_)
          obtain ⟨g207, hwit207⟩ : ∃ w9, w9 = u := ⟨u, rfl⟩
          subst hwit207
          have hP : va_P (dC, dI) vwCl (WR a k h0 vi vj (fT (fT (fT (fT vF 0 g199) 2 f2w199) 3 f3w199) 0 g207) (fT vG 1 gs199)) H := fz_P ht hB9.1
          have hD : va_D A (WR a k h0 vi vj (fT (fT (fT (fT vF 0 g199) 2 f2w199) 3 f3w199) 0 g207) (fT vG 1 gs199)) := hB9.2.weaken (fun _ q _ h => hFc q.1 h)
          have e9 : fT (fT (fT vF 0 g207) 2 f2w199) 3 f3w199 = fT (fT (fT (fT vF 0 g199) 2 f2w199) 3 f3w199) 0 g207 := ((fT_sw _ _ _ (Nat.ne_of_beq_eq_false rfl)).trans (congrArg (fun g9 => fT g9 3 f3w199) ((fT_sw _ _ _ (Nat.ne_of_beq_eq_false rfl)).trans (congrArg (fun g9 => fT g9 2 f2w199) (fT_sm _ _ _ _))))).symm
          rw [← e9] at hP hD
          clear e9
          have hP : va_P (dC, dI) vwCl (WR a k h0 vi vj (fT (fT (fT vF 0 g207) 2 f2w199) 3 f3w199) (fT vG 1 gs199)) H := hP
          have hD : va_D A (WR a k h0 vi vj (fT (fT (fT vF 0 g207) 2 f2w199) 3 f3w199) (fT vG 1 gs199)) := hD
          have f207_0 := hw9
          try dsimp only at f207_0
          refine lv_iinc (v := (nI (k6 + 1))) hx hb dX12_keep_210 hl (k := 6) rfl (nI_add k6 1) (by decide) rfl (fun ls (hl : lv_has ls _ ([(6, .int (nI (k6 + 1))), (0, .ref h0), (1, .int (nI rN)), (2, .int (nI wN)), (3, .int sI), (4, .int pI), (5, .int (nI (9 * ((3 * rN) + wN))))])) => ?_)
          refine lv_goto (tgt := 179) hx hb dX12_keep_213 (by decide) ?_
          have hl : lv_has _ _ ([(0, .ref h0), (1, .int (nI rN)), (2, .int (nI wN)), (3, .int sI), (4, .int pI), (5, .int (nI (9 * ((3 * rN) + wN)))), (6, .int (nI (k6 + 1)))]) := lv_sub hl [1, 2, 3, 4, 5, 6, 0] rfl
          exact ih179_1 (k6 + 1) g207 f2w199 f3w199 gs199 (fT m2199 16 ((Int.gcd (m3 16) (m2189 17) : Nat) : Int)) _ _ _ (f207_0) (by omega) (by (rw [fT_ne _ _ (by omega), f199_2 _ (by omega) (by omega), f189_1 _ (by omega) (by omega)]); exact h193) (fun q h1 h2 => by (rw [fT_ne _ _ (by omega), f199_2 _ (by omega) (by omega), f189_1 _ (by omega) (by omega)]); exact ho3 q h1 h2) (by omega) hP hD hS hl
    · have t_14 : ¬ ((k5 : Nat) : Int) ≥ 9 := toI_nge c_14 (nI_toInt (by omega)) (by decide)
      have r0 := hR0 k5 (by omega)
      have r1 := hR1 k5 (by omega)
      rw [Nat.mul_zero, Nat.zero_add] at r0
      rw [Nat.mul_one] at r1
      have b1 : ((vF 49 k5).toInt * (vF 50 (9 + k5)).toInt).natAbs ≤ 2000000 * 2000000 := mul_box (by omega) (by omega)
      have b2 : ((vF 49 (9 + k5)).toInt * (vF 50 k5).toInt).natAbs ≤ 2000000 * 2000000 := mul_box (by omega) (by omega)
      have b3 : ((vF 50 k5).toInt * (vF 50 (9 + k5)).toInt).natAbs ≤ 2000000 * 2000000 := mul_box (by omega) (by omega)
      have b4 : 0 < (vF 50 k5).toInt * (vF 50 (9 + k5)).toInt := Int.mul_pos (by omega) (by omega)
      have m1 := mulI (x := (vF 49 k5)) (y := (vF 50 (9 + k5)))
      have m2 := mulI (x := (vF 49 (9 + k5))) (y := (vF 50 k5))
      have m3 := mulI (x := (vF 50 k5)) (y := (vF 50 (9 + k5)))
      refine lv_aload_n hx hb dX12_keep_17 rfl (lv_at hl 0 rfl) ?_
      refine va_get (D := (dC, dI)) (ci := 12) (v := .ref (a 49)) (C := RX12) (T := TX12) (N := 163) (fs := fM (vS a vi vj)) hx hb hts iwsRX12_keep_in12 hown hK hP 0 rfl rfl 78 (by decide) (hts (.fieldLink RX12 170 "OptimaWorksModel" "top" "[I") (by decide +kernel)) (fun _ h9 => h9) rfl dX12_keep_18 ?_
      refine lv_iload hx hb dX12_keep_21 (lv_at hl 5 rfl) ?_
      refine va_iald (cA := k 49) (n := 900) (f := (vF 49)) hx hb hK hP 50 49 (WR_get 49 (by decide)) (TR_get 49 (by decide)) (vp_in_nI (show k5 < 900 by omega) (by omega)) dX12_keep_23 ?_
      refine lv_topi (fun y7 hy7 => ?_)
      obtain rfl : ((vF 49) k5) = y7 := (hy7.trans (by rw [nI_clamp (by omega)])).symm
      refine lv_i2l hx hb dX12_keep_24 rfl ?_
      refine lv_aload_n hx hb dX12_keep_25 rfl (lv_at hl 0 rfl) ?_
      refine va_get (D := (dC, dI)) (ci := 12) (v := .ref (a 50)) (C := RX12) (T := TX12) (N := 163) (fs := fM (vS a vi vj)) hx hb hts iwsRX12_keep_in12 hown hK hP 0 rfl rfl 79 (by decide) (hts (.fieldLink RX12 173 "OptimaWorksModel" "under" "[I") (by decide +kernel)) (fun _ h9 => h9) rfl dX12_keep_26 ?_
      refine lv_bipush (v := 9) hx hb dX12_keep_29 (by decide) ?_
      refine lv_iload hx hb dX12_keep_31 (lv_at hl 5 rfl) ?_
      refine lv_iadd hx hb dX12_keep_33 ?_
      refine lv_topi (fun y8 hy8 => ?_)
      obtain rfl : (nI (9 + k5)) = y8 := (hy8.trans (nI_add 9 k5)).symm
      refine va_iald (cA := k 50) (n := 900) (f := (vF 50)) hx hb hK hP 51 50 (WR_get 50 (by decide)) (TR_get 50 (by decide)) (vp_in_nI (show (9 + k5) < 900 by omega) (by omega)) dX12_keep_34 ?_
      refine lv_topi (fun y9 hy9 => ?_)
      obtain rfl : ((vF 50) (9 + k5)) = y9 := (hy9.trans (by rw [nI_clamp (by omega)])).symm
      refine lv_i2l hx hb dX12_keep_35 rfl ?_
      refine lv_lmul hx hb dX12_keep_36 ?_
      refine lv_aload_n hx hb dX12_keep_37 rfl (lv_at hl 0 rfl) ?_
      refine va_get (D := (dC, dI)) (ci := 12) (v := .ref (a 49)) (C := RX12) (T := TX12) (N := 163) (fs := fM (vS a vi vj)) hx hb hts iwsRX12_keep_in12 hown hK hP 0 rfl rfl 78 (by decide) (hts (.fieldLink RX12 170 "OptimaWorksModel" "top" "[I") (by decide +kernel)) (fun _ h9 => h9) rfl dX12_keep_38 ?_
      refine lv_bipush (v := 9) hx hb dX12_keep_41 (by decide) ?_
      refine lv_iload hx hb dX12_keep_43 (lv_at hl 5 rfl) ?_
      refine lv_iadd hx hb dX12_keep_45 ?_
      refine lv_topi (fun y10 hy10 => ?_)
      obtain rfl : (nI (9 + k5)) = y10 := (hy10.trans (nI_add 9 k5)).symm
      refine va_iald (cA := k 49) (n := 900) (f := (vF 49)) hx hb hK hP 50 49 (WR_get 49 (by decide)) (TR_get 49 (by decide)) (vp_in_nI (show (9 + k5) < 900 by omega) (by omega)) dX12_keep_46 ?_
      refine lv_topi (fun y11 hy11 => ?_)
      obtain rfl : ((vF 49) (9 + k5)) = y11 := (hy11.trans (by rw [nI_clamp (by omega)])).symm
      refine lv_i2l hx hb dX12_keep_47 rfl ?_
      refine lv_aload_n hx hb dX12_keep_48 rfl (lv_at hl 0 rfl) ?_
      refine va_get (D := (dC, dI)) (ci := 12) (v := .ref (a 50)) (C := RX12) (T := TX12) (N := 163) (fs := fM (vS a vi vj)) hx hb hts iwsRX12_keep_in12 hown hK hP 0 rfl rfl 79 (by decide) (hts (.fieldLink RX12 173 "OptimaWorksModel" "under" "[I") (by decide +kernel)) (fun _ h9 => h9) rfl dX12_keep_49 ?_
      refine lv_iload hx hb dX12_keep_52 (lv_at hl 5 rfl) ?_
      refine va_iald (cA := k 50) (n := 900) (f := (vF 50)) hx hb hK hP 51 50 (WR_get 50 (by decide)) (TR_get 50 (by decide)) (vp_in_nI (show k5 < 900 by omega) (by omega)) dX12_keep_54 ?_
      refine lv_topi (fun y12 hy12 => ?_)
      obtain rfl : ((vF 50) k5) = y12 := (hy12.trans (by rw [nI_clamp (by omega)])).symm
      refine lv_i2l hx hb dX12_keep_55 rfl ?_
      refine lv_lmul hx hb dX12_keep_56 ?_
      refine lv_lsub hx hb dX12_keep_57 ?_
      obtain ⟨nL, hnL⟩ : ∃ nL, nL = ((((((vF 49) k5)).toInt64 * (((vF 50) (9 + k5))).toInt64) - ((((vF 49) (9 + k5))).toInt64 * (((vF 50) k5)).toInt64)) : Int64) := ⟨_, rfl⟩
      have en : nL.toInt = (vF 49 k5).toInt * (vF 50 (9 + k5)).toInt - (vF 49 (9 + k5)).toInt * (vF 50 k5).toInt := by rw [hnL, sub64 (by omega) (by omega), m1, m2]
      refine lv_topl (fun y13 hy13 => ?_)
      obtain rfl : nL = y13 := (hy13.trans (hnL.symm)).symm
      refine lv_lstore hx hb dX12_keep_58 hl (by decide) rfl (fun ls (hl : lv_has ls _ ([(6, .long nL), (0, .ref h0), (1, .int (nI rN)), (2, .int (nI wN)), (3, .int sI), (4, .int pI), (5, .int (nI k5))])) => ?_)
      refine lv_aload_n hx hb dX12_keep_60 rfl (lv_at hl 1 rfl) ?_
      refine va_get (D := (dC, dI)) (ci := 12) (v := .ref (a 50)) (C := RX12) (T := TX12) (N := 163) (fs := fM (vS a vi vj)) hx hb hts iwsRX12_keep_in12 hown hK hP 0 rfl rfl 79 (by decide) (hts (.fieldLink RX12 173 "OptimaWorksModel" "under" "[I") (by decide +kernel)) (fun _ h9 => h9) rfl dX12_keep_61 ?_
      refine lv_iload hx hb dX12_keep_64 (lv_at hl 6 rfl) ?_
      refine va_iald (cA := k 50) (n := 900) (f := (vF 50)) hx hb hK hP 51 50 (WR_get 50 (by decide)) (TR_get 50 (by decide)) (vp_in_nI (show k5 < 900 by omega) (by omega)) dX12_keep_66 ?_
      refine lv_topi (fun y14 hy14 => ?_)
      obtain rfl : ((vF 50) k5) = y14 := (hy14.trans (by rw [nI_clamp (by omega)])).symm
      refine lv_i2l hx hb dX12_keep_67 rfl ?_
      refine lv_aload_n hx hb dX12_keep_68 rfl (lv_at hl 1 rfl) ?_
      refine va_get (D := (dC, dI)) (ci := 12) (v := .ref (a 50)) (C := RX12) (T := TX12) (N := 163) (fs := fM (vS a vi vj)) hx hb hts iwsRX12_keep_in12 hown hK hP 0 rfl rfl 79 (by decide) (hts (.fieldLink RX12 173 "OptimaWorksModel" "under" "[I") (by decide +kernel)) (fun _ h9 => h9) rfl dX12_keep_69 ?_
      refine lv_bipush (v := 9) hx hb dX12_keep_72 (by decide) ?_
      refine lv_iload hx hb dX12_keep_74 (lv_at hl 6 rfl) ?_
      refine lv_iadd hx hb dX12_keep_76 ?_
      refine lv_topi (fun y15 hy15 => ?_)
      obtain rfl : (nI (9 + k5)) = y15 := (hy15.trans (nI_add 9 k5)).symm
      refine va_iald (cA := k 50) (n := 900) (f := (vF 50)) hx hb hK hP 51 50 (WR_get 50 (by decide)) (TR_get 50 (by decide)) (vp_in_nI (show (9 + k5) < 900 by omega) (by omega)) dX12_keep_77 ?_
      refine lv_topi (fun y16 hy16 => ?_)
      obtain rfl : ((vF 50) (9 + k5)) = y16 := (hy16.trans (by rw [nI_clamp (by omega)])).symm
      refine lv_i2l hx hb dX12_keep_78 rfl ?_
      refine lv_lmul hx hb dX12_keep_79 ?_
      obtain ⟨dL, hdL⟩ : ∃ dL, dL = (((((vF 50) k5)).toInt64 * (((vF 50) (9 + k5))).toInt64) : Int64) := ⟨_, rfl⟩
      have ed : dL.toInt = (vF 50 k5).toInt * (vF 50 (9 + k5)).toInt := by rw [hdL, m3]
      refine lv_topl (fun y17 hy17 => ?_)
      obtain rfl : dL = y17 := (hy17.trans (hdL.symm)).symm
      refine lv_lstore hx hb dX12_keep_80 hl (by decide) rfl (fun ls (hl : lv_has ls _ ([(8, .long dL), (6, .long nL), (0, .ref h0), (1, .int (nI rN)), (2, .int (nI wN)), (3, .int sI), (4, .int pI), (5, .int (nI k5))])) => ?_)
      refine lv_lload hx hb dX12_keep_82 (lv_at hl 1 rfl) ?_
      refine lv_lload hx hb dX12_keep_84 (lv_at hl 0 rfl) ?_
      have hFc := noneFree hS hA
      refine va_calll (va_runS (As := [.long nL, .long dL]) (rest := []) ⟨hx, hb, hml, hown, hts⟩ (r_X12_common1 l dC dI nL dL (by omega) (by omega) H.size) (va_cwS 2 hts gwsRX12_keep_9 rfl rfl rfl (by decide +kernel) ⟨by decide +kernel, by decide +kernel⟩) ⟨fun a U g mk q => by obtain ⟨q0, q1, qP, qK, qD⟩ := q; exact ⟨q0, q1, qP, va_K.moved (u := U) (U := U.calling g mk a) (Vm.Alike.refl U.vm) qK, qD⟩, fun U hU9 hW => ⟨rfl, by rw [hU9], by rw [hU9]; exact nilP, va_K.moved hW.alike (hK.sub (tys' := []) [] rfl), nilD⟩⟩ rfl rfl hl.1 rfl (lv_room (Nat.le_of_ble_eq_true rfl)) dX12_keep_86 (by decide +kernel)) hS (fun q _ h => hFc q h) hFc (fun r86 u t9_ H1 locs ht hvm hw9 hB9 hz1 hk1 hS => ?_)
      have hP := keepAll hP hk1
      clear hB9
      generalize H1 = H at hP hS ⊢
      have hP : va_P (dC, dI) vwCl (WR a k h0 vi vj (fT (fT (fT vF 0 x16_F0) 2 x16_F2) 3 x16_F3) (fT vG 1 x16_G1)) H := hP
      have hD : va_D A (WR a k h0 vi vj (fT (fT (fT vF 0 x16_F0) 2 x16_F2) 3 x16_F3) (fT vG 1 x16_G1)) := hD
      have f86_0 := hw9
      try dsimp only at f86_0
      refine lv_lstore hx hb dX12_keep_89 hl (by decide) rfl (fun ls (hl : lv_has ls _ ([(10, .long r86), (8, .long dL), (6, .long nL), (0, .ref h0), (1, .int (nI rN)), (2, .int (nI wN)), (3, .int sI), (4, .int pI), (5, .int (nI k5))])) => ?_)
      have hgp := gcd_pos (x := nL.toInt) (y := dL.toInt) (by omega)
      have hgl := gcd_le (x := nL.toInt) (y := dL.toInt) (by omega)
      have eg := f86_0
      refine lv_aload_n hx hb dX12_keep_91 rfl (lv_at hl 3 rfl) ?_
      refine lv_bipush (v := 10) hx hb dX12_keep_92 (by decide) ?_
      refine lv_lload hx hb dX12_keep_94 (lv_at hl 2 rfl) ?_
      refine lv_lload hx hb dX12_keep_96 (lv_at hl 0 rfl) ?_
      refine lv_ldiv hx hb dX12_keep_98 (by exact ne64 (by omega)) ?_
      have e10 : (nL / r86).toInt = nL.toInt.tdiv r86.toInt := (div64i (by omega) (by omega)).1
      have s10 := sh_le nL.toInt r86.toInt
      have hFc := allFree hD hS hA
      refine va_callv (va_runV (As := [.int 10, .long (nL / r86)]) (rest := []) ⟨hx, hb, hml, hown, hts⟩ (b_X12_put l dC dI a k h0 vi vj (fT (fT (fT vF 0 x16_F0) 2 x16_F2) 3 x16_F3) (fT vG 1 x16_G1) 10 (nL / r86) (nL.toInt.tdiv r86.toInt) mK hBK (by first | assumption | decide | omega | rfl) (e10) (by omega) H.size) (cwV 2 hts gwsRX12_keep_0 rfl rfl rfl hd_yX12_put_RX12 (by decide +kernel)) (fz_pre (va_recv hK hP (ci := 12) (q0 := 0) rfl rfl) hP hK hD) rfl rfl hl.1 rfl (lv_room (Nat.le_of_ble_eq_true rfl)) dX12_keep_99 (by decide +kernel)) hS (fun q _ h => hFc q h) hFc (fun u t9_ H locs ht hvm hw9 hB9 hz1 hk1 hS => ?_)
      obtain ⟨g99, hwit99⟩ : ∃ w9, w9 = u := ⟨u, rfl⟩
      subst hwit99
      have hP : va_P (dC, dI) vwCl (WR a k h0 vi vj (fT (fT (fT (fT vF 0 x16_F0) 2 x16_F2) 3 x16_F3) 0 g99) (fT vG 1 x16_G1)) H := fz_P ht hB9.1
      have hD : va_D A (WR a k h0 vi vj (fT (fT (fT (fT vF 0 x16_F0) 2 x16_F2) 3 x16_F3) 0 g99) (fT vG 1 x16_G1)) := hB9.2.weaken (fun _ q _ h => hFc q.1 h)
      have e9 : fT (fT (fT vF 0 g99) 2 x16_F2) 3 x16_F3 = fT (fT (fT (fT vF 0 x16_F0) 2 x16_F2) 3 x16_F3) 0 g99 := ((fT_sw _ _ _ (Nat.ne_of_beq_eq_false rfl)).trans (congrArg (fun g9 => fT g9 3 x16_F3) ((fT_sw _ _ _ (Nat.ne_of_beq_eq_false rfl)).trans (congrArg (fun g9 => fT g9 2 x16_F2) (fT_sm _ _ _ _))))).symm
      rw [← e9] at hP hD
      clear e9
      have hP : va_P (dC, dI) vwCl (WR a k h0 vi vj (fT (fT (fT vF 0 g99) 2 x16_F2) 3 x16_F3) (fT vG 1 x16_G1)) H := hP
      have hD : va_D A (WR a k h0 vi vj (fT (fT (fT vF 0 g99) 2 x16_F2) 3 x16_F3) (fT vG 1 x16_G1)) := hD
      have f99_0 := hw9
      try dsimp only at f99_0
      refine lv_aload_n hx hb dX12_keep_102 rfl (lv_at hl 3 rfl) ?_
      refine lv_bipush (v := 11) hx hb dX12_keep_103 (by decide) ?_
      refine lv_lload hx hb dX12_keep_105 (lv_at hl 1 rfl) ?_
      refine lv_lload hx hb dX12_keep_107 (lv_at hl 0 rfl) ?_
      refine lv_ldiv hx hb dX12_keep_109 (by exact ne64 (by omega)) ?_
      have e11 : (dL / r86).toInt = dL.toInt.tdiv r86.toInt := (div64i (by omega) (by omega)).1
      have s11 := sh_le dL.toInt r86.toInt
      have p11 : 0 < dL.toInt.tdiv r86.toInt := tdiv_pos (by omega) (by omega) (by omega)
      obtain ⟨x11, hx11⟩ : ∃ x11, x11 = dL.toInt.tdiv r86.toInt := ⟨_, rfl⟩
      have hx11p : 0 < x11 := by rw [hx11]; exact p11
      have hx11b : x11.natAbs ≤ 4000000000000 := by rw [hx11]; omega
      have hg1 := gcd_pos (x := x19) (y := x11) hx11p
      have hg2 := gcd_le (x := x19) (y := x11) hx11p
      have hp42 := p42_le k5 (by omega)
      have hFc := allFree hD hS hA
      refine va_callv (va_runV (As := [.int 11, .long (dL / r86)]) (rest := []) ⟨hx, hb, hml, hown, hts⟩ (b_X12_put l dC dI a k h0 vi vj (fT (fT (fT vF 0 g99) 2 x16_F2) 3 x16_F3) (fT vG 1 x16_G1) 11 (dL / r86) x11 (fT mK 10 (nL.toInt.tdiv r86.toInt)) f99_0 (by first | assumption | decide | omega | rfl) (e11.trans hx11.symm) (by omega) H.size) (cwV 2 hts gwsRX12_keep_0 rfl rfl rfl hd_yX12_put_RX12 (by decide +kernel)) (fz_pre (va_recv hK hP (ci := 12) (q0 := 0) rfl rfl) hP hK hD) rfl rfl hl.1 rfl (lv_room (Nat.le_of_ble_eq_true rfl)) dX12_keep_110 (by decide +kernel)) hS (fun q _ h => hFc q h) hFc (fun u t9_ H locs ht hvm hw9 hB9 hz1 hk1 hS => ?_)
      obtain ⟨g110, hwit110⟩ : ∃ w9, w9 = u := ⟨u, rfl⟩
      subst hwit110
      have hP : va_P (dC, dI) vwCl (WR a k h0 vi vj (fT (fT (fT (fT vF 0 g99) 2 x16_F2) 3 x16_F3) 0 g110) (fT vG 1 x16_G1)) H := fz_P ht hB9.1
      have hD : va_D A (WR a k h0 vi vj (fT (fT (fT (fT vF 0 g99) 2 x16_F2) 3 x16_F3) 0 g110) (fT vG 1 x16_G1)) := hB9.2.weaken (fun _ q _ h => hFc q.1 h)
      have e9 : fT (fT (fT vF 0 g110) 2 x16_F2) 3 x16_F3 = fT (fT (fT (fT vF 0 g99) 2 x16_F2) 3 x16_F3) 0 g110 := ((fT_sw _ _ _ (Nat.ne_of_beq_eq_false rfl)).trans (congrArg (fun g9 => fT g9 3 x16_F3) ((fT_sw _ _ _ (Nat.ne_of_beq_eq_false rfl)).trans (congrArg (fun g9 => fT g9 2 x16_F2) (fT_sm _ _ _ _))))).symm
      rw [← e9] at hP hD
      clear e9
      have hP : va_P (dC, dI) vwCl (WR a k h0 vi vj (fT (fT (fT vF 0 g110) 2 x16_F2) 3 x16_F3) (fT vG 1 x16_G1)) H := hP
      have hD : va_D A (WR a k h0 vi vj (fT (fT (fT vF 0 g110) 2 x16_F2) 3 x16_F3) (fT vG 1 x16_G1)) := hD
      have f110_0 := hw9
      try dsimp only at f110_0
      refine lv_aload_n hx hb dX12_keep_113 rfl (lv_at hl 3 rfl) ?_
      refine lv_bipush (v := 12) hx hb dX12_keep_114 (by decide) ?_
      refine lv_bipush (v := 19) hx hb dX12_keep_116 (by decide) ?_
      refine lv_bipush (v := 11) hx hb dX12_keep_118 (by decide) ?_
      have hFc := allFree hD hS hA
      refine va_callv (va_runV (As := [.int 12, .int 19, .int 11]) (rest := []) ⟨hx, hb, hml, hown, hts⟩ (r_X12_common l dC dI a k h0 vi vj (fT (fT (fT vF 0 g110) 2 x16_F2) 3 x16_F3) (fT vG 1 x16_G1) 12 19 11 (fT (fT mK 10 (nL.toInt.tdiv r86.toInt)) 11 x11) f110_0 x19 x11 (by rw [fT_ne _ _ (by omega), fT_ne _ _ (by omega), v_x19]) (by rw [fT_eq]) (by first | assumption | decide | omega | rfl) (by first | assumption | decide | omega | rfl) (by first | assumption | decide | omega | rfl) (by first | assumption | decide | omega | rfl) (by first | assumption | decide | omega | rfl) (by first | assumption | decide | omega | rfl) H.size) (cwV 3 hts gwsRX12_keep_8 rfl rfl rfl hd_yX12_common_RX12 (by decide +kernel)) (fz_pre (va_recv hK hP (ci := 12) (q0 := 0) rfl rfl) hP hK hD) rfl rfl hl.1 rfl (lv_room (Nat.le_of_ble_eq_true rfl)) dX12_keep_120 (by decide +kernel)) hS (fun q _ h => hFc q h) hFc (fun u t9_ H locs ht hvm hw9 hB9 hz1 hk1 hS => ?_)
      obtain ⟨g120, f2w120, f3w120, gs120, m2120⟩ := u
      try dsimp only at hw9 hB9
      have hP : va_P (dC, dI) vwCl (WR a k h0 vi vj (fT (fT (fT (fT (fT (fT vF 0 g110) 2 x16_F2) 3 x16_F3) 0 g120) 2 f2w120) 3 f3w120) (fT (fT vG 1 x16_G1) 1 gs120)) H := fz_P ht hB9.1
      have hD : va_D A (WR a k h0 vi vj (fT (fT (fT (fT (fT (fT vF 0 g110) 2 x16_F2) 3 x16_F3) 0 g120) 2 f2w120) 3 f3w120) (fT (fT vG 1 x16_G1) 1 gs120)) := hB9.2.weaken (fun _ q _ h => hFc q.1 h)
      have e9 : fT (fT (fT vF 0 g120) 2 f2w120) 3 f3w120 = fT (fT (fT (fT (fT (fT vF 0 g110) 2 x16_F2) 3 x16_F3) 0 g120) 2 f2w120) 3 f3w120 := ((congrArg (fun g9 => fT (fT g9 2 f2w120) 3 f3w120) ((fT_sw _ _ _ (Nat.ne_of_beq_eq_false rfl)).trans (congrArg (fun g9 => fT g9 3 x16_F3) ((fT_sw _ _ _ (Nat.ne_of_beq_eq_false rfl)).trans (congrArg (fun g9 => fT g9 2 x16_F2) (fT_sm _ _ _ _)))))).trans ((congrArg (fun g9 => fT g9 3 f3w120) ((fT_sw _ _ _ (Nat.ne_of_beq_eq_false rfl)).trans (congrArg (fun g9 => fT g9 3 x16_F3) (fT_sm _ _ _ _)))).trans (fT_sm _ _ _ _))).symm
      rw [← e9] at hP hD
      clear e9
      have e9 : fT vG 1 gs120 = fT (fT vG 1 x16_G1) 1 gs120 := (fT_sm _ _ _ _).symm
      rw [← e9] at hP hD
      clear e9
      have hP : va_P (dC, dI) vwCl (WR a k h0 vi vj (fT (fT (fT vF 0 g120) 2 f2w120) 3 f3w120) (fT vG 1 gs120)) H := hP
      have hD : va_D A (WR a k h0 vi vj (fT (fT (fT vF 0 g120) 2 f2w120) 3 f3w120) (fT vG 1 gs120)) := hD
      obtain ⟨f120_0, f120_1, f120_2⟩ := hw9
      refine lv_aload_n hx hb dX12_keep_123 rfl (lv_at hl 3 rfl) ?_
      refine lv_bipush (v := 13) hx hb dX12_keep_124 (by decide) ?_
      refine lv_bipush (v := 14) hx hb dX12_keep_126 (by decide) ?_
      refine lv_bipush (v := 11) hx hb dX12_keep_128 (by decide) ?_
      refine lv_bipush (v := 12) hx hb dX12_keep_130 (by decide) ?_
      have hFc := allFree hD hS hA
      refine va_callv (va_runV (As := [.int 13, .int 14, .int 11, .int 12]) (rest := []) ⟨hx, hb, hml, hown, hts⟩ (b_X12_divide l dC dI a k h0 vi vj (fT (fT (fT vF 0 g120) 2 f2w120) 3 f3w120) (fT vG 1 gs120) 13 14 11 12 m2120 f120_0 x11 ((Int.gcd x19 x11 : Nat) : Int) (by rw [f120_2 _ (by omega) (by omega), fT_eq]) (by rw [f120_1]) (by first | assumption | decide | omega | rfl) (by first | assumption | decide | omega | rfl) (by first | assumption | decide | omega | rfl) (by first | assumption | decide | omega | rfl) (by first | assumption | decide | omega | rfl) (by first | assumption | decide | omega | rfl) (by omega) H.size) (cwV 4 hts gwsRX12_keep_3 rfl rfl rfl hd_yX12_divide_RX12 (by decide +kernel)) (fz_pre (va_recv hK hP (ci := 12) (q0 := 0) rfl rfl) hP hK hD) rfl rfl hl.1 rfl (lv_room (Nat.le_of_ble_eq_true rfl)) dX12_keep_132 (by decide +kernel)) hS (fun q _ h => hFc q h) hFc (fun u t9_ H locs ht hvm hw9 hB9 hz1 hk1 hS => ?_)
      obtain ⟨g132, f2w132, f3w132, gs132⟩ := u
      try dsimp only at hw9 hB9
      have hP : va_P (dC, dI) vwCl (WR a k h0 vi vj (fT (fT (fT (fT (fT (fT vF 0 g120) 2 f2w120) 3 f3w120) 2 f2w132) 3 f3w132) 0 g132) (fT (fT vG 1 gs120) 1 gs132)) H := fz_P ht hB9.1
      have hD : va_D A (WR a k h0 vi vj (fT (fT (fT (fT (fT (fT vF 0 g120) 2 f2w120) 3 f3w120) 2 f2w132) 3 f3w132) 0 g132) (fT (fT vG 1 gs120) 1 gs132)) := hB9.2.weaken (fun _ q _ h => hFc q.1 h)
      have e9 : fT (fT (fT vF 0 g132) 2 f2w132) 3 f3w132 = fT (fT (fT (fT (fT (fT vF 0 g120) 2 f2w120) 3 f3w120) 2 f2w132) 3 f3w132) 0 g132 := ((congrArg (fun g9 => fT (fT g9 3 f3w132) 0 g132) ((fT_sw _ _ _ (Nat.ne_of_beq_eq_false rfl)).trans (congrArg (fun g9 => fT g9 3 f3w120) (fT_sm _ _ _ _)))).trans ((congrArg (fun g9 => fT g9 0 g132) (fT_sm _ _ _ _)).trans ((fT_sw _ _ _ (Nat.ne_of_beq_eq_false rfl)).trans (congrArg (fun g9 => fT g9 3 f3w132) ((fT_sw _ _ _ (Nat.ne_of_beq_eq_false rfl)).trans (congrArg (fun g9 => fT g9 2 f2w132) (fT_sm _ _ _ _))))))).symm
      rw [← e9] at hP hD
      clear e9
      have e9 : fT vG 1 gs132 = fT (fT vG 1 gs120) 1 gs132 := (fT_sm _ _ _ _).symm
      rw [← e9] at hP hD
      clear e9
      have hP : va_P (dC, dI) vwCl (WR a k h0 vi vj (fT (fT (fT vF 0 g132) 2 f2w132) 3 f3w132) (fT vG 1 gs132)) H := hP
      have hD : va_D A (WR a k h0 vi vj (fT (fT (fT vF 0 g132) 2 f2w132) 3 f3w132) (fT vG 1 gs132)) := hD
      have f132_0 := hw9
      try dsimp only at f132_0
      refine lv_aload_n hx hb dX12_keep_135 rfl (lv_at hl 3 rfl) ?_
      refine lv_bipush (v := 15) hx hb dX12_keep_136 (by decide) ?_
      refine lv_bipush (v := 19) hx hb dX12_keep_138 (by decide) ?_
      refine lv_bipush (v := 13) hx hb dX12_keep_140 (by decide) ?_
      have hFc := allFree hD hS hA
      refine va_callv (va_runV (As := [.int 15, .int 19, .int 13]) (rest := []) ⟨hx, hb, hml, hown, hts⟩ (b_X12_times l dC dI a k h0 vi vj (fT (fT (fT vF 0 g132) 2 f2w132) 3 f3w132) (fT vG 1 gs132) 15 19 13 (fT (fT m2120 13 ((x11).tdiv ((Int.gcd x19 x11 : Nat) : Int))) 14 ((x11).tmod ((Int.gcd x19 x11 : Nat) : Int))) f132_0 x19 ((x11).tdiv ((Int.gcd x19 x11 : Nat) : Int)) (by rw [fT_ne _ _ (by omega), fT_ne _ _ (by omega), f120_2 _ (by omega) (by omega), fT_ne _ _ (by omega), fT_ne _ _ (by omega), v_x19]) (by rw [fT_ne _ _ (by omega), fT_eq]) (by first | assumption | decide | omega | rfl) (by first | assumption | decide | omega | rfl) (by first | assumption | decide | omega | rfl) (mulpN (a := 379) (b := 42) (c := 588) (Nat.lt_of_le_of_lt hx19b hp42) (Nat.lt_of_le_of_lt (Nat.le_trans (sh_le _ _) hx11b) (by decide)) (by decide)) H.size) (cwV 3 hts gwsRX12_keep_10 rfl rfl rfl hd_yX12_times_RX12 (by decide +kernel)) (fz_pre (va_recv hK hP (ci := 12) (q0 := 0) rfl rfl) hP hK hD) rfl rfl hl.1 rfl (lv_room (Nat.le_of_ble_eq_true rfl)) dX12_keep_142 (by decide +kernel)) hS (fun q _ h => hFc q h) hFc (fun u t9_ H locs ht hvm hw9 hB9 hz1 hk1 hS => ?_)
      obtain ⟨g142, gs142⟩ := u
      try dsimp only at hw9 hB9
      have hP : va_P (dC, dI) vwCl (WR a k h0 vi vj (fT (fT (fT (fT vF 0 g132) 2 f2w132) 3 f3w132) 0 g142) (fT (fT vG 1 gs132) 1 gs142)) H := fz_P ht hB9.1
      have hD : va_D A (WR a k h0 vi vj (fT (fT (fT (fT vF 0 g132) 2 f2w132) 3 f3w132) 0 g142) (fT (fT vG 1 gs132) 1 gs142)) := hB9.2.weaken (fun _ q _ h => hFc q.1 h)
      have e9 : fT (fT (fT vF 0 g142) 2 f2w132) 3 f3w132 = fT (fT (fT (fT vF 0 g132) 2 f2w132) 3 f3w132) 0 g142 := ((fT_sw _ _ _ (Nat.ne_of_beq_eq_false rfl)).trans (congrArg (fun g9 => fT g9 3 f3w132) ((fT_sw _ _ _ (Nat.ne_of_beq_eq_false rfl)).trans (congrArg (fun g9 => fT g9 2 f2w132) (fT_sm _ _ _ _))))).symm
      rw [← e9] at hP hD
      clear e9
      have e9 : fT vG 1 gs142 = fT (fT vG 1 gs132) 1 gs142 := (fT_sm _ _ _ _).symm
      rw [← e9] at hP hD
      clear e9
      have hP : va_P (dC, dI) vwCl (WR a k h0 vi vj (fT (fT (fT vF 0 g142) 2 f2w132) 3 f3w132) (fT vG 1 gs142)) H := hP
      have hD : va_D A (WR a k h0 vi vj (fT (fT (fT vF 0 g142) 2 f2w132) 3 f3w132) (fT vG 1 gs142)) := hD
      have f142_0 := hw9
      try dsimp only at f142_0
      refine lv_aload_n hx hb dX12_keep_145 rfl (lv_at hl 3 rfl) ?_
      refine lv_bipush (v := 19) hx hb dX12_keep_146 (by decide) ?_
      refine lv_bipush (v := 15) hx hb dX12_keep_148 (by decide) ?_
      have hFc := allFree hD hS hA
      refine va_callv (va_runV (As := [.int 19, .int 15]) (rest := []) ⟨hx, hb, hml, hown, hts⟩ (b_X12_copy l dC dI a k h0 vi vj (fT (fT (fT vF 0 g142) 2 f2w132) 3 f3w132) (fT vG 1 gs142) 19 15 (fT (fT (fT m2120 13 ((x11).tdiv ((Int.gcd x19 x11 : Nat) : Int))) 14 ((x11).tmod ((Int.gcd x19 x11 : Nat) : Int))) 15 (x19 * ((x11).tdiv ((Int.gcd x19 x11 : Nat) : Int)))) f142_0 (x19 * ((x11).tdiv ((Int.gcd x19 x11 : Nat) : Int))) (by rw [fT_eq]) (by first | assumption | decide | omega | rfl) (by first | assumption | decide | omega | rfl) (by first | assumption | decide | omega | rfl) H.size) (cwV 2 hts gwsRX12_keep_4 rfl rfl rfl hd_yX12_copy_RX12 (by decide +kernel)) (fz_pre (va_recv hK hP (ci := 12) (q0 := 0) rfl rfl) hP hK hD) rfl rfl hl.1 rfl (lv_room (Nat.le_of_ble_eq_true rfl)) dX12_keep_150 (by decide +kernel)) hS (fun q _ h => hFc q h) hFc (fun u t9_ H locs ht hvm hw9 hB9 hz1 hk1 hS => ?_)
      obtain ⟨g150, hwit150⟩ : ∃ w9, w9 = u := ⟨u, rfl⟩
      subst hwit150
      have hP : va_P (dC, dI) vwCl (WR a k h0 vi vj (fT (fT (fT (fT vF 0 g142) 2 f2w132) 3 f3w132) 0 g150) (fT vG 1 gs142)) H := fz_P ht hB9.1
      have hD : va_D A (WR a k h0 vi vj (fT (fT (fT (fT vF 0 g142) 2 f2w132) 3 f3w132) 0 g150) (fT vG 1 gs142)) := hB9.2.weaken (fun _ q _ h => hFc q.1 h)
      have e9 : fT (fT (fT vF 0 g150) 2 f2w132) 3 f3w132 = fT (fT (fT (fT vF 0 g142) 2 f2w132) 3 f3w132) 0 g150 := ((fT_sw _ _ _ (Nat.ne_of_beq_eq_false rfl)).trans (congrArg (fun g9 => fT g9 3 f3w132) ((fT_sw _ _ _ (Nat.ne_of_beq_eq_false rfl)).trans (congrArg (fun g9 => fT g9 2 f2w132) (fT_sm _ _ _ _))))).symm
      rw [← e9] at hP hD
      clear e9
      have hP : va_P (dC, dI) vwCl (WR a k h0 vi vj (fT (fT (fT vF 0 g150) 2 f2w132) 3 f3w132) (fT vG 1 gs142)) H := hP
      have hD : va_D A (WR a k h0 vi vj (fT (fT (fT vF 0 g150) 2 f2w132) 3 f3w132) (fT vG 1 gs142)) := hD
      have f150_0 := hw9
      try dsimp only at f150_0
      refine lv_iinc (v := (nI (k5 + 1))) hx hb dX12_keep_153 hl (k := 8) rfl (nI_add k5 1) (by decide) rfl (fun ls (hl : lv_has ls _ ([(5, .int (nI (k5 + 1))), (10, .long r86), (8, .long dL), (6, .long nL), (0, .ref h0), (1, .int (nI rN)), (2, .int (nI wN)), (3, .int sI), (4, .int pI)])) => ?_)
      refine lv_goto (tgt := 10) hx hb dX12_keep_156 (by decide) ?_
      have hl : lv_has _ _ ([(0, .ref h0), (1, .int (nI rN)), (2, .int (nI wN)), (3, .int sI), (4, .int pI), (5, .int (nI (k5 + 1)))]) := lv_sub hl [4, 5, 6, 7, 8, 0] rfl
      exact ih10 (k5 + 1) g150 f2w132 f3w132 gs142 (fT (fT (fT (fT m2120 13 ((x11).tdiv ((Int.gcd x19 x11 : Nat) : Int))) 14 ((x11).tmod ((Int.gcd x19 x11 : Nat) : Int))) 15 (x19 * ((x11).tdiv ((Int.gcd x19 x11 : Nat) : Int)))) 19 (x19 * ((x11).tdiv ((Int.gcd x19 x11 : Nat) : Int)))) (x19 * ((x11).tdiv ((Int.gcd x19 x11 : Nat) : Int))) _ _ _ (f150_0) ((by rw [fT_eq])) (by omega) (Int.mul_pos hx19p (tdiv_pos hx11p hg1 hg2)) (by rw [Int.natAbs_mul]; exact p42_step hx19b (Nat.le_trans (sh_le _ _) hx11b)) (fun q h1 h2 => by (rw [fT_ne _ _ (by omega), fT_ne _ _ (by omega), fT_ne _ _ (by omega), fT_ne _ _ (by omega), f120_2 _ (by omega) (by omega), fT_ne _ _ (by omega), fT_ne _ _ (by omega)]); exact ho1 q h1 h2) (by omega) hP hD hS hl

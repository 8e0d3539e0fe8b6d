theorem hd_yX12_needNumber_RX12 : yX12_needNumber.cls = RX12 ∧ yX12_needNumber.cls ≠ "java/lang/invoke/MethodHandle" ∧ yX12_needNumber.cls ≠ "java/lang/invoke/VarHandle" ∧ (parseMethodDescriptor yX12_needNumber.desc).map (fun d => d.parameters.length) = some 2 := by decide +kernel
theorem hd_yX12_spread_RX12 : yX12_spread.cls = RX12 ∧ yX12_spread.cls ≠ "java/lang/invoke/MethodHandle" ∧ yX12_spread.cls ≠ "java/lang/invoke/VarHandle" ∧ (parseMethodDescriptor yX12_spread.desc).map (fun d => d.parameters.length) = some 4 := by decide +kernel
theorem dX12_addsUp_0 : decode cX12_addsUp 0 = .ok (.iconst 0, 1) := dk_3 (by decide +kernel)
theorem dX12_addsUp_1 : decode cX12_addsUp 1 = .ok (.istore_n 1, 1) := dk_60 (by decide +kernel)
theorem dX12_addsUp_2 : decode cX12_addsUp 2 = .ok (.iconst 0, 1) := dk_3 (by decide +kernel)
theorem dX12_addsUp_3 : decode cX12_addsUp 3 = .ok (.istore_n 2, 1) := dk_61 (by decide +kernel)
theorem dX12_addsUp_4 : decode cX12_addsUp 4 = .ok (.iload_n 2, 1) := dk_28 (by decide +kernel)
theorem dX12_addsUp_5 : decode cX12_addsUp 5 = .ok (.aload_n 0, 1) := dk_42 (by decide +kernel)
theorem dX12_addsUp_6 : decode cX12_addsUp 6 = .ok (.getfield 894, 3) := dk_180 (by decide +kernel)
theorem dX12_addsUp_9 : decode cX12_addsUp 9 = .ok (.if_icmp .ge 45, 3) := dk_162 (by decide +kernel)
theorem dX12_addsUp_12 : decode cX12_addsUp 12 = .ok (.aload_n 0, 1) := dk_42 (by decide +kernel)
theorem dX12_addsUp_13 : decode cX12_addsUp 13 = .ok (.getfield 245, 3) := dk_180 (by decide +kernel)
theorem dX12_addsUp_16 : decode cX12_addsUp 16 = .ok (.iload_n 2, 1) := dk_28 (by decide +kernel)
theorem dX12_addsUp_17 : decode cX12_addsUp 17 = .ok (.iload_n 1, 1) := dk_27 (by decide +kernel)
theorem dX12_addsUp_18 : decode cX12_addsUp 18 = .ok (.iastore, 1) := dk_79 (by decide +kernel)
theorem dX12_addsUp_19 : decode cX12_addsUp 19 = .ok (.iload_n 1, 1) := dk_27 (by decide +kernel)
theorem dX12_addsUp_20 : decode cX12_addsUp 20 = .ok (.aload_n 0, 1) := dk_42 (by decide +kernel)
theorem dX12_addsUp_21 : decode cX12_addsUp 21 = .ok (.getfield 242, 3) := dk_180 (by decide +kernel)
theorem dX12_addsUp_24 : decode cX12_addsUp 24 = .ok (.iload_n 2, 1) := dk_28 (by decide +kernel)
theorem dX12_addsUp_25 : decode cX12_addsUp 25 = .ok (.iaload, 1) := dk_46 (by decide +kernel)
theorem dX12_addsUp_26 : decode cX12_addsUp 26 = .ok (.ifCond .ne 7, 3) := dk_154 (by decide +kernel)
theorem dX12_addsUp_29 : decode cX12_addsUp 29 = .ok (.iconst 0, 1) := dk_3 (by decide +kernel)
theorem dX12_addsUp_30 : decode cX12_addsUp 30 = .ok (.goto 16, 3) := dk_167 (by decide +kernel)
theorem dX12_addsUp_33 : decode cX12_addsUp 33 = .ok (.aload_n 0, 1) := dk_42 (by decide +kernel)
theorem dX12_addsUp_34 : decode cX12_addsUp 34 = .ok (.iload_n 2, 1) := dk_28 (by decide +kernel)
theorem dX12_addsUp_35 : decode cX12_addsUp 35 = .ok (.invokevirtual 900, 3) := dk_182 (by decide +kernel)
theorem dX12_addsUp_38 : decode cX12_addsUp 38 = .ok (.ifCond .eq 7, 3) := dk_153 (by decide +kernel)
theorem dX12_addsUp_41 : decode cX12_addsUp 41 = .ok (.iconst 2, 1) := dk_5 (by decide +kernel)
theorem dX12_addsUp_42 : decode cX12_addsUp 42 = .ok (.goto 4, 3) := dk_167 (by decide +kernel)
theorem dX12_addsUp_45 : decode cX12_addsUp 45 = .ok (.iconst 1, 1) := dk_4 (by decide +kernel)
theorem dX12_addsUp_46 : decode cX12_addsUp 46 = .ok (.iadd, 1) := dk_96 (by decide +kernel)
theorem dX12_addsUp_47 : decode cX12_addsUp 47 = .ok (.istore_n 1, 1) := dk_60 (by decide +kernel)
theorem dX12_addsUp_48 : decode cX12_addsUp 48 = .ok (.iinc 2 1, 3) := dk_132 (by decide +kernel)
theorem dX12_addsUp_51 : decode cX12_addsUp 51 = .ok (.goto (-47), 3) := dk_167 (by decide +kernel)
theorem dX12_addsUp_54 : decode cX12_addsUp 54 = .ok (.aload_n 0, 1) := dk_42 (by decide +kernel)
theorem dX12_addsUp_55 : decode cX12_addsUp 55 = .ok (.iload_n 1, 1) := dk_27 (by decide +kernel)
theorem dX12_addsUp_56 : decode cX12_addsUp 56 = .ok (.invokevirtual 835, 3) := dk_182 (by decide +kernel)
theorem dX12_addsUp_59 : decode cX12_addsUp 59 = .ok (.aload_n 0, 1) := dk_42 (by decide +kernel)
theorem dX12_addsUp_60 : decode cX12_addsUp 60 = .ok (.getfield 903, 3) := dk_180 (by decide +kernel)
theorem dX12_addsUp_63 : decode cX12_addsUp 63 = .ok (.ifCond .ne 18, 3) := dk_154 (by decide +kernel)
theorem dX12_addsUp_66 : decode cX12_addsUp 66 = .ok (.aload_n 0, 1) := dk_42 (by decide +kernel)
theorem dX12_addsUp_67 : decode cX12_addsUp 67 = .ok (.getfield 805, 3) := dk_180 (by decide +kernel)
theorem dX12_addsUp_70 : decode cX12_addsUp 70 = .ok (.ifCond .le 11, 3) := dk_158 (by decide +kernel)
theorem dX12_addsUp_73 : decode cX12_addsUp 73 = .ok (.aload_n 0, 1) := dk_42 (by decide +kernel)
theorem dX12_addsUp_74 : decode cX12_addsUp 74 = .ok (.iconst 0, 1) := dk_3 (by decide +kernel)
theorem dX12_addsUp_75 : decode cX12_addsUp 75 = .ok (.invokevirtual 844, 3) := dk_182 (by decide +kernel)
theorem dX12_addsUp_78 : decode cX12_addsUp 78 = .ok (.goto 10, 3) := dk_167 (by decide +kernel)
theorem dX12_addsUp_81 : decode cX12_addsUp 81 = .ok (.aload_n 0, 1) := dk_42 (by decide +kernel)
theorem dX12_addsUp_82 : decode cX12_addsUp 82 = .ok (.bipush 19, 2) := dk_16 (by decide +kernel)
theorem dX12_addsUp_84 : decode cX12_addsUp 84 = .ok (.lconst 1, 1) := dk_10 (by decide +kernel)
theorem dX12_addsUp_85 : decode cX12_addsUp 85 = .ok (.invokevirtual 369, 3) := dk_182 (by decide +kernel)
theorem dX12_addsUp_88 : decode cX12_addsUp 88 = .ok (.aload_n 0, 1) := dk_42 (by decide +kernel)
theorem dX12_addsUp_89 : decode cX12_addsUp 89 = .ok (.sipush 1045, 3) := dk_17 (by decide +kernel)
theorem dX12_addsUp_92 : decode cX12_addsUp 92 = .ok (.bipush 19, 2) := dk_16 (by decide +kernel)
theorem dX12_addsUp_94 : decode cX12_addsUp 94 = .ok (.invokevirtual 365, 3) := dk_182 (by decide +kernel)
theorem dX12_addsUp_97 : decode cX12_addsUp 97 = .ok (.iconst 0, 1) := dk_3 (by decide +kernel)
theorem dX12_addsUp_98 : decode cX12_addsUp 98 = .ok (.istore_n 2, 1) := dk_61 (by decide +kernel)
theorem dX12_addsUp_99 : decode cX12_addsUp 99 = .ok (.iload_n 2, 1) := dk_28 (by decide +kernel)
theorem dX12_addsUp_100 : decode cX12_addsUp 100 = .ok (.aload_n 0, 1) := dk_42 (by decide +kernel)
theorem dX12_addsUp_101 : decode cX12_addsUp 101 = .ok (.getfield 774, 3) := dk_180 (by decide +kernel)
theorem dX12_addsUp_104 : decode cX12_addsUp 104 = .ok (.if_icmp .ge 163, 3) := dk_162 (by decide +kernel)
theorem dX12_addsUp_107 : decode cX12_addsUp 107 = .ok (.iconst 1, 1) := dk_4 (by decide +kernel)
theorem dX12_addsUp_108 : decode cX12_addsUp 108 = .ok (.istore_n 3, 1) := dk_62 (by decide +kernel)
theorem dX12_addsUp_109 : decode cX12_addsUp 109 = .ok (.iload_n 3, 1) := dk_29 (by decide +kernel)
theorem dX12_addsUp_110 : decode cX12_addsUp 110 = .ok (.iconst (-1), 1) := dk_2 (by decide +kernel)
theorem dX12_addsUp_111 : decode cX12_addsUp 111 = .ok (.if_icmp .lt 150, 3) := dk_161 (by decide +kernel)
theorem dX12_addsUp_114 : decode cX12_addsUp 114 = .ok (.aload_n 0, 1) := dk_42 (by decide +kernel)
theorem dX12_addsUp_115 : decode cX12_addsUp 115 = .ok (.invokevirtual 823, 3) := dk_182 (by decide +kernel)
theorem dX12_addsUp_118 : decode cX12_addsUp 118 = .ok (.istore 4, 2) := dk_54 (by decide +kernel)
theorem dX12_addsUp_120 : decode cX12_addsUp 120 = .ok (.iconst 0, 1) := dk_3 (by decide +kernel)
theorem dX12_addsUp_121 : decode cX12_addsUp 121 = .ok (.istore 5, 2) := dk_54 (by decide +kernel)
theorem dX12_addsUp_123 : decode cX12_addsUp 123 = .ok (.iload 5, 2) := dk_21 (by decide +kernel)
theorem dX12_addsUp_125 : decode cX12_addsUp 125 = .ok (.aload_n 0, 1) := dk_42 (by decide +kernel)
theorem dX12_addsUp_126 : decode cX12_addsUp 126 = .ok (.getfield 894, 3) := dk_180 (by decide +kernel)
theorem dX12_addsUp_129 : decode cX12_addsUp 129 = .ok (.if_icmp .ge 25, 3) := dk_162 (by decide +kernel)
theorem dX12_addsUp_132 : decode cX12_addsUp 132 = .ok (.aload_n 0, 1) := dk_42 (by decide +kernel)
theorem dX12_addsUp_133 : decode cX12_addsUp 133 = .ok (.iload 4, 2) := dk_21 (by decide +kernel)
theorem dX12_addsUp_135 : decode cX12_addsUp 135 = .ok (.iload 5, 2) := dk_21 (by decide +kernel)
theorem dX12_addsUp_137 : decode cX12_addsUp 137 = .ok (.aload_n 0, 1) := dk_42 (by decide +kernel)
theorem dX12_addsUp_138 : decode cX12_addsUp 138 = .ok (.iload 5, 2) := dk_21 (by decide +kernel)
theorem dX12_addsUp_140 : decode cX12_addsUp 140 = .ok (.iload_n 2, 1) := dk_28 (by decide +kernel)
theorem dX12_addsUp_141 : decode cX12_addsUp 141 = .ok (.invokevirtual 906, 3) := dk_182 (by decide +kernel)
theorem dX12_addsUp_144 : decode cX12_addsUp 144 = .ok (.iload_n 3, 1) := dk_29 (by decide +kernel)
theorem dX12_addsUp_145 : decode cX12_addsUp 145 = .ok (.invokevirtual 909, 3) := dk_182 (by decide +kernel)
theorem dX12_addsUp_148 : decode cX12_addsUp 148 = .ok (.iinc 5 1, 3) := dk_132 (by decide +kernel)
theorem dX12_addsUp_151 : decode cX12_addsUp 151 = .ok (.goto (-28), 3) := dk_167 (by decide +kernel)
theorem dX12_addsUp_154 : decode cX12_addsUp 154 = .ok (.aload_n 0, 1) := dk_42 (by decide +kernel)
theorem dX12_addsUp_155 : decode cX12_addsUp 155 = .ok (.bipush 17, 2) := dk_16 (by decide +kernel)
theorem dX12_addsUp_157 : decode cX12_addsUp 157 = .ok (.lconst 0, 1) := dk_9 (by decide +kernel)
theorem dX12_addsUp_158 : decode cX12_addsUp 158 = .ok (.invokevirtual 369, 3) := dk_182 (by decide +kernel)
theorem dX12_addsUp_161 : decode cX12_addsUp 161 = .ok (.aload_n 0, 1) := dk_42 (by decide +kernel)
theorem dX12_addsUp_162 : decode cX12_addsUp 162 = .ok (.bipush 19, 2) := dk_16 (by decide +kernel)
theorem dX12_addsUp_164 : decode cX12_addsUp 164 = .ok (.sipush 1045, 3) := dk_17 (by decide +kernel)
theorem dX12_addsUp_167 : decode cX12_addsUp 167 = .ok (.invokevirtual 365, 3) := dk_182 (by decide +kernel)
theorem dX12_addsUp_170 : decode cX12_addsUp 170 = .ok (.aload_n 0, 1) := dk_42 (by decide +kernel)
theorem dX12_addsUp_171 : decode cX12_addsUp 171 = .ok (.getfield 903, 3) := dk_180 (by decide +kernel)
theorem dX12_addsUp_174 : decode cX12_addsUp 174 = .ok (.ifCond .ne 18, 3) := dk_154 (by decide +kernel)
theorem dX12_addsUp_177 : decode cX12_addsUp 177 = .ok (.aload_n 0, 1) := dk_42 (by decide +kernel)
theorem dX12_addsUp_178 : decode cX12_addsUp 178 = .ok (.getfield 805, 3) := dk_180 (by decide +kernel)
theorem dX12_addsUp_181 : decode cX12_addsUp 181 = .ok (.ifCond .le 11, 3) := dk_158 (by decide +kernel)
theorem dX12_addsUp_184 : decode cX12_addsUp 184 = .ok (.aload_n 0, 1) := dk_42 (by decide +kernel)
theorem dX12_addsUp_185 : decode cX12_addsUp 185 = .ok (.iconst 0, 1) := dk_3 (by decide +kernel)
theorem dX12_addsUp_186 : decode cX12_addsUp 186 = .ok (.iload_n 2, 1) := dk_28 (by decide +kernel)
theorem dX12_addsUp_187 : decode cX12_addsUp 187 = .ok (.iconst 1, 1) := dk_4 (by decide +kernel)
theorem dX12_addsUp_188 : decode cX12_addsUp 188 = .ok (.iadd, 1) := dk_96 (by decide +kernel)
theorem dX12_addsUp_189 : decode cX12_addsUp 189 = .ok (.invokevirtual 847, 3) := dk_182 (by decide +kernel)
theorem dX12_addsUp_192 : decode cX12_addsUp 192 = .ok (.aload_n 0, 1) := dk_42 (by decide +kernel)
theorem dX12_addsUp_193 : decode cX12_addsUp 193 = .ok (.aload_n 0, 1) := dk_42 (by decide +kernel)
theorem dX12_addsUp_194 : decode cX12_addsUp 194 = .ok (.iload 4, 2) := dk_21 (by decide +kernel)
theorem dX12_addsUp_196 : decode cX12_addsUp 196 = .ok (.aload_n 0, 1) := dk_42 (by decide +kernel)
theorem dX12_addsUp_197 : decode cX12_addsUp 197 = .ok (.getfield 396, 3) := dk_180 (by decide +kernel)
theorem dX12_addsUp_200 : decode cX12_addsUp 200 = .ok (.invokevirtual 405, 3) := dk_182 (by decide +kernel)
theorem dX12_addsUp_203 : decode cX12_addsUp 203 = .ok (.bipush 17, 2) := dk_16 (by decide +kernel)
theorem dX12_addsUp_205 : decode cX12_addsUp 205 = .ok (.invokevirtual 365, 3) := dk_182 (by decide +kernel)
theorem dX12_addsUp_208 : decode cX12_addsUp 208 = .ok (.iload_n 3, 1) := dk_29 (by decide +kernel)
theorem dX12_addsUp_209 : decode cX12_addsUp 209 = .ok (.aload_n 0, 1) := dk_42 (by decide +kernel)
theorem dX12_addsUp_210 : decode cX12_addsUp 210 = .ok (.getfield 903, 3) := dk_180 (by decide +kernel)
theorem dX12_addsUp_213 : decode cX12_addsUp 213 = .ok (.ifCond .ne 19, 3) := dk_154 (by decide +kernel)
theorem dX12_addsUp_216 : decode cX12_addsUp 216 = .ok (.aload_n 0, 1) := dk_42 (by decide +kernel)
theorem dX12_addsUp_217 : decode cX12_addsUp 217 = .ok (.getfield 805, 3) := dk_180 (by decide +kernel)
theorem dX12_addsUp_220 : decode cX12_addsUp 220 = .ok (.ifCond .eq 12, 3) := dk_153 (by decide +kernel)
theorem dX12_addsUp_223 : decode cX12_addsUp 223 = .ok (.aload_n 0, 1) := dk_42 (by decide +kernel)
theorem dX12_addsUp_224 : decode cX12_addsUp 224 = .ok (.getfield 218, 3) := dk_180 (by decide +kernel)
theorem dX12_addsUp_227 : decode cX12_addsUp 227 = .ok (.iconst 0, 1) := dk_3 (by decide +kernel)
theorem dX12_addsUp_228 : decode cX12_addsUp 228 = .ok (.iaload, 1) := dk_46 (by decide +kernel)
theorem dX12_addsUp_229 : decode cX12_addsUp 229 = .ok (.ifCond .ne 7, 3) := dk_154 (by decide +kernel)
theorem dX12_addsUp_232 : decode cX12_addsUp 232 = .ok (.iconst 1, 1) := dk_4 (by decide +kernel)
theorem dX12_addsUp_233 : decode cX12_addsUp 233 = .ok (.goto 4, 3) := dk_167 (by decide +kernel)
theorem dX12_addsUp_236 : decode cX12_addsUp 236 = .ok (.iconst (-1), 1) := dk_2 (by decide +kernel)
theorem dX12_addsUp_237 : decode cX12_addsUp 237 = .ok (.imul, 1) := dk_104 (by decide +kernel)
theorem dX12_addsUp_238 : decode cX12_addsUp 238 = .ok (.ifCond .ge 17, 3) := dk_156 (by decide +kernel)
theorem dX12_addsUp_241 : decode cX12_addsUp 241 = .ok (.aload_n 0, 1) := dk_42 (by decide +kernel)
theorem dX12_addsUp_242 : decode cX12_addsUp 242 = .ok (.aload_n 0, 1) := dk_42 (by decide +kernel)
theorem dX12_addsUp_243 : decode cX12_addsUp 243 = .ok (.iload 4, 2) := dk_21 (by decide +kernel)
theorem dX12_addsUp_245 : decode cX12_addsUp 245 = .ok (.aload_n 0, 1) := dk_42 (by decide +kernel)
theorem dX12_addsUp_246 : decode cX12_addsUp 246 = .ok (.getfield 396, 3) := dk_180 (by decide +kernel)
theorem dX12_addsUp_249 : decode cX12_addsUp 249 = .ok (.invokevirtual 405, 3) := dk_182 (by decide +kernel)
theorem dX12_addsUp_252 : decode cX12_addsUp 252 = .ok (.invokevirtual 379, 3) := dk_182 (by decide +kernel)
theorem dX12_addsUp_255 : decode cX12_addsUp 255 = .ok (.iinc 3 (-2), 3) := dk_132 (by decide +kernel)
theorem dX12_addsUp_258 : decode cX12_addsUp 258 = .ok (.goto (-149), 3) := dk_167 (by decide +kernel)
theorem dX12_addsUp_261 : decode cX12_addsUp 261 = .ok (.iinc 2 1, 3) := dk_132 (by decide +kernel)
theorem dX12_addsUp_264 : decode cX12_addsUp 264 = .ok (.goto (-165), 3) := dk_167 (by decide +kernel)
theorem dX12_addsUp_267 : decode cX12_addsUp 267 = .ok (.iconst 1, 1) := dk_4 (by decide +kernel)
theorem dX12_addsUp_268 : decode cX12_addsUp 268 = .ok (.istore_n 2, 1) := dk_61 (by decide +kernel)
theorem dX12_addsUp_269 : decode cX12_addsUp 269 = .ok (.iload_n 2, 1) := dk_28 (by decide +kernel)
theorem dX12_addsUp_270 : decode cX12_addsUp 270 = .ok (.iconst (-1), 1) := dk_2 (by decide +kernel)
theorem dX12_addsUp_271 : decode cX12_addsUp 271 = .ok (.if_icmp .lt 114, 3) := dk_161 (by decide +kernel)
theorem dX12_addsUp_274 : decode cX12_addsUp 274 = .ok (.aload_n 0, 1) := dk_42 (by decide +kernel)
theorem dX12_addsUp_275 : decode cX12_addsUp 275 = .ok (.getfield 903, 3) := dk_180 (by decide +kernel)
theorem dX12_addsUp_278 : decode cX12_addsUp 278 = .ok (.ifCond .eq 107, 3) := dk_153 (by decide +kernel)
theorem dX12_addsUp_281 : decode cX12_addsUp 281 = .ok (.aload_n 0, 1) := dk_42 (by decide +kernel)
theorem dX12_addsUp_282 : decode cX12_addsUp 282 = .ok (.invokevirtual 823, 3) := dk_182 (by decide +kernel)
theorem dX12_addsUp_285 : decode cX12_addsUp 285 = .ok (.istore_n 3, 1) := dk_62 (by decide +kernel)
theorem dX12_addsUp_286 : decode cX12_addsUp 286 = .ok (.iconst 0, 1) := dk_3 (by decide +kernel)
theorem dX12_addsUp_287 : decode cX12_addsUp 287 = .ok (.istore 4, 2) := dk_54 (by decide +kernel)
theorem dX12_addsUp_289 : decode cX12_addsUp 289 = .ok (.iload 4, 2) := dk_21 (by decide +kernel)
theorem dX12_addsUp_291 : decode cX12_addsUp 291 = .ok (.aload_n 0, 1) := dk_42 (by decide +kernel)
theorem dX12_addsUp_292 : decode cX12_addsUp 292 = .ok (.getfield 894, 3) := dk_180 (by decide +kernel)
theorem dX12_addsUp_295 : decode cX12_addsUp 295 = .ok (.if_icmp .ge 69, 3) := dk_162 (by decide +kernel)
theorem dX12_addsUp_298 : decode cX12_addsUp 298 = .ok (.aload_n 0, 1) := dk_42 (by decide +kernel)
theorem dX12_addsUp_299 : decode cX12_addsUp 299 = .ok (.getfield 242, 3) := dk_180 (by decide +kernel)
theorem dX12_addsUp_302 : decode cX12_addsUp 302 = .ok (.iload 4, 2) := dk_21 (by decide +kernel)
theorem dX12_addsUp_304 : decode cX12_addsUp 304 = .ok (.iaload, 1) := dk_46 (by decide +kernel)
theorem dX12_addsUp_305 : decode cX12_addsUp 305 = .ok (.ifCond .ne 6, 3) := dk_154 (by decide +kernel)
theorem dX12_addsUp_308 : decode cX12_addsUp 308 = .ok (.goto 50, 3) := dk_167 (by decide +kernel)
theorem dX12_addsUp_311 : decode cX12_addsUp 311 = .ok (.aload_n 0, 1) := dk_42 (by decide +kernel)
theorem dX12_addsUp_312 : decode cX12_addsUp 312 = .ok (.aload_n 0, 1) := dk_42 (by decide +kernel)
theorem dX12_addsUp_313 : decode cX12_addsUp 313 = .ok (.iload_n 3, 1) := dk_29 (by decide +kernel)
theorem dX12_addsUp_314 : decode cX12_addsUp 314 = .ok (.aload_n 0, 1) := dk_42 (by decide +kernel)
theorem dX12_addsUp_315 : decode cX12_addsUp 315 = .ok (.getfield 245, 3) := dk_180 (by decide +kernel)
theorem dX12_addsUp_318 : decode cX12_addsUp 318 = .ok (.iload 4, 2) := dk_21 (by decide +kernel)
theorem dX12_addsUp_320 : decode cX12_addsUp 320 = .ok (.iaload, 1) := dk_46 (by decide +kernel)
theorem dX12_addsUp_321 : decode cX12_addsUp 321 = .ok (.invokevirtual 405, 3) := dk_182 (by decide +kernel)
theorem dX12_addsUp_324 : decode cX12_addsUp 324 = .ok (.iload_n 2, 1) := dk_28 (by decide +kernel)
theorem dX12_addsUp_325 : decode cX12_addsUp 325 = .ok (.i2l, 1) := dk_133 (by decide +kernel)
theorem dX12_addsUp_326 : decode cX12_addsUp 326 = .ok (.invokevirtual 369, 3) := dk_182 (by decide +kernel)
theorem dX12_addsUp_329 : decode cX12_addsUp 329 = .ok (.aload_n 0, 1) := dk_42 (by decide +kernel)
theorem dX12_addsUp_330 : decode cX12_addsUp 330 = .ok (.iload 4, 2) := dk_21 (by decide +kernel)
theorem dX12_addsUp_332 : decode cX12_addsUp 332 = .ok (.invokevirtual 900, 3) := dk_182 (by decide +kernel)
theorem dX12_addsUp_335 : decode cX12_addsUp 335 = .ok (.ifCond .eq 23, 3) := dk_153 (by decide +kernel)
theorem dX12_addsUp_338 : decode cX12_addsUp 338 = .ok (.aload_n 0, 1) := dk_42 (by decide +kernel)
theorem dX12_addsUp_339 : decode cX12_addsUp 339 = .ok (.aload_n 0, 1) := dk_42 (by decide +kernel)
theorem dX12_addsUp_340 : decode cX12_addsUp 340 = .ok (.iload_n 3, 1) := dk_29 (by decide +kernel)
theorem dX12_addsUp_341 : decode cX12_addsUp 341 = .ok (.aload_n 0, 1) := dk_42 (by decide +kernel)
theorem dX12_addsUp_342 : decode cX12_addsUp 342 = .ok (.getfield 245, 3) := dk_180 (by decide +kernel)
theorem dX12_addsUp_345 : decode cX12_addsUp 345 = .ok (.iload 4, 2) := dk_21 (by decide +kernel)
theorem dX12_addsUp_347 : decode cX12_addsUp 347 = .ok (.iaload, 1) := dk_46 (by decide +kernel)
theorem dX12_addsUp_348 : decode cX12_addsUp 348 = .ok (.iconst 1, 1) := dk_4 (by decide +kernel)
theorem dX12_addsUp_349 : decode cX12_addsUp 349 = .ok (.iadd, 1) := dk_96 (by decide +kernel)
theorem dX12_addsUp_350 : decode cX12_addsUp 350 = .ok (.invokevirtual 405, 3) := dk_182 (by decide +kernel)
theorem dX12_addsUp_353 : decode cX12_addsUp 353 = .ok (.iload_n 2, 1) := dk_28 (by decide +kernel)
theorem dX12_addsUp_354 : decode cX12_addsUp 354 = .ok (.i2l, 1) := dk_133 (by decide +kernel)
theorem dX12_addsUp_355 : decode cX12_addsUp 355 = .ok (.invokevirtual 369, 3) := dk_182 (by decide +kernel)
theorem dX12_addsUp_358 : decode cX12_addsUp 358 = .ok (.iinc 4 1, 3) := dk_132 (by decide +kernel)
theorem dX12_addsUp_361 : decode cX12_addsUp 361 = .ok (.goto (-72), 3) := dk_167 (by decide +kernel)
theorem dX12_addsUp_364 : decode cX12_addsUp 364 = .ok (.aload_n 0, 1) := dk_42 (by decide +kernel)
theorem dX12_addsUp_365 : decode cX12_addsUp 365 = .ok (.aload_n 0, 1) := dk_42 (by decide +kernel)
theorem dX12_addsUp_366 : decode cX12_addsUp 366 = .ok (.iload_n 3, 1) := dk_29 (by decide +kernel)
theorem dX12_addsUp_367 : decode cX12_addsUp 367 = .ok (.aload_n 0, 1) := dk_42 (by decide +kernel)
theorem dX12_addsUp_368 : decode cX12_addsUp 368 = .ok (.getfield 396, 3) := dk_180 (by decide +kernel)
theorem dX12_addsUp_371 : decode cX12_addsUp 371 = .ok (.invokevirtual 405, 3) := dk_182 (by decide +kernel)
theorem dX12_addsUp_374 : decode cX12_addsUp 374 = .ok (.iload_n 2, 1) := dk_28 (by decide +kernel)
theorem dX12_addsUp_375 : decode cX12_addsUp 375 = .ok (.i2l, 1) := dk_133 (by decide +kernel)
theorem dX12_addsUp_376 : decode cX12_addsUp 376 = .ok (.invokevirtual 369, 3) := dk_182 (by decide +kernel)
theorem dX12_addsUp_379 : decode cX12_addsUp 379 = .ok (.iinc 2 (-2), 3) := dk_132 (by decide +kernel)
theorem dX12_addsUp_382 : decode cX12_addsUp 382 = .ok (.goto (-113), 3) := dk_167 (by decide +kernel)
theorem dX12_addsUp_385 : decode cX12_addsUp 385 = .ok (.aload_n 0, 1) := dk_42 (by decide +kernel)
theorem dX12_addsUp_386 : decode cX12_addsUp 386 = .ok (.invokevirtual 841, 3) := dk_182 (by decide +kernel)
theorem dX12_addsUp_389 : decode cX12_addsUp 389 = .ok (.aload_n 0, 1) := dk_42 (by decide +kernel)
theorem dX12_addsUp_390 : decode cX12_addsUp 390 = .ok (.invokevirtual 459, 3) := dk_182 (by decide +kernel)
theorem dX12_addsUp_393 : decode cX12_addsUp 393 = .ok (.istore_n 2, 1) := dk_61 (by decide +kernel)
theorem dX12_addsUp_394 : decode cX12_addsUp 394 = .ok (.iconst 0, 1) := dk_3 (by decide +kernel)
theorem dX12_addsUp_395 : decode cX12_addsUp 395 = .ok (.istore_n 3, 1) := dk_62 (by decide +kernel)
theorem dX12_addsUp_396 : decode cX12_addsUp 396 = .ok (.iload_n 3, 1) := dk_29 (by decide +kernel)
theorem dX12_addsUp_397 : decode cX12_addsUp 397 = .ok (.aload_n 0, 1) := dk_42 (by decide +kernel)
theorem dX12_addsUp_398 : decode cX12_addsUp 398 = .ok (.getfield 894, 3) := dk_180 (by decide +kernel)
theorem dX12_addsUp_401 : decode cX12_addsUp 401 = .ok (.if_icmp .ge 22, 3) := dk_162 (by decide +kernel)
theorem dX12_addsUp_404 : decode cX12_addsUp 404 = .ok (.aload_n 0, 1) := dk_42 (by decide +kernel)
theorem dX12_addsUp_405 : decode cX12_addsUp 405 = .ok (.iload_n 2, 1) := dk_28 (by decide +kernel)
theorem dX12_addsUp_406 : decode cX12_addsUp 406 = .ok (.iload_n 3, 1) := dk_29 (by decide +kernel)
theorem dX12_addsUp_407 : decode cX12_addsUp 407 = .ok (.aload_n 0, 1) := dk_42 (by decide +kernel)
theorem dX12_addsUp_408 : decode cX12_addsUp 408 = .ok (.iload_n 3, 1) := dk_29 (by decide +kernel)
theorem dX12_addsUp_409 : decode cX12_addsUp 409 = .ok (.iconst (-1), 1) := dk_2 (by decide +kernel)
theorem dX12_addsUp_410 : decode cX12_addsUp 410 = .ok (.invokevirtual 906, 3) := dk_182 (by decide +kernel)
theorem dX12_addsUp_413 : decode cX12_addsUp 413 = .ok (.iconst (-1), 1) := dk_2 (by decide +kernel)
theorem dX12_addsUp_414 : decode cX12_addsUp 414 = .ok (.invokevirtual 909, 3) := dk_182 (by decide +kernel)
theorem dX12_addsUp_417 : decode cX12_addsUp 417 = .ok (.iinc 3 1, 3) := dk_132 (by decide +kernel)
theorem dX12_addsUp_420 : decode cX12_addsUp 420 = .ok (.goto (-24), 3) := dk_167 (by decide +kernel)
theorem dX12_addsUp_423 : decode cX12_addsUp 423 = .ok (.aload_n 0, 1) := dk_42 (by decide +kernel)
theorem dX12_addsUp_424 : decode cX12_addsUp 424 = .ok (.invokevirtual 850, 3) := dk_182 (by decide +kernel)
theorem dX12_addsUp_427 : decode cX12_addsUp 427 = .ok (.ifCond .eq 15, 3) := dk_153 (by decide +kernel)
theorem dX12_addsUp_430 : decode cX12_addsUp 430 = .ok (.aload_n 0, 1) := dk_42 (by decide +kernel)
theorem dX12_addsUp_431 : decode cX12_addsUp 431 = .ok (.iload_n 2, 1) := dk_28 (by decide +kernel)
theorem dX12_addsUp_432 : decode cX12_addsUp 432 = .ok (.invokevirtual 465, 3) := dk_182 (by decide +kernel)
theorem dX12_addsUp_435 : decode cX12_addsUp 435 = .ok (.ifCond .eq 7, 3) := dk_153 (by decide +kernel)
theorem dX12_addsUp_438 : decode cX12_addsUp 438 = .ok (.iconst 1, 1) := dk_4 (by decide +kernel)
theorem dX12_addsUp_439 : decode cX12_addsUp 439 = .ok (.goto 4, 3) := dk_167 (by decide +kernel)
theorem dX12_addsUp_442 : decode cX12_addsUp 442 = .ok (.iconst 0, 1) := dk_3 (by decide +kernel)
theorem dX12_addsUp_443 : decode cX12_addsUp 443 = .ok (.istore_n 3, 1) := dk_62 (by decide +kernel)
theorem dX12_addsUp_444 : decode cX12_addsUp 444 = .ok (.aload_n 0, 1) := dk_42 (by decide +kernel)
theorem dX12_addsUp_445 : decode cX12_addsUp 445 = .ok (.invokevirtual 440, 3) := dk_182 (by decide +kernel)
theorem dX12_addsUp_448 : decode cX12_addsUp 448 = .ok (.iload_n 3, 1) := dk_29 (by decide +kernel)
theorem dX12_addsUp_449 : decode cX12_addsUp 449 = .ok (.ireturn, 1) := dk_172 (by decide +kernel)
def wsRX12_addsUp : List Cond := .code yX12_addsUp cX12_addsUp 6 (some .boolean) :: ([.fieldLink RX12 894 "OptimaWorksModel" "needs" "I", .fieldLink RX12 903 "OptimaWorksModel" "isShort" "Z", .fieldLink RX12 805 "OptimaWorksModel" "modelGoals" "I", .fieldLink RX12 774 "OptimaWorksModel" "variables" "I", .fieldLink RX12 396 "OptimaWorksModel" "columns" "I", .fieldLink RX12 242 "OptimaWorksModel" "needKept" "[I", .fieldLink RX12 245 "OptimaWorksModel" "needColumn" "[I", .fieldLink RX12 218 "OptimaWorksModel" "goalMax" "[I"] ++ wsX120 ++ (wsV RX12 835 RX12 yX12_begin wsRX12_begin) ++ (wsV RX12 369 RX12 yX12_put wsRX12_put) ++ (wsV RX12 844 RX12 yX12_scaleOf wsRX12_scaleOf) ++ (wsV RX12 365 RX12 yX12_copy wsRX12_copy) ++ (wsV RX12 823 RX12 yX12_newLine wsRX12_newLine) ++ (wsV RX12 405 RX12 yX12_at wsRX12_at) ++ (wsV RX12 900 RX12 yX12_isEqual wsRX12_isEqual) ++ (wsV RX12 841 RX12 yX12_start wsRX12_start) ++ (wsV RX12 459 RX12 yX12_goalRow wsRX12_goalRow) ++ (wsV RX12 850 RX12 yX12_canKeep wsRX12_canKeep) ++ (wsV RX12 465 RX12 yX12_raise wsRX12_raise) ++ (wsV RX12 440 RX12 yX12_spill wsRX12_spill) ++ (wsV RX12 906 RX12 yX12_needNumber wsRneedNb) ++ (wsV RX12 909 RX12 yX12_spread wsRX12_spread) ++ (wsV RX12 847 RX12 yX12_goalNumber wsRX12_goalNumber) ++ (wsV RX12 379 RX12 yX12_turn wsRX12_turn) ++ (wsV RX12 906 RX12 yX12_needNumber wsRneedNa))
theorem iwsRX12_addsUp_in12 : ∀ w ∈ wsX120, w ∈ wsRX12_addsUp := fun _ h => List.mem_cons_of_mem _ (List.mem_append_left _ (List.mem_append_left _ (List.mem_append_left _ (List.mem_append_left _ (List.mem_append_left _ (List.mem_append_left _ (List.mem_append_left _ (List.mem_append_left _ (List.mem_append_left _ (List.mem_append_left _ (List.mem_append_left _ (List.mem_append_left _ (List.mem_append_left _ (List.mem_append_left _ (List.mem_append_left _ (List.mem_append_left _ (List.mem_append_left _ (List.mem_append_right _ h))))))))))))))))))
theorem gwsRX12_addsUp_0 : GoodIn wsRX12_addsUp (wsV RX12 835 RX12 yX12_begin wsRX12_begin) := goodIn_sub (fun _ h => List.mem_cons_of_mem _ (List.mem_append_left _ (List.mem_append_left _ (List.mem_append_left _ (List.mem_append_left _ (List.mem_append_left _ (List.mem_append_left _ (List.mem_append_left _ (List.mem_append_left _ (List.mem_append_left _ (List.mem_append_left _ (List.mem_append_left _ (List.mem_append_left _ (List.mem_append_left _ (List.mem_append_left _ (List.mem_append_left _ (List.mem_append_left _ (List.mem_append_right _ h)))))))))))))))))) (gdV (by decide +kernel) gdwsRX12_begin)
theorem gwsRX12_addsUp_1 : GoodIn wsRX12_addsUp (wsV RX12 369 RX12 yX12_put wsRX12_put) := goodIn_sub (fun _ h => List.mem_cons_of_mem _ (List.mem_append_left _ (List.mem_append_left _ (List.mem_append_left _ (List.mem_append_left _ (List.mem_append_left _ (List.mem_append_left _ (List.mem_append_left _ (List.mem_append_left _ (List.mem_append_left _ (List.mem_append_left _ (List.mem_append_left _ (List.mem_append_left _ (List.mem_append_left _ (List.mem_append_left _ (List.mem_append_left _ (List.mem_append_right _ h))))))))))))))))) (gdV (by decide +kernel) gdwsRX12_put)
theorem gwsRX12_addsUp_2 : GoodIn wsRX12_addsUp (wsV RX12 844 RX12 yX12_scaleOf wsRX12_scaleOf) := goodIn_sub (fun _ h => List.mem_cons_of_mem _ (List.mem_append_left _ (List.mem_append_left _ (List.mem_append_left _ (List.mem_append_left _ (List.mem_append_left _ (List.mem_append_left _ (List.mem_append_left _ (List.mem_append_left _ (List.mem_append_left _ (List.mem_append_left _ (List.mem_append_left _ (List.mem_append_left _ (List.mem_append_left _ (List.mem_append_left _ (List.mem_append_right _ h)))))))))))))))) (gdV (by decide +kernel) gdwsRX12_scaleOf)
theorem gwsRX12_addsUp_3 : GoodIn wsRX12_addsUp (wsV RX12 365 RX12 yX12_copy wsRX12_copy) := goodIn_sub (fun _ h => List.mem_cons_of_mem _ (List.mem_append_left _ (List.mem_append_left _ (List.mem_append_left _ (List.mem_append_left _ (List.mem_append_left _ (List.mem_append_left _ (List.mem_append_left _ (List.mem_append_left _ (List.mem_append_left _ (List.mem_append_left _ (List.mem_append_left _ (List.mem_append_left _ (List.mem_append_left _ (List.mem_append_right _ h))))))))))))))) (gdV (by decide +kernel) gdwsRX12_copy)
theorem gwsRX12_addsUp_4 : GoodIn wsRX12_addsUp (wsV RX12 823 RX12 yX12_newLine wsRX12_newLine) := goodIn_sub (fun _ h => List.mem_cons_of_mem _ (List.mem_append_left _ (List.mem_append_left _ (List.mem_append_left _ (List.mem_append_left _ (List.mem_append_left _ (List.mem_append_left _ (List.mem_append_left _ (List.mem_append_left _ (List.mem_append_left _ (List.mem_append_left _ (List.mem_append_left _ (List.mem_append_left _ (List.mem_append_right _ h)))))))))))))) (gdV (by decide +kernel) gdwsRX12_newLine)
theorem gwsRX12_addsUp_5 : GoodIn wsRX12_addsUp (wsV RX12 405 RX12 yX12_at wsRX12_at) := goodIn_sub (fun _ h => List.mem_cons_of_mem _ (List.mem_append_left _ (List.mem_append_left _ (List.mem_append_left _ (List.mem_append_left _ (List.mem_append_left _ (List.mem_append_left _ (List.mem_append_left _ (List.mem_append_left _ (List.mem_append_left _ (List.mem_append_left _ (List.mem_append_left _ (List.mem_append_right _ h))))))))))))) (gdV (by decide +kernel) gdwsRX12_at)
theorem gwsRX12_addsUp_6 : GoodIn wsRX12_addsUp (wsV RX12 900 RX12 yX12_isEqual wsRX12_isEqual) := goodIn_sub (fun _ h => List.mem_cons_of_mem _ (List.mem_append_left _ (List.mem_append_left _ (List.mem_append_left _ (List.mem_append_left _ (List.mem_append_left _ (List.mem_append_left _ (List.mem_append_left _ (List.mem_append_left _ (List.mem_append_left _ (List.mem_append_left _ (List.mem_append_right _ h)))))))))))) (gdV (by decide +kernel) gdwsRX12_isEqual)
theorem gwsRX12_addsUp_7 : GoodIn wsRX12_addsUp (wsV RX12 841 RX12 yX12_start wsRX12_start) := goodIn_sub (fun _ h => List.mem_cons_of_mem _ (List.mem_append_left _ (List.mem_append_left _ (List.mem_append_left _ (List.mem_append_left _ (List.mem_append_left _ (List.mem_append_left _ (List.mem_append_left _ (List.mem_append_left _ (List.mem_append_left _ (List.mem_append_right _ h))))))))))) (gdV (by decide +kernel) gdwsRX12_start)
theorem gwsRX12_addsUp_8 : GoodIn wsRX12_addsUp (wsV RX12 459 RX12 yX12_goalRow wsRX12_goalRow) := goodIn_sub (fun _ h => List.mem_cons_of_mem _ (List.mem_append_left _ (List.mem_append_left _ (List.mem_append_left _ (List.mem_append_left _ (List.mem_append_left _ (List.mem_append_left _ (List.mem_append_left _ (List.mem_append_left _ (List.mem_append_right _ h)))))))))) (gdV (by decide +kernel) gdwsRX12_goalRow)
theorem gwsRX12_addsUp_9 : GoodIn wsRX12_addsUp (wsV RX12 850 RX12 yX12_canKeep wsRX12_canKeep) := goodIn_sub (fun _ h => List.mem_cons_of_mem _ (List.mem_append_left _ (List.mem_append_left _ (List.mem_append_left _ (List.mem_append_left _ (List.mem_append_left _ (List.mem_append_left _ (List.mem_append_left _ (List.mem_append_right _ h))))))))) (gdV (by decide +kernel) gdwsRX12_canKeep)
theorem gwsRX12_addsUp_10 : GoodIn wsRX12_addsUp (wsV RX12 465 RX12 yX12_raise wsRX12_raise) := goodIn_sub (fun _ h => List.mem_cons_of_mem _ (List.mem_append_left _ (List.mem_append_left _ (List.mem_append_left _ (List.mem_append_left _ (List.mem_append_left _ (List.mem_append_left _ (List.mem_append_right _ h)))))))) (gdV (by decide +kernel) gdwsRX12_raise)
theorem gwsRX12_addsUp_11 : GoodIn wsRX12_addsUp (wsV RX12 440 RX12 yX12_spill wsRX12_spill) := goodIn_sub (fun _ h => List.mem_cons_of_mem _ (List.mem_append_left _ (List.mem_append_left _ (List.mem_append_left _ (List.mem_append_left _ (List.mem_append_left _ (List.mem_append_right _ h))))))) (gdV (by decide +kernel) gdwsRX12_spill)
theorem gwsRX12_addsUp_12 : GoodIn wsRX12_addsUp (wsV RX12 906 RX12 yX12_needNumber wsRneedNb) := goodIn_sub (fun _ h => List.mem_cons_of_mem _ (List.mem_append_left _ (List.mem_append_left _ (List.mem_append_left _ (List.mem_append_left _ (List.mem_append_right _ h)))))) (gdV (by decide +kernel) gdwsRneedNb)
theorem gwsRX12_addsUp_13 : GoodIn wsRX12_addsUp (wsV RX12 909 RX12 yX12_spread wsRX12_spread) := goodIn_sub (fun _ h => List.mem_cons_of_mem _ (List.mem_append_left _ (List.mem_append_left _ (List.mem_append_left _ (List.mem_append_right _ h))))) (gdV (by decide +kernel) gdwsRX12_spread)
theorem gwsRX12_addsUp_14 : GoodIn wsRX12_addsUp (wsV RX12 847 RX12 yX12_goalNumber wsRX12_goalNumber) := goodIn_sub (fun _ h => List.mem_cons_of_mem _ (List.mem_append_left _ (List.mem_append_left _ (List.mem_append_right _ h)))) (gdV (by decide +kernel) gdwsRX12_goalNumber)
theorem gwsRX12_addsUp_15 : GoodIn wsRX12_addsUp (wsV RX12 379 RX12 yX12_turn wsRX12_turn) := goodIn_sub (fun _ h => List.mem_cons_of_mem _ (List.mem_append_left _ (List.mem_append_right _ h))) (gdV (by decide +kernel) gdwsRX12_turn)
theorem gwsRX12_addsUp_16 : GoodIn wsRX12_addsUp (wsV RX12 906 RX12 yX12_needNumber wsRneedNa) := goodIn_sub (fun _ h => List.mem_cons_of_mem _ (List.mem_append_right _ h)) (gdV (by decide +kernel) gdwsRneedNa)
theorem gdwsRX12_addsUp : wsRX12_addsUp.all goodWord = true := gdC rfl (gdA (gdA (gdA (gdA (gdA (gdA (gdA (gdA (gdA (gdA (gdA (gdA (gdA (gdA (gdA (gdA (gdA (gdA (by decide +kernel : ([.fieldLink RX12 894 "OptimaWorksModel" "needs" "I", .fieldLink RX12 903 "OptimaWorksModel" "isShort" "Z", .fieldLink RX12 805 "OptimaWorksModel" "modelGoals" "I", .fieldLink RX12 774 "OptimaWorksModel" "variables" "I", .fieldLink RX12 396 "OptimaWorksModel" "columns" "I", .fieldLink RX12 242 "OptimaWorksModel" "needKept" "[I", .fieldLink RX12 245 "OptimaWorksModel" "needColumn" "[I", .fieldLink RX12 218 "OptimaWorksModel" "goalMax" "[I"] : List Cond).all goodWord = true) gdwsX120) (gdV (by decide +kernel) gdwsRX12_begin)) (gdV (by decide +kernel) gdwsRX12_put)) (gdV (by decide +kernel) gdwsRX12_scaleOf)) (gdV (by decide +kernel) gdwsRX12_copy)) (gdV (by decide +kernel) gdwsRX12_newLine)) (gdV (by decide +kernel) gdwsRX12_at)) (gdV (by decide +kernel) gdwsRX12_isEqual)) (gdV (by decide +kernel) gdwsRX12_start)) (gdV (by decide +kernel) gdwsRX12_goalRow)) (gdV (by decide +kernel) gdwsRX12_canKeep)) (gdV (by decide +kernel) gdwsRX12_raise)) (gdV (by decide +kernel) gdwsRX12_spill)) (gdV (by decide +kernel) gdwsRneedNb)) (gdV (by decide +kernel) gdwsRX12_spread)) (gdV (by decide +kernel) gdwsRX12_goalNumber)) (gdV (by decide +kernel) gdwsRX12_turn)) (gdV (by decide +kernel) gdwsRneedNa))
set_option maxHeartbeats 4000000 in
set_option maxRecDepth 100000 in
/-- addsUp() -/
theorem r_X12_addsUp (l : Launch) (dC : Nat → ClassId) (dI : Nat → Nat → Nat) (a : Nat → Nat) (k : Nat → ClassId) (h0 : Nat) (vi : Nat → Int32) (vj : Nat → Int64) (vF : Nat → Nat → Int32) (vG : Nat → Nat → Int64) (vn : Nat) (mr : Nat) (gq : Nat) (z : Nat) (nd : Nat) (mg : Nat → Int) (hBg : Bg (vF 0) mg) (hvn : vi 90 = nI vn) (hvn8 : vn ≤ 8) (hmr12 : mr ≤ 12) (hmg : vi 93 = nI gq) (hgq : gq ≤ 3) (hM : MdlB vF gq) (hnd : vi 119 = nI nd) (hN : NdO (vF 71) (vF 72) vn mr z nd) (sz : Nat) : Met l yX12_addsUp wsRX12_addsUp ({ frames := 6, cells := 0, slots := 0, locals := 157 }) (va_Pc [.ref h0] (fun U => U.heap.size = sz ∧ va_P (dC, dI) vwCl (WR a k h0 vi vj vF vG) U.heap ∧ va_K (dC, dI) vwCl (tX12 k) U ∧ va_D (fun _ => True) (WR a k h0 vi vj vF vG))) (va_Qi (fun (r : Int32) (u : (Nat → Int32) × (Nat → Int32) × (Nat → Int32) × (Nat → Int32) × (Nat → Int32) × (Nat → Int32) × (Nat → Int32) × (Nat → Int64) × (Nat → Int64) × (Nat → Int64) × (Int64) × (Nat) × (Nat) × (Nat → Nat → Int) × (Int) × (Nat → Int)) => (Bg (u.1) (u.2.2.2.2.2.2.2.2.2.2.2.2.2.2.2)) ∧ (TabN (u.2.2.2.2.2.2.2.2.2.2.2.1) ((u.2.2.2.2.2.2.2.2.2.2.2.2.1) + 2) (u.2.2.2.2.2.2.2.2.2.2.2.2.2.2.2) (u.2.2.2.2.2.2.2.2.2.2.2.2.2.1) (u.2.2.2.2.2.2.2.2.2.2.2.2.2.2.1)) ∧ (0 < (u.2.2.2.2.2.2.2.2.2.2.2.2.2.2.1) ∧ Sz 258 (u.2.2.2.2.2.2.2.2.2.2.2.2.2.2.1)) ∧ (∀ i, i < (u.2.2.2.2.2.2.2.2.2.2.2.2.1) → Sz 258 ((u.2.2.2.2.2.2.2.2.2.2.2.2.2.1) i (u.2.2.2.2.2.2.2.2.2.2.2.1))) ∧ (∀ i, i < (u.2.2.2.2.2.2.2.2.2.2.2.2.1) + 2 → Sz 294 ((u.2.2.2.2.2.2.2.2.2.2.2.2.2.1) i (u.2.2.2.2.2.2.2.2.2.2.2.1))) ∧ (0 < (u.2.2.2.2.2.2.2.2.2.2.2.1) ∧ (u.2.2.2.2.2.2.2.2.2.2.2.1) ≤ 41 ∧ (u.2.2.2.2.2.2.2.2.2.2.2.2.1) ≤ 18) ∧ (0 < (u.2.2.2.2.2.2.2.2.2.2.2.2.2.2.2) 1045 ∧ Sz 67 ((u.2.2.2.2.2.2.2.2.2.2.2.2.2.2.2) 1045) ∧ (vi 118 ≠ 0 → (u.2.2.2.2.2.2.2.2.2.2.2.2.2.2.2) 1045 = 1)) ∧ (∀ q, 1000 ≤ q → q ≠ 1045 → (u.2.2.2.2.2.2.2.2.2.2.2.2.2.2.2) q = mg q) ∧ ((r) = 0 ∨ (r) = 1)) (fun (u : (Nat → Int32) × (Nat → Int32) × (Nat → Int32) × (Nat → Int32) × (Nat → Int32) × (Nat → Int32) × (Nat → Int32) × (Nat → Int64) × (Nat → Int64) × (Nat → Int64) × (Int64) × (Nat) × (Nat) × (Nat → Nat → Int) × (Int) × (Nat → Int)) t => va_P (dC, dI) vwCl (WR a k h0 (fT (fT (fT (fT vi 5 (nI (u.2.2.2.2.2.2.2.2.2.2.2.1))) 6 (nI (u.2.2.2.2.2.2.2.2.2.2.2.2.1))) 7 (nI 2)) 11 0) (fT vj 12 (u.2.2.2.2.2.2.2.2.2.2.1)) (fT (fT (fT (fT (fT (fT (fT vF 74 (u.2.2.2.2.2.2.1)) 0 (u.1)) 4 (u.2.2.2.1)) 6 (u.2.2.2.2.2.1)) 2 (u.2.1)) 3 (u.2.2.1)) 5 (u.2.2.2.2.1)) (fT (fT (fT vG 1 (u.2.2.2.2.2.2.2.1)) 7 (u.2.2.2.2.2.2.2.2.1)) 8 (u.2.2.2.2.2.2.2.2.2.1))) t.heap ∧ va_D (va_A (WR a k h0 vi vj vF vG) sz) (WR a k h0 (fT (fT (fT (fT vi 5 (nI (u.2.2.2.2.2.2.2.2.2.2.2.1))) 6 (nI (u.2.2.2.2.2.2.2.2.2.2.2.2.1))) 7 (nI 2)) 11 0) (fT vj 12 (u.2.2.2.2.2.2.2.2.2.2.1)) (fT (fT (fT (fT (fT (fT (fT vF 74 (u.2.2.2.2.2.2.1)) 0 (u.1)) 4 (u.2.2.2.1)) 6 (u.2.2.2.2.2.1)) 2 (u.2.1)) 3 (u.2.2.1)) 5 (u.2.2.2.2.1)) (fT (fT (fT vG 1 (u.2.2.2.2.2.2.2.1)) 7 (u.2.2.2.2.2.2.2.2.1)) 8 (u.2.2.2.2.2.2.2.2.2.1)))) (va_A (WR a k h0 vi vj vF vG) sz)) 0 0 (va_A (WR a k h0 vi vj vF vG) sz) := by
  refine Met.ofW (cc := cX12_addsUp) (maxL := 6) (ret := (some .boolean)) (by decide) rfl ?_
  intro p e s m args below meth c s₁ B hml hv
  obtain ⟨rfl, hsz, hP, hK, hD0⟩ := hv
  have hx := B.exec
  have hb := B.bytes
  have hr := B.returns
  have hts := atoms_spec (ws := wsRX12_addsUp) B.pre
  have hown : s.vm.findClass RX12 = some m.cls := findClass_of_methodNamed B.named
  have hlocks := B.notSynchronized
  subst hsz
  have hD := hD0.self (sz := s.heap.size)
  generalize hAe : va_A (WR a k h0 vi vj vF vG) s.heap.size = A at hD ⊢
  have hA : ∀ q : Nat, s.heap.size ≤ q → A q := fun q h => by rw [← hAe]; exact Or.inr h
  have hS : va_S A s.heap s.heap [] := va_S.rf
  have hl := lv_entry ([.ref h0]) (n := 6) (Nat.le_of_ble_eq_true rfl)
  rw [lg_entry_eq]
  generalize (lg_sl ([.ref h0]) ++ List.replicate (6 - (lg_sl ([.ref h0])).length) Slot.unset).toArray = ls at hl ⊢
  have hl : lv_has ls 6 [(0, .ref h0)] := hl
  have z9 := nI_0
  have hz1 : z ≤ 12 ∧ nd ≤ z + 16 ∧ nd ≤ 28 := by have h1 := hN.1; have h2 := hN.2.2.1; omega
  have hcz := hN.cz (vF 61) (vF 73)
  obtain ⟨Bs, hBs⟩ : ∃ Bs : Nat, Bs = if vi 118 = 0 then 2 ^ 74 else 1 := ⟨_, rfl⟩
  have hBs1 : 1 ≤ Bs := by rw [hBs]; split; (exact Nat.one_le_two_pow); (exact Nat.le_refl 1)
  refine lv_iconst (v := 0) hx hb dX12_addsUp_0 (by decide) ?_
  refine lv_istore_n hx hb dX12_addsUp_1 rfl hl (by decide) rfl (fun ls (hl : lv_has ls _ ([(1, .int 0), (0, .ref h0)])) => ?_)
  refine lv_iconst (v := 0) hx hb dX12_addsUp_2 (by decide) ?_
  refine lv_istore_n hx hb dX12_addsUp_3 rfl hl (by decide) rfl (fun ls (hl : lv_has ls _ ([(2, .int 0), (1, .int 0), (0, .ref h0)])) => ?_)
  have e9 : fT vF 74 (vF 74) = vF := by funext q9; by_cases h9_74 : q9 = 74; (subst h9_74; exact (fT_eq _ _ _).trans (Eq.trans (by first | with_reducible rfl | with_reducible assumption | (symm; with_reducible assumption) | rfl | assumption | (symm; assumption) | (subst_vars; rfl)) (Eq.refl _).symm)); exact (fT_ne _ _ h9_74).trans (Eq.refl _).symm
  have hP : va_P (dC, dI) vwCl (WR a k h0 vi vj (fT vF 74 (vF 74)) vG) s.heap := by rw [e9]; exact hP
  have hD : va_D A (WR a k h0 vi vj (fT vF 74 (vF 74)) vG) := by rw [e9]; exact hD
  clear e9
  have hl : lv_has _ _ ([(0, .ref h0), (1, .int (nI 0)), (2, .int (nI 0))]) := lv_sub hl [2, 1, 0] rfl
  refine (fun (loop : ∀ (n9 : Nat) (i5 : Nat) (cc : Nat) (f74x : Nat → Int32) (H : Heap) (locs : List Loc) (ls : Array Slot), (i5 ≤ nd) → (cc = ncS (ncw (vF 61) (vF 71) (vF 72) (vF 73)) i5) → (∀ q, q < i5 → f74x q = nI (ncS (ncw (vF 61) (vF 71) (vF 72) (vF 73)) q)) →  (nd < i5 + n9) → va_P (dC, dI) vwCl (WR a k h0 vi vj (fT vF 74 f74x) vG) H → va_D A (WR a k h0 vi vj (fT vF 74 f74x) vG) → va_S A s.heap H locs → lv_has ls 6 [(0, .ref h0), (1, .int (nI cc)), (2, .int (nI i5))] → W p l e _ s m _ below meth c H locs 0 0 _ (F0 m 4 ls [])) => loop (nd + 1) 0 0 (vF 74) _ _ _ (by omega) (rfl) (fun q hq => absurd hq (by omega)) (by omega) hP hD hS hl) ?_
  intro n9
  induction n9 with
  | zero => intro i5 cc f74x H locs ls hi5 hcc h74 hf9; exact False.elim (by omega)
  | succ n9 ih4 =>
    intro i5 cc f74x H locs ls hi5 hcc h74 hf4 hP hD hS hl
    refine lv_iload_n hx hb dX12_addsUp_4 rfl (lv_at hl 2 rfl) ?_
    refine lv_aload_n hx hb dX12_addsUp_5 rfl (lv_at hl 0 rfl) ?_
    refine va_get (D := (dC, dI)) (ci := 12) (v := .int (vi 119)) (C := RX12) (T := TX12) (N := 163) (fs := fM (vS a vi vj)) hx hb hts iwsRX12_addsUp_in12 hown hK hP 0 rfl rfl 119 (by decide) (hts (.fieldLink RX12 894 "OptimaWorksModel" "needs" "I") (by decide +kernel)) (fun _ h9 => h9) rfl dX12_addsUp_6 ?_
    refine lv_topi (fun y1 hy1 => ?_)
    obtain rfl : (nI nd) = y1 := (hy1.trans (hnd)).symm
    refine lv_icmp_ge (tgt := 54) hx hb dX12_addsUp_9 (by decide) (fun c_9 => ?_) (fun c_9 => ?_)
    · have t_9 : ((i5 : Nat) : Int) ≥ ((nd : Nat) : Int) := toI_ge c_9 (nI_toInt (by omega)) (nI_toInt (by omega))
      have ei5 : i5 = nd := by omega
      have hcc2 : cc = ncS (ncw (vF 61) (vF 71) (vF 72) (vF 73)) nd := by rw [hcc, ei5]
      have h40 : cc ≤ 40 ∧ cc ≤ ncS (ncw (vF 61) (vF 71) (vF 72) (vF 73)) z + 16 ∧ ncS (ncw (vF 61) (vF 71) (vF 72) (vF 73)) z ≤ 24 := by omega
      have hin : ∀ i, i < nd → ncS (ncw (vF 61) (vF 71) (vF 72) (vF 73)) i + (ncw (vF 61) (vF 71) (vF 72) (vF 73)) i ≤ cc := fun i hi => by rw [hcc2]; exact ncS_in hi
      have hex : ∀ y, y ≤ 20 → y * (cc + 1 + 1) ≤ 20 * 42 := fun y hy => Nat.mul_le_mul hy (by omega)
      refine lv_aload_n hx hb dX12_addsUp_54 rfl (lv_at hl 0 rfl) ?_
      refine lv_iload_n hx hb dX12_addsUp_55 rfl (lv_at hl 1 rfl) ?_
      have hFc := allFree hD hS hA
      refine va_callv (va_runV (As := [.int (nI cc)]) (rest := []) ⟨hx, hb, hml, hown, hts⟩ (r_X12_begin l dC dI a k h0 vi vj (fT vF 74 f74x) vG cc mg hBg (by first | with_reducible assumption | decide | omega | rfl | assumption) H.size) (cwV 1 hts gwsRX12_addsUp_0 rfl rfl rfl hd_yX12_begin_RX12 (by decide +kernel)) (fz_pre (va_recv hK hP (ci := 12) (q0 := 0) rfl rfl) hP hK hD) rfl rfl hl.1 rfl (lv_room (Nat.le_of_ble_eq_true rfl)) dX12_addsUp_56 (by decide +kernel)) hS (fun q _ h => hFc q h) hFc (fun u t9_ H locs ht hvm hw9 hB9 hz1 hk1 hS => ?_)
      revert u
      refine fz_p3 ?_
      intro g56 f456 f656 hw9 hB9
      try dsimp only at hw9 hB9
      have hP : va_P (dC, dI) vwCl (WR a k h0 (fT (fT (fT vi 5 (nI (cc + 1))) 6 0) 7 0) vj (fT (fT (fT (fT vF 74 f74x) 0 g56) 4 f456) 6 f656) vG) H := fz_P ht hB9.1
      have hD : va_D A (WR a k h0 (fT (fT (fT vi 5 (nI (cc + 1))) 6 0) 7 0) vj (fT (fT (fT (fT vF 74 f74x) 0 g56) 4 f456) 6 f656) vG) := hB9.2.weaken (fun _ q _ h => hFc q.1 h)
      revert hw9
      refine fz_a3 ?_
      intro f56_0 f56_1 f56_2
      refine lv_aload_n hx hb dX12_addsUp_59 rfl (lv_at hl 0 rfl) ?_
      refine va_get (D := (dC, dI)) (ci := 12) (v := .int (vi 118)) (C := RX12) (T := TX12) (N := 163) (fs := fM (vS a (fT (fT (fT vi 5 (nI (cc + 1))) 6 0) 7 0) vj)) hx hb hts iwsRX12_addsUp_in12 hown hK hP 0 rfl rfl 118 (by decide) (hts (.fieldLink RX12 903 "OptimaWorksModel" "isShort" "Z") (by decide +kernel)) (fun _ h9 => h9) rfl dX12_addsUp_60 ?_
      refine W.cut (pc := 88) (fun H locs ls stk => ∃ (gS : Nat → Int32) (f2S : Nat → Int32) (f3S : Nat → Int32) (gsS : Nat → Int64) (mS : Nat → Int), (Bg gS mS) ∧ (0 < mS 19) ∧ ((mS 19).natAbs < 2 ^ 67) ∧ (vi 118 ≠ 0 → mS 19 = 1) ∧ (mS 20 = 1) ∧ (∀ q, 1000 ≤ q → mS q = mg q) ∧  stk = [] ∧ va_P (dC, dI) vwCl (WR a k h0 (fT (fT (fT vi 5 (nI (cc + 1))) 6 0) 7 0) vj (fT (fT (fT (fT (fT (fT vF 74 f74x) 0 gS) 4 f456) 6 f656) 2 f2S) 3 f3S) (fT vG 1 gsS)) H ∧ va_D A (WR a k h0 (fT (fT (fT vi 5 (nI (cc + 1))) 6 0) 7 0) vj (fT (fT (fT (fT (fT (fT vF 74 f74x) 0 gS) 4 f456) 6 f656) 2 f2S) 3 f3S) (fT vG 1 gsS)) ∧ va_S A s.heap H locs ∧ lv_has ls 6 [(0, .ref h0)]) (fun join1 => ?_) ?_
      · refine lv_if_ne (tgt := 81) hx hb dX12_addsUp_63 (by decide) (fun c_63 => ?_) (fun c_63 => ?_)
        · have t_63 : ((vi 118)).toInt ≠ 0 := toI_ne c_63 rfl (by decide)
          refine lv_aload_n hx hb dX12_addsUp_81 rfl (lv_at hl 0 rfl) ?_
          refine lv_bipush (v := 19) hx hb dX12_addsUp_82 (by decide) ?_
          refine lv_lconst (v := 1) hx hb dX12_addsUp_84 (by decide) ?_
          have hFc := allFree hD hS hA
          refine va_callv (va_runV (As := [.int 19, .long 1]) (rest := []) ⟨hx, hb, hml, hown, hts⟩ (b_X12_put l dC dI a k h0 (fT (fT (fT vi 5 (nI (cc + 1))) 6 0) 7 0) vj (fT (fT (fT (fT vF 74 f74x) 0 g56) 4 f456) 6 f656) vG 19 1 1 (fT mg 20 1) f56_0 (by first | with_reducible assumption | decide | omega | rfl | assumption) (by decide) (by first | with_reducible assumption | decide | omega | rfl | assumption) H.size) (cwV 2 hts gwsRX12_addsUp_1 rfl rfl rfl hd_yX12_put_RX12 (by decide +kernel)) (fz_pre (va_recv hK hP (ci := 12) (q0 := 0) rfl rfl) hP hK hD) rfl rfl hl.1 rfl (lv_room (Nat.le_of_ble_eq_true rfl)) dX12_addsUp_85 (by decide +kernel)) hS (fun q _ h => hFc q h) hFc (fun g85 t9_ H locs ht hvm hw9 hB9 hz1 hk1 hS => ?_)
          have hP : va_P (dC, dI) vwCl (WR a k h0 (fT (fT (fT vi 5 (nI (cc + 1))) 6 0) 7 0) vj (fT (fT (fT (fT (fT vF 74 f74x) 0 g56) 4 f456) 6 f656) 0 g85) vG) H := fz_P ht hB9.1
          have hD : va_D A (WR a k h0 (fT (fT (fT vi 5 (nI (cc + 1))) 6 0) 7 0) vj (fT (fT (fT (fT (fT vF 74 f74x) 0 g56) 4 f456) 6 f656) 0 g85) vG) := hB9.2.weaken (fun _ q _ h => hFc q.1 h)
          have e9 : fT (fT (fT (fT vF 74 f74x) 0 g85) 4 f456) 6 f656 = fT (fT (fT (fT (fT vF 74 f74x) 0 g56) 4 f456) 6 f656) 0 g85 := ((fT_sw _ _ _ (Nat.ne_of_beq_eq_false rfl)).trans (congrArg (fun g9 => fT g9 6 f656) ((fT_sw _ _ _ (Nat.ne_of_beq_eq_false rfl)).trans (congrArg (fun g9 => fT g9 4 f456) (fT_sm _ _ _ _))))).symm
          rw [← e9] at hP hD
          clear e9
          have hP : va_P (dC, dI) vwCl (WR a k h0 (fT (fT (fT vi 5 (nI (cc + 1))) 6 0) 7 0) vj (fT (fT (fT (fT vF 74 f74x) 0 g85) 4 f456) 6 f656) vG) H := hP
          have hD : va_D A (WR a k h0 (fT (fT (fT vi 5 (nI (cc + 1))) 6 0) 7 0) vj (fT (fT (fT (fT vF 74 f74x) 0 g85) 4 f456) 6 f656) vG) := hD
          have f85_0 := hw9
          try dsimp only at f85_0
          have e9 : fT (fT (fT (fT (fT (fT vF 74 f74x) 0 g85) 4 f456) 6 f656) 2 (vF 2)) 3 (vF 3) = fT (fT (fT (fT vF 74 f74x) 0 g85) 4 f456) 6 f656 := by funext q9; by_cases h9_74 : q9 = 74; (subst h9_74; exact ((fT_ne _ _ (Nat.ne_of_beq_eq_false rfl)).trans ((fT_ne _ _ (Nat.ne_of_beq_eq_false rfl)).trans ((fT_ne _ _ (Nat.ne_of_beq_eq_false rfl)).trans ((fT_ne _ _ (Nat.ne_of_beq_eq_false rfl)).trans ((fT_ne _ _ (Nat.ne_of_beq_eq_false rfl)).trans (fT_eq _ _ _)))))).trans (Eq.trans (by first | with_reducible rfl | with_reducible assumption | (symm; with_reducible assumption) | rfl | assumption | (symm; assumption) | (subst_vars; rfl)) ((fT_ne _ _ (Nat.ne_of_beq_eq_false rfl)).trans ((fT_ne _ _ (Nat.ne_of_beq_eq_false rfl)).trans ((fT_ne _ _ (Nat.ne_of_beq_eq_false rfl)).trans (fT_eq _ _ _)))).symm)); by_cases h9_0 : q9 = 0; (subst h9_0; exact ((fT_ne _ _ (Nat.ne_of_beq_eq_false rfl)).trans ((fT_ne _ _ (Nat.ne_of_beq_eq_false rfl)).trans ((fT_ne _ _ (Nat.ne_of_beq_eq_false rfl)).trans ((fT_ne _ _ (Nat.ne_of_beq_eq_false rfl)).trans (fT_eq _ _ _))))).trans (Eq.trans (by first | with_reducible rfl | with_reducible assumption | (symm; with_reducible assumption) | rfl | assumption | (symm; assumption) | (subst_vars; rfl)) ((fT_ne _ _ (Nat.ne_of_beq_eq_false rfl)).trans ((fT_ne _ _ (Nat.ne_of_beq_eq_false rfl)).trans (fT_eq _ _ _))).symm)); by_cases h9_4 : q9 = 4; (subst h9_4; exact ((fT_ne _ _ (Nat.ne_of_beq_eq_false rfl)).trans ((fT_ne _ _ (Nat.ne_of_beq_eq_false rfl)).trans ((fT_ne _ _ (Nat.ne_of_beq_eq_false rfl)).trans (fT_eq _ _ _)))).trans (Eq.trans (by first | with_reducible rfl | with_reducible assumption | (symm; with_reducible assumption) | rfl | assumption | (symm; assumption) | (subst_vars; rfl)) ((fT_ne _ _ (Nat.ne_of_beq_eq_false rfl)).trans (fT_eq _ _ _)).symm)); by_cases h9_6 : q9 = 6; (subst h9_6; exact ((fT_ne _ _ (Nat.ne_of_beq_eq_false rfl)).trans ((fT_ne _ _ (Nat.ne_of_beq_eq_false rfl)).trans (fT_eq _ _ _))).trans (Eq.trans (by first | with_reducible rfl | with_reducible assumption | (symm; with_reducible assumption) | rfl | assumption | (symm; assumption) | (subst_vars; rfl)) (fT_eq _ _ _).symm)); by_cases h9_2 : q9 = 2; (subst h9_2; exact ((fT_ne _ _ (Nat.ne_of_beq_eq_false rfl)).trans (fT_eq _ _ _)).trans (Eq.trans (by first | with_reducible rfl | with_reducible assumption | (symm; with_reducible assumption) | rfl | assumption | (symm; assumption) | (subst_vars; rfl)) ((fT_ne _ _ (Nat.ne_of_beq_eq_false rfl)).trans ((fT_ne _ _ (Nat.ne_of_beq_eq_false rfl)).trans ((fT_ne _ _ (Nat.ne_of_beq_eq_false rfl)).trans (fT_ne _ _ (Nat.ne_of_beq_eq_false rfl))))).symm)); by_cases h9_3 : q9 = 3; (subst h9_3; exact (fT_eq _ _ _).trans (Eq.trans (by first | with_reducible rfl | with_reducible assumption | (symm; with_reducible assumption) | rfl | assumption | (symm; assumption) | (subst_vars; rfl)) ((fT_ne _ _ (Nat.ne_of_beq_eq_false rfl)).trans ((fT_ne _ _ (Nat.ne_of_beq_eq_false rfl)).trans ((fT_ne _ _ (Nat.ne_of_beq_eq_false rfl)).trans (fT_ne _ _ (Nat.ne_of_beq_eq_false rfl))))).symm)); exact ((fT_ne _ _ h9_3).trans ((fT_ne _ _ h9_2).trans ((fT_ne _ _ h9_6).trans ((fT_ne _ _ h9_4).trans ((fT_ne _ _ h9_0).trans (fT_ne _ _ h9_74)))))).trans ((fT_ne _ _ h9_6).trans ((fT_ne _ _ h9_4).trans ((fT_ne _ _ h9_0).trans (fT_ne _ _ h9_74)))).symm
          have hP : va_P (dC, dI) vwCl (WR a k h0 (fT (fT (fT vi 5 (nI (cc + 1))) 6 0) 7 0) vj (fT (fT (fT (fT (fT (fT vF 74 f74x) 0 g85) 4 f456) 6 f656) 2 (vF 2)) 3 (vF 3)) vG) H := by rw [e9]; exact hP
          have hD : va_D A (WR a k h0 (fT (fT (fT vi 5 (nI (cc + 1))) 6 0) 7 0) vj (fT (fT (fT (fT (fT (fT vF 74 f74x) 0 g85) 4 f456) 6 f656) 2 (vF 2)) 3 (vF 3)) vG) := by rw [e9]; exact hD
          clear e9
          have e9 : fT vG 1 (vG 1) = vG := by funext q9; by_cases h9_1 : q9 = 1; (subst h9_1; exact (fT_eq _ _ _).trans (Eq.trans (by first | with_reducible rfl | with_reducible assumption | (symm; with_reducible assumption) | rfl | assumption | (symm; assumption) | (subst_vars; rfl)) (Eq.refl _).symm)); exact (fT_ne _ _ h9_1).trans (Eq.refl _).symm
          have hP : va_P (dC, dI) vwCl (WR a k h0 (fT (fT (fT vi 5 (nI (cc + 1))) 6 0) 7 0) vj (fT (fT (fT (fT (fT (fT vF 74 f74x) 0 g85) 4 f456) 6 f656) 2 (vF 2)) 3 (vF 3)) (fT vG 1 (vG 1))) H := by rw [e9]; exact hP
          have hD : va_D A (WR a k h0 (fT (fT (fT vi 5 (nI (cc + 1))) 6 0) 7 0) vj (fT (fT (fT (fT (fT (fT vF 74 f74x) 0 g85) 4 f456) 6 f656) 2 (vF 2)) 3 (vF 3)) (fT vG 1 (vG 1))) := by rw [e9]; exact hD
          clear e9
          have hl : lv_has _ _ ([(0, .ref h0)]) := lv_sub hl [0] rfl
          exact join1 _ _ _ _ ⟨g85, (vF 2), (vF 3), (vG 1), (fT (fT mg 20 1) 19 1), f85_0, by (have e9 : (fT (fT mg 20 1) 19 1) 19 = 1 := (by rw [fT_eq])); rw [e9]; decide, by (have e9 : (fT (fT mg 20 1) 19 1) 19 = 1 := (by rw [fT_eq])); rw [e9]; decide, fun _ => (by rw [fT_eq]), (by rw [fT_ne _ _ (by omega), fT_eq]), fun q hq => by (rw [fT_ne _ _ (by omega), fT_ne _ _ (by omega)]), rfl, hP, hD, hS, hl⟩
        · have t_63 : ((vi 118)).toInt = 0 := toI_nne c_63 rfl (by decide)
          refine lv_aload_n hx hb dX12_addsUp_66 rfl (lv_at hl 0 rfl) ?_
          refine va_get (D := (dC, dI)) (ci := 12) (v := .int (vi 93)) (C := RX12) (T := TX12) (N := 163) (fs := fM (vS a (fT (fT (fT vi 5 (nI (cc + 1))) 6 0) 7 0) vj)) hx hb hts iwsRX12_addsUp_in12 hown hK hP 0 rfl rfl 93 (by decide) (hts (.fieldLink RX12 805 "OptimaWorksModel" "modelGoals" "I") (by decide +kernel)) (fun _ h9 => h9) rfl dX12_addsUp_67 ?_
          refine lv_topi (fun y2 hy2 => ?_)
          obtain rfl : (nI gq) = y2 := (hy2.trans (hmg)).symm
          refine lv_if_le (tgt := 81) hx hb dX12_addsUp_70 (by decide) (fun c_70 => ?_) (fun c_70 => ?_)
          · have t_70 : ((gq : Nat) : Int) ≤ 0 := toI_le c_70 (nI_toInt (by omega)) (by decide)
            refine lv_aload_n hx hb dX12_addsUp_81 rfl (lv_at hl 0 rfl) ?_
            refine lv_bipush (v := 19) hx hb dX12_addsUp_82 (by decide) ?_
            refine lv_lconst (v := 1) hx hb dX12_addsUp_84 (by decide) ?_
            have hFc := allFree hD hS hA
            refine va_callv (va_runV (As := [.int 19, .long 1]) (rest := []) ⟨hx, hb, hml, hown, hts⟩ (b_X12_put l dC dI a k h0 (fT (fT (fT vi 5 (nI (cc + 1))) 6 0) 7 0) vj (fT (fT (fT (fT vF 74 f74x) 0 g56) 4 f456) 6 f656) vG 19 1 1 (fT mg 20 1) f56_0 (by first | with_reducible assumption | decide | omega | rfl | assumption) (by decide) (by first | with_reducible assumption | decide | omega | rfl | assumption) H.size) (cwV 2 hts gwsRX12_addsUp_1 rfl rfl rfl hd_yX12_put_RX12 (by decide +kernel)) (fz_pre (va_recv hK hP (ci := 12) (q0 := 0) rfl rfl) hP hK hD) rfl rfl hl.1 rfl (lv_room (Nat.le_of_ble_eq_true rfl)) dX12_addsUp_85 (by decide +kernel)) hS (fun q _ h => hFc q h) hFc (fun g85_1 t9_ H locs ht hvm hw9 hB9 hz1 hk1 hS => ?_)
            have hP : va_P (dC, dI) vwCl (WR a k h0 (fT (fT (fT vi 5 (nI (cc + 1))) 6 0) 7 0) vj (fT (fT (fT (fT (fT vF 74 f74x) 0 g56) 4 f456) 6 f656) 0 g85_1) vG) H := fz_P ht hB9.1
            have hD : va_D A (WR a k h0 (fT (fT (fT vi 5 (nI (cc + 1))) 6 0) 7 0) vj (fT (fT (fT (fT (fT vF 74 f74x) 0 g56) 4 f456) 6 f656) 0 g85_1) vG) := hB9.2.weaken (fun _ q _ h => hFc q.1 h)
            have e9 : fT (fT (fT (fT vF 74 f74x) 0 g85_1) 4 f456) 6 f656 = fT (fT (fT (fT (fT vF 74 f74x) 0 g56) 4 f456) 6 f656) 0 g85_1 := ((fT_sw _ _ _ (Nat.ne_of_beq_eq_false rfl)).trans (congrArg (fun g9 => fT g9 6 f656) ((fT_sw _ _ _ (Nat.ne_of_beq_eq_false rfl)).trans (congrArg (fun g9 => fT g9 4 f456) (fT_sm _ _ _ _))))).symm
            rw [← e9] at hP hD
            clear e9
            have hP : va_P (dC, dI) vwCl (WR a k h0 (fT (fT (fT vi 5 (nI (cc + 1))) 6 0) 7 0) vj (fT (fT (fT (fT vF 74 f74x) 0 g85_1) 4 f456) 6 f656) vG) H := hP
            have hD : va_D A (WR a k h0 (fT (fT (fT vi 5 (nI (cc + 1))) 6 0) 7 0) vj (fT (fT (fT (fT vF 74 f74x) 0 g85_1) 4 f456) 6 f656) vG) := hD
            have f85_1_0 := hw9
            try dsimp only at f85_1_0
            have e9 : fT (fT (fT (fT (fT (fT vF 74 f74x) 0 g85_1) 4 f456) 6 f656) 2 (vF 2)) 3 (vF 3) = fT (fT (fT (fT vF 74 f74x) 0 g85_1) 4 f456) 6 f656 := by funext q9; by_cases h9_74 : q9 = 74; (subst h9_74; exact ((fT_ne _ _ (Nat.ne_of_beq_eq_false rfl)).trans ((fT_ne _ _ (Nat.ne_of_beq_eq_false rfl)).trans ((fT_ne _ _ (Nat.ne_of_beq_eq_false rfl)).trans ((fT_ne _ _ (Nat.ne_of_beq_eq_false rfl)).trans ((fT_ne _ _ (Nat.ne_of_beq_eq_false rfl)).trans (fT_eq _ _ _)))))).trans (Eq.trans (by first | with_reducible rfl | with_reducible assumption | (symm; with_reducible assumption) | rfl | assumption | (symm; assumption) | (subst_vars; rfl)) ((fT_ne _ _ (Nat.ne_of_beq_eq_false rfl)).trans ((fT_ne _ _ (Nat.ne_of_beq_eq_false rfl)).trans ((fT_ne _ _ (Nat.ne_of_beq_eq_false rfl)).trans (fT_eq _ _ _)))).symm)); by_cases h9_0 : q9 = 0; (subst h9_0; exact ((fT_ne _ _ (Nat.ne_of_beq_eq_false rfl)).trans ((fT_ne _ _ (Nat.ne_of_beq_eq_false rfl)).trans ((fT_ne _ _ (Nat.ne_of_beq_eq_false rfl)).trans ((fT_ne _ _ (Nat.ne_of_beq_eq_false rfl)).trans (fT_eq _ _ _))))).trans (Eq.trans (by first | with_reducible rfl | with_reducible assumption | (symm; with_reducible assumption) | rfl | assumption | (symm; assumption) | (subst_vars; rfl)) ((fT_ne _ _ (Nat.ne_of_beq_eq_false rfl)).trans ((fT_ne _ _ (Nat.ne_of_beq_eq_false rfl)).trans (fT_eq _ _ _))).symm)); by_cases h9_4 : q9 = 4; (subst h9_4; exact ((fT_ne _ _ (Nat.ne_of_beq_eq_false rfl)).trans ((fT_ne _ _ (Nat.ne_of_beq_eq_false rfl)).trans ((fT_ne _ _ (Nat.ne_of_beq_eq_false rfl)).trans (fT_eq _ _ _)))).trans (Eq.trans (by first | with_reducible rfl | with_reducible assumption | (symm; with_reducible assumption) | rfl | assumption | (symm; assumption) | (subst_vars; rfl)) ((fT_ne _ _ (Nat.ne_of_beq_eq_false rfl)).trans (fT_eq _ _ _)).symm)); by_cases h9_6 : q9 = 6; (subst h9_6; exact ((fT_ne _ _ (Nat.ne_of_beq_eq_false rfl)).trans ((fT_ne _ _ (Nat.ne_of_beq_eq_false rfl)).trans (fT_eq _ _ _))).trans (Eq.trans (by first | with_reducible rfl | with_reducible assumption | (symm; with_reducible assumption) | rfl | assumption | (symm; assumption) | (subst_vars; rfl)) (fT_eq _ _ _).symm)); by_cases h9_2 : q9 = 2; (subst h9_2; exact ((fT_ne _ _ (Nat.ne_of_beq_eq_false rfl)).trans (fT_eq _ _ _)).trans (Eq.trans (by first | with_reducible rfl | with_reducible assumption | (symm; with_reducible assumption) | rfl | assumption | (symm; assumption) | (subst_vars; rfl)) ((fT_ne _ _ (Nat.ne_of_beq_eq_false rfl)).trans ((fT_ne _ _ (Nat.ne_of_beq_eq_false rfl)).trans ((fT_ne _ _ (Nat.ne_of_beq_eq_false rfl)).trans (fT_ne _ _ (Nat.ne_of_beq_eq_false rfl))))).symm)); by_cases h9_3 : q9 = 3; (subst h9_3; exact (fT_eq _ _ _).trans (Eq.trans (by first | with_reducible rfl | with_reducible assumption | (symm; with_reducible assumption) | rfl | assumption | (symm; assumption) | (subst_vars; rfl)) ((fT_ne _ _ (Nat.ne_of_beq_eq_false rfl)).trans ((fT_ne _ _ (Nat.ne_of_beq_eq_false rfl)).trans ((fT_ne _ _ (Nat.ne_of_beq_eq_false rfl)).trans (fT_ne _ _ (Nat.ne_of_beq_eq_false rfl))))).symm)); exact ((fT_ne _ _ h9_3).trans ((fT_ne _ _ h9_2).trans ((fT_ne _ _ h9_6).trans ((fT_ne _ _ h9_4).trans ((fT_ne _ _ h9_0).trans (fT_ne _ _ h9_74)))))).trans ((fT_ne _ _ h9_6).trans ((fT_ne _ _ h9_4).trans ((fT_ne _ _ h9_0).trans (fT_ne _ _ h9_74)))).symm
            have hP : va_P (dC, dI) vwCl (WR a k h0 (fT (fT (fT vi 5 (nI (cc + 1))) 6 0) 7 0) vj (fT (fT (fT (fT (fT (fT vF 74 f74x) 0 g85_1) 4 f456) 6 f656) 2 (vF 2)) 3 (vF 3)) vG) H := by rw [e9]; exact hP
            have hD : va_D A (WR a k h0 (fT (fT (fT vi 5 (nI (cc + 1))) 6 0) 7 0) vj (fT (fT (fT (fT (fT (fT vF 74 f74x) 0 g85_1) 4 f456) 6 f656) 2 (vF 2)) 3 (vF 3)) vG) := by rw [e9]; exact hD
            clear e9
            have e9 : fT vG 1 (vG 1) = vG := by funext q9; by_cases h9_1 : q9 = 1; (subst h9_1; exact (fT_eq _ _ _).trans (Eq.trans (by first | with_reducible rfl | with_reducible assumption | (symm; with_reducible assumption) | rfl | assumption | (symm; assumption) | (subst_vars; rfl)) (Eq.refl _).symm)); exact (fT_ne _ _ h9_1).trans (Eq.refl _).symm
            have hP : va_P (dC, dI) vwCl (WR a k h0 (fT (fT (fT vi 5 (nI (cc + 1))) 6 0) 7 0) vj (fT (fT (fT (fT (fT (fT vF 74 f74x) 0 g85_1) 4 f456) 6 f656) 2 (vF 2)) 3 (vF 3)) (fT vG 1 (vG 1))) H := by rw [e9]; exact hP
            have hD : va_D A (WR a k h0 (fT (fT (fT vi 5 (nI (cc + 1))) 6 0) 7 0) vj (fT (fT (fT (fT (fT (fT vF 74 f74x) 0 g85_1) 4 f456) 6 f656) 2 (vF 2)) 3 (vF 3)) (fT vG 1 (vG 1))) := by rw [e9]; exact hD
            clear e9
            have hl : lv_has _ _ ([(0, .ref h0)]) := lv_sub hl [0] rfl
            exact join1 _ _ _ _ ⟨g85_1, (vF 2), (vF 3), (vG 1), (fT (fT mg 20 1) 19 1), f85_1_0, by (have e9 : (fT (fT mg 20 1) 19 1) 19 = 1 := (by rw [fT_eq])); rw [e9]; decide, by (have e9 : (fT (fT mg 20 1) 19 1) 19 = 1 := (by rw [fT_eq])); rw [e9]; decide, fun _ => (by rw [fT_eq]), (by rw [fT_ne _ _ (by omega), fT_eq]), fun q hq => by (rw [fT_ne _ _ (by omega), fT_ne _ _ (by omega)]), rfl, hP, hD, hS, hl⟩
          · have t_70 : ¬ ((gq : Nat) : Int) ≤ 0 := toI_nle c_70 (nI_toInt (by omega)) (by decide)
            refine lv_aload_n hx hb dX12_addsUp_73 rfl (lv_at hl 0 rfl) ?_
            refine lv_iconst (v := 0) hx hb dX12_addsUp_74 (by decide) ?_
            have hFc := allFree hD hS hA
            refine va_callv (va_runV (As := [.int 0]) (rest := []) ⟨hx, hb, hml, hown, hts⟩ (r_X12_scaleOf l dC dI a k h0 (fT (fT (fT vi 5 (nI (cc + 1))) 6 0) 7 0) vj (fT (fT (fT (fT vF 74 f74x) 0 g56) 4 f456) 6 f656) vG 0 gq (fT mg 20 1) f56_0 (by omega) (by first | with_reducible assumption | decide | omega | rfl | assumption) (by first | with_reducible assumption | decide | omega | rfl | assumption) H.size) (cwV 1 hts gwsRX12_addsUp_2 rfl rfl rfl hd_yX12_scaleOf_RX12 (by decide +kernel)) (fz_pre (va_recv hK hP (ci := 12) (q0 := 0) rfl rfl) hP hK hD) rfl rfl hl.1 rfl (lv_room (Nat.le_of_ble_eq_true rfl)) dX12_addsUp_75 (by decide +kernel)) hS (fun q _ h => hFc q h) hFc (fun u t9_ H locs ht hvm hw9 hB9 hz1 hk1 hS => ?_)
            revert u
            refine fz_p5 ?_
            intro g75 f2w75 f3w75 gs75 m275 hw9 hB9
            try dsimp only at hw9 hB9
            have hP : va_P (dC, dI) vwCl (WR a k h0 (fT (fT (fT vi 5 (nI (cc + 1))) 6 0) 7 0) vj (fT (fT (fT (fT (fT (fT (fT vF 74 f74x) 0 g56) 4 f456) 6 f656) 0 g75) 2 f2w75) 3 f3w75) (fT vG 1 gs75)) H := fz_P ht hB9.1
            have hD : va_D A (WR a k h0 (fT (fT (fT vi 5 (nI (cc + 1))) 6 0) 7 0) vj (fT (fT (fT (fT (fT (fT (fT vF 74 f74x) 0 g56) 4 f456) 6 f656) 0 g75) 2 f2w75) 3 f3w75) (fT vG 1 gs75)) := hB9.2.weaken (fun _ q _ h => hFc q.1 h)
            have e9 : fT (fT (fT (fT (fT (fT vF 74 f74x) 0 g75) 4 f456) 6 f656) 2 f2w75) 3 f3w75 = fT (fT (fT (fT (fT (fT (fT vF 74 f74x) 0 g56) 4 f456) 6 f656) 0 g75) 2 f2w75) 3 f3w75 := (congrArg (fun g9 => fT (fT g9 2 f2w75) 3 f3w75) ((fT_sw _ _ _ (Nat.ne_of_beq_eq_false rfl)).trans (congrArg (fun g9 => fT g9 6 f656) ((fT_sw _ _ _ (Nat.ne_of_beq_eq_false rfl)).trans (congrArg (fun g9 => fT g9 4 f456) (fT_sm _ _ _ _)))))).symm
            rw [← e9] at hP hD
            clear e9
            have hP : va_P (dC, dI) vwCl (WR a k h0 (fT (fT (fT vi 5 (nI (cc + 1))) 6 0) 7 0) vj (fT (fT (fT (fT (fT (fT vF 74 f74x) 0 g75) 4 f456) 6 f656) 2 f2w75) 3 f3w75) (fT vG 1 gs75)) H := hP
            have hD : va_D A (WR a k h0 (fT (fT (fT vi 5 (nI (cc + 1))) 6 0) 7 0) vj (fT (fT (fT (fT (fT (fT vF 74 f74x) 0 g75) 4 f456) 6 f656) 2 f2w75) 3 f3w75) (fT vG 1 gs75)) := hD
            revert hw9
            refine fz_a4 ?_
            intro f75_0 f75_1 f75_2 f75_3
            refine lv_goto (tgt := 88) hx hb dX12_addsUp_78 (by decide) ?_
            have hl : lv_has _ _ ([(0, .ref h0)]) := lv_sub hl [0] rfl
            exact join1 _ _ _ _ ⟨g75, f2w75, f3w75, gs75, m275, f75_0, f75_1, f75_2, fun h9 => absurd c_63 h9, (by rw [f75_3 _ (by omega), fT_eq]), fun q hq => by (rw [f75_3 _ (by omega), fT_ne _ _ (by omega)]), rfl, hP, hD, hS, hl⟩
      · rintro H locs ls stk ⟨gS, f2S, f3S, gsS, mS, hBS, h19p, h19b, h19s, h20S, hoS, rfl, hP, hD, hS, hl⟩
        refine lv_aload_n hx hb dX12_addsUp_88 rfl (lv_at hl 0 rfl) ?_
        refine lv_sipush (v := 1045) hx hb dX12_addsUp_89 (by decide) ?_
        refine lv_bipush (v := 19) hx hb dX12_addsUp_92 (by decide) ?_
        have hFc := allFree hD hS hA
        refine va_callv (va_runV (As := [.int 1045, .int 19]) (rest := []) ⟨hx, hb, hml, hown, hts⟩ (b_X12_copy l dC dI a k h0 (fT (fT (fT vi 5 (nI (cc + 1))) 6 0) 7 0) vj (fT (fT (fT (fT (fT (fT vF 74 f74x) 0 gS) 4 f456) 6 f656) 2 f2S) 3 f3S) (fT vG 1 gsS) 1045 19 mS hBS (mS 19) rfl (by first | with_reducible assumption | decide | omega | rfl | assumption) (by first | with_reducible assumption | decide | omega | rfl | assumption) (by first | with_reducible assumption | decide | omega | rfl | assumption) H.size) (cwV 2 hts gwsRX12_addsUp_3 rfl rfl rfl hd_yX12_copy_RX12 (by decide +kernel)) (fz_pre (va_recv hK hP (ci := 12) (q0 := 0) rfl rfl) hP hK hD) rfl rfl hl.1 rfl (lv_room (Nat.le_of_ble_eq_true rfl)) dX12_addsUp_94 (by decide +kernel)) hS (fun q _ h => hFc q h) hFc (fun g94 t9_ H locs ht hvm hw9 hB9 hz1 hk1 hS => ?_)
        have hP : va_P (dC, dI) vwCl (WR a k h0 (fT (fT (fT vi 5 (nI (cc + 1))) 6 0) 7 0) vj (fT (fT (fT (fT (fT (fT (fT vF 74 f74x) 0 gS) 4 f456) 6 f656) 2 f2S) 3 f3S) 0 g94) (fT vG 1 gsS)) H := fz_P ht hB9.1
        have hD : va_D A (WR a k h0 (fT (fT (fT vi 5 (nI (cc + 1))) 6 0) 7 0) vj (fT (fT (fT (fT (fT (fT (fT vF 74 f74x) 0 gS) 4 f456) 6 f656) 2 f2S) 3 f3S) 0 g94) (fT vG 1 gsS)) := hB9.2.weaken (fun _ q _ h => hFc q.1 h)
        have e9 : fT (fT (fT (fT (fT (fT vF 74 f74x) 0 g94) 4 f456) 6 f656) 2 f2S) 3 f3S = fT (fT (fT (fT (fT (fT (fT vF 74 f74x) 0 gS) 4 f456) 6 f656) 2 f2S) 3 f3S) 0 g94 := ((fT_sw _ _ _ (Nat.ne_of_beq_eq_false rfl)).trans (congrArg (fun g9 => fT g9 3 f3S) ((fT_sw _ _ _ (Nat.ne_of_beq_eq_false rfl)).trans (congrArg (fun g9 => fT g9 2 f2S) ((fT_sw _ _ _ (Nat.ne_of_beq_eq_false rfl)).trans (congrArg (fun g9 => fT g9 6 f656) ((fT_sw _ _ _ (Nat.ne_of_beq_eq_false rfl)).trans (congrArg (fun g9 => fT g9 4 f456) (fT_sm _ _ _ _))))))))).symm
        rw [← e9] at hP hD
        clear e9
        have hP : va_P (dC, dI) vwCl (WR a k h0 (fT (fT (fT vi 5 (nI (cc + 1))) 6 0) 7 0) vj (fT (fT (fT (fT (fT (fT vF 74 f74x) 0 g94) 4 f456) 6 f656) 2 f2S) 3 f3S) (fT vG 1 gsS)) H := hP
        have hD : va_D A (WR a k h0 (fT (fT (fT vi 5 (nI (cc + 1))) 6 0) 7 0) vj (fT (fT (fT (fT (fT (fT vF 74 f74x) 0 g94) 4 f456) 6 f656) 2 f2S) 3 f3S) (fT vG 1 gsS)) := hD
        have f94_0 := hw9
        try dsimp only at f94_0
        refine lv_iconst (v := 0) hx hb dX12_addsUp_97 (by decide) ?_
        refine lv_istore_n hx hb dX12_addsUp_98 rfl hl (by decide) rfl (fun ls (hl : lv_has ls _ ([(2, .int 0), (0, .ref h0)])) => ?_)
        have e9 : fT (fT (fT vi 5 (nI (cc + 1))) 6 (nI (2 * 0))) 7 0 = fT (fT (fT vi 5 (nI (cc + 1))) 6 0) 7 0 := by funext q9; by_cases h9_5 : q9 = 5; (subst h9_5; exact ((fT_ne _ _ (Nat.ne_of_beq_eq_false rfl)).trans ((fT_ne _ _ (Nat.ne_of_beq_eq_false rfl)).trans (fT_eq _ _ _))).trans (Eq.trans (by first | with_reducible rfl | with_reducible assumption | (symm; with_reducible assumption) | rfl | assumption | (symm; assumption) | (subst_vars; rfl)) ((fT_ne _ _ (Nat.ne_of_beq_eq_false rfl)).trans ((fT_ne _ _ (Nat.ne_of_beq_eq_false rfl)).trans (fT_eq _ _ _))).symm)); by_cases h9_6 : q9 = 6; (subst h9_6; exact ((fT_ne _ _ (Nat.ne_of_beq_eq_false rfl)).trans (fT_eq _ _ _)).trans (Eq.trans (by first | with_reducible rfl | with_reducible assumption | (symm; with_reducible assumption) | rfl | assumption | (symm; assumption) | (subst_vars; rfl)) ((fT_ne _ _ (Nat.ne_of_beq_eq_false rfl)).trans (fT_eq _ _ _)).symm)); by_cases h9_7 : q9 = 7; (subst h9_7; exact (fT_eq _ _ _).trans (Eq.trans (by first | with_reducible rfl | with_reducible assumption | (symm; with_reducible assumption) | rfl | assumption | (symm; assumption) | (subst_vars; rfl)) (fT_eq _ _ _).symm)); exact ((fT_ne _ _ h9_7).trans ((fT_ne _ _ h9_6).trans (fT_ne _ _ h9_5))).trans ((fT_ne _ _ h9_7).trans ((fT_ne _ _ h9_6).trans (fT_ne _ _ h9_5))).symm
        have hP : va_P (dC, dI) vwCl (WR a k h0 (fT (fT (fT vi 5 (nI (cc + 1))) 6 (nI (2 * 0))) 7 0) vj (fT (fT (fT (fT (fT (fT vF 74 f74x) 0 g94) 4 f456) 6 f656) 2 f2S) 3 f3S) (fT vG 1 gsS)) H := by rw [e9]; exact hP
        have hD : va_D A (WR a k h0 (fT (fT (fT vi 5 (nI (cc + 1))) 6 (nI (2 * 0))) 7 0) vj (fT (fT (fT (fT (fT (fT vF 74 f74x) 0 g94) 4 f456) 6 f656) 2 f2S) 3 f3S) (fT vG 1 gsS)) := by rw [e9]; exact hD
        clear e9
        have e9 : fT (fT (fT (fT (fT (fT (fT vF 74 f74x) 0 g94) 4 f456) 6 f656) 2 f2S) 3 f3S) 5 (vF 5) = fT (fT (fT (fT (fT (fT vF 74 f74x) 0 g94) 4 f456) 6 f656) 2 f2S) 3 f3S := by funext q9; by_cases h9_74 : q9 = 74; (subst h9_74; exact ((fT_ne _ _ (Nat.ne_of_beq_eq_false rfl)).trans ((fT_ne _ _ (Nat.ne_of_beq_eq_false rfl)).trans ((fT_ne _ _ (Nat.ne_of_beq_eq_false rfl)).trans ((fT_ne _ _ (Nat.ne_of_beq_eq_false rfl)).trans ((fT_ne _ _ (Nat.ne_of_beq_eq_false rfl)).trans ((fT_ne _ _ (Nat.ne_of_beq_eq_false rfl)).trans (fT_eq _ _ _))))))).trans (Eq.trans (by first | with_reducible rfl | with_reducible assumption | (symm; with_reducible assumption) | rfl | assumption | (symm; assumption) | (subst_vars; rfl)) ((fT_ne _ _ (Nat.ne_of_beq_eq_false rfl)).trans ((fT_ne _ _ (Nat.ne_of_beq_eq_false rfl)).trans ((fT_ne _ _ (Nat.ne_of_beq_eq_false rfl)).trans ((fT_ne _ _ (Nat.ne_of_beq_eq_false rfl)).trans ((fT_ne _ _ (Nat.ne_of_beq_eq_false rfl)).trans (fT_eq _ _ _)))))).symm)); by_cases h9_0 : q9 = 0; (subst h9_0; exact ((fT_ne _ _ (Nat.ne_of_beq_eq_false rfl)).trans ((fT_ne _ _ (Nat.ne_of_beq_eq_false rfl)).trans ((fT_ne _ _ (Nat.ne_of_beq_eq_false rfl)).trans ((fT_ne _ _ (Nat.ne_of_beq_eq_false rfl)).trans ((fT_ne _ _ (Nat.ne_of_beq_eq_false rfl)).trans (fT_eq _ _ _)))))).trans (Eq.trans (by first | with_reducible rfl | with_reducible assumption | (symm; with_reducible assumption) | rfl | assumption | (symm; assumption) | (subst_vars; rfl)) ((fT_ne _ _ (Nat.ne_of_beq_eq_false rfl)).trans ((fT_ne _ _ (Nat.ne_of_beq_eq_false rfl)).trans ((fT_ne _ _ (Nat.ne_of_beq_eq_false rfl)).trans ((fT_ne _ _ (Nat.ne_of_beq_eq_false rfl)).trans (fT_eq _ _ _))))).symm)); by_cases h9_4 : q9 = 4; (subst h9_4; exact ((fT_ne _ _ (Nat.ne_of_beq_eq_false rfl)).trans ((fT_ne _ _ (Nat.ne_of_beq_eq_false rfl)).trans ((fT_ne _ _ (Nat.ne_of_beq_eq_false rfl)).trans ((fT_ne _ _ (Nat.ne_of_beq_eq_false rfl)).trans (fT_eq _ _ _))))).trans (Eq.trans (by first | with_reducible rfl | with_reducible assumption | (symm; with_reducible assumption) | rfl | assumption | (symm; assumption) | (subst_vars; rfl)) ((fT_ne _ _ (Nat.ne_of_beq_eq_false rfl)).trans ((fT_ne _ _ (Nat.ne_of_beq_eq_false rfl)).trans ((fT_ne _ _ (Nat.ne_of_beq_eq_false rfl)).trans (fT_eq _ _ _)))).symm)); by_cases h9_6 : q9 = 6; (subst h9_6; exact ((fT_ne _ _ (Nat.ne_of_beq_eq_false rfl)).trans ((fT_ne _ _ (Nat.ne_of_beq_eq_false rfl)).trans ((fT_ne _ _ (Nat.ne_of_beq_eq_false rfl)).trans (fT_eq _ _ _)))).trans (Eq.trans (by first | with_reducible rfl | with_reducible assumption | (symm; with_reducible assumption) | rfl | assumption | (symm; assumption) | (subst_vars; rfl)) ((fT_ne _ _ (Nat.ne_of_beq_eq_false rfl)).trans ((fT_ne _ _ (Nat.ne_of_beq_eq_false rfl)).trans (fT_eq _ _ _))).symm)); by_cases h9_2 : q9 = 2; (subst h9_2; exact ((fT_ne _ _ (Nat.ne_of_beq_eq_false rfl)).trans ((fT_ne _ _ (Nat.ne_of_beq_eq_false rfl)).trans (fT_eq _ _ _))).trans (Eq.trans (by first | with_reducible rfl | with_reducible assumption | (symm; with_reducible assumption) | rfl | assumption | (symm; assumption) | (subst_vars; rfl)) ((fT_ne _ _ (Nat.ne_of_beq_eq_false rfl)).trans (fT_eq _ _ _)).symm)); by_cases h9_3 : q9 = 3; (subst h9_3; exact ((fT_ne _ _ (Nat.ne_of_beq_eq_false rfl)).trans (fT_eq _ _ _)).trans (Eq.trans (by first | with_reducible rfl | with_reducible assumption | (symm; with_reducible assumption) | rfl | assumption | (symm; assumption) | (subst_vars; rfl)) (fT_eq _ _ _).symm)); by_cases h9_5 : q9 = 5; (subst h9_5; exact (fT_eq _ _ _).trans (Eq.trans (by first | with_reducible rfl | with_reducible assumption | (symm; with_reducible assumption) | rfl | assumption | (symm; assumption) | (subst_vars; rfl)) ((fT_ne _ _ (Nat.ne_of_beq_eq_false rfl)).trans ((fT_ne _ _ (Nat.ne_of_beq_eq_false rfl)).trans ((fT_ne _ _ (Nat.ne_of_beq_eq_false rfl)).trans ((fT_ne _ _ (Nat.ne_of_beq_eq_false rfl)).trans ((fT_ne _ _ (Nat.ne_of_beq_eq_false rfl)).trans (fT_ne _ _ (Nat.ne_of_beq_eq_false rfl))))))).symm)); exact ((fT_ne _ _ h9_5).trans ((fT_ne _ _ h9_3).trans ((fT_ne _ _ h9_2).trans ((fT_ne _ _ h9_6).trans ((fT_ne _ _ h9_4).trans ((fT_ne _ _ h9_0).trans (fT_ne _ _ h9_74))))))).trans ((fT_ne _ _ h9_3).trans ((fT_ne _ _ h9_2).trans ((fT_ne _ _ h9_6).trans ((fT_ne _ _ h9_4).trans ((fT_ne _ _ h9_0).trans (fT_ne _ _ h9_74)))))).symm
        have hP : va_P (dC, dI) vwCl (WR a k h0 (fT (fT (fT vi 5 (nI (cc + 1))) 6 (nI (2 * 0))) 7 0) vj (fT (fT (fT (fT (fT (fT (fT vF 74 f74x) 0 g94) 4 f456) 6 f656) 2 f2S) 3 f3S) 5 (vF 5)) (fT vG 1 gsS)) H := by rw [e9]; exact hP
        have hD : va_D A (WR a k h0 (fT (fT (fT vi 5 (nI (cc + 1))) 6 (nI (2 * 0))) 7 0) vj (fT (fT (fT (fT (fT (fT (fT vF 74 f74x) 0 g94) 4 f456) 6 f656) 2 f2S) 3 f3S) 5 (vF 5)) (fT vG 1 gsS)) := by rw [e9]; exact hD
        clear e9
        have hl : lv_has _ _ ([(0, .ref h0), (2, .int (nI 0))]) := lv_sub hl [1, 0] rfl
        refine (fun (loop : ∀ (n9 : Nat) (k5 : Nat) (g1 : Nat → Int32) (f21 : Nat → Int32) (f31 : Nat → Int32) (f51 : Nat → Int32) (gs1 : Nat → Int64) (m1 : Nat → Int) (H : Heap) (locs : List Loc) (ls : Array Slot), (Bg g1 m1) → (k5 ≤ vn) → (BldP (cc + 1) (2 * k5) m1 f51 (bcl (ncS (ncw (vF 61) (vF 71) (vF 72) (vF 73)) z)) Bs) → (m1 1045 = mS 19) → (m1 20 = 1) → (∀ q, 1000 ≤ q → q ≠ 1045 → m1 q = mg q) →  (vn < k5 + n9) → va_P (dC, dI) vwCl (WR a k h0 (fT (fT (fT vi 5 (nI (cc + 1))) 6 (nI (2 * k5))) 7 0) vj (fT (fT (fT (fT (fT (fT (fT vF 74 f74x) 0 g1) 4 f456) 6 f656) 2 f21) 3 f31) 5 f51) (fT vG 1 gs1)) H → va_D A (WR a k h0 (fT (fT (fT vi 5 (nI (cc + 1))) 6 (nI (2 * k5))) 7 0) vj (fT (fT (fT (fT (fT (fT (fT vF 74 f74x) 0 g1) 4 f456) 6 f656) 2 f21) 3 f31) 5 f51) (fT vG 1 gs1)) → va_S A s.heap H locs → lv_has ls 6 [(0, .ref h0), (2, .int (nI k5))] → W p l e _ s m _ below meth c H locs 0 0 _ (F0 m 99 ls [])) => loop (vn + 1) 0 g94 f2S f3S (vF 5) gsS (fT mS 1045 (mS 19)) _ _ _ (f94_0) (by omega) (fun i hi => absurd hi (by omega)) ((by rw [fT_eq])) (by (rw [fT_ne _ _ (by omega)]); exact h20S) (fun q h1 h2 => by (rw [fT_ne _ _ (by omega)]); exact hoS q h1) (by omega) hP hD hS hl) ?_
        intro n9
        induction n9 with
        | zero => intro k5 g1 f21 f31 f51 gs1 m1 H locs ls hB1 hk5 hBl1 h451 h201 ho1 hf9; exact False.elim (by omega)
        | succ n9 ih99_1 =>
          intro k5 g1 f21 f31 f51 gs1 m1 H locs ls hB1 hk5 hBl1 h451 h201 ho1 hf99_1 hP hD hS hl
          refine lv_iload_n hx hb dX12_addsUp_99 rfl (lv_at hl 1 rfl) ?_
          refine lv_aload_n hx hb dX12_addsUp_100 rfl (lv_at hl 0 rfl) ?_
          refine va_get (D := (dC, dI)) (ci := 12) (v := .int (vi 90)) (C := RX12) (T := TX12) (N := 163) (fs := fM (vS a (fT (fT (fT vi 5 (nI (cc + 1))) 6 (nI (2 * k5))) 7 0) vj)) hx hb hts iwsRX12_addsUp_in12 hown hK hP 0 rfl rfl 90 (by decide) (hts (.fieldLink RX12 774 "OptimaWorksModel" "variables" "I") (by decide +kernel)) (fun _ h9 => h9) rfl dX12_addsUp_101 ?_
          refine lv_topi (fun y3 hy3 => ?_)
          obtain rfl : (nI vn) = y3 := (hy3.trans (hvn)).symm
          refine lv_icmp_ge (tgt := 267) hx hb dX12_addsUp_104 (by decide) (fun c_104 => ?_) (fun c_104 => ?_)
          · have t_104 : ((k5 : Nat) : Int) ≥ ((vn : Nat) : Int) := toI_ge c_104 (nI_toInt (by omega)) (nI_toInt (by omega))
            refine W.cut (pc := 385) (fun H locs ls stk => ∃ (Rf : Nat) (gF : Nat → Int32) (f5F : Nat → Int32) (mF : Nat → Int), (Bg gF mF) ∧ ((Rf ≤ 16 ∧ Bs = 2 ^ 74) ∨ (Rf ≤ 18 ∧ Bs = 1)) ∧ (BldP (cc + 1) Rf mF f5F (bcl (ncS (ncw (vF 61) (vF 71) (vF 72) (vF 73)) z)) Bs) ∧ (mF 1045 = mS 19) ∧ (mF 20 = 1) ∧ (∀ q, 1000 ≤ q → q ≠ 1045 → mF q = mg q) ∧  stk = [] ∧ va_P (dC, dI) vwCl (WR a k h0 (fT (fT (fT vi 5 (nI (cc + 1))) 6 (nI Rf)) 7 0) vj (fT (fT (fT (fT (fT (fT (fT vF 74 f74x) 0 gF) 4 f456) 6 f656) 2 f21) 3 f31) 5 f5F) (fT vG 1 gs1)) H ∧ va_D A (WR a k h0 (fT (fT (fT vi 5 (nI (cc + 1))) 6 (nI Rf)) 7 0) vj (fT (fT (fT (fT (fT (fT (fT vF 74 f74x) 0 gF) 4 f456) 6 f656) 2 f21) 3 f31) 5 f5F) (fT vG 1 gs1)) ∧ va_S A s.heap H locs ∧ lv_has ls 6 [(0, .ref h0)]) (fun join2 => ?_) ?_
            · have ek5 : k5 = vn := by omega
              have e10 : nI (2 * vn + 0) = nI (2 * k5) := by rw [ek5]; rfl
              have hBlv : BldP (cc + 1) (2 * vn + 0) m1 f51 (bcl (ncS (ncw (vF 61) (vF 71) (vF 72) (vF 73)) z)) Bs := by (have h9 := hBl1); rw [ek5] at h9; exact h9
              refine lv_iconst (v := 1) hx hb dX12_addsUp_267 (by decide) ?_
              refine lv_istore_n hx hb dX12_addsUp_268 rfl hl (by decide) rfl (fun ls (hl : lv_has ls _ ([(2, .int 1), (0, .ref h0)])) => ?_)
              have e9 : fT (fT (fT vi 5 (nI (cc + 1))) 6 (nI (2 * vn + 0))) 7 0 = fT (fT (fT vi 5 (nI (cc + 1))) 6 (nI (2 * k5))) 7 0 := by funext q9; by_cases h9_5 : q9 = 5; (subst h9_5; exact ((fT_ne _ _ (Nat.ne_of_beq_eq_false rfl)).trans ((fT_ne _ _ (Nat.ne_of_beq_eq_false rfl)).trans (fT_eq _ _ _))).trans (Eq.trans (by first | with_reducible rfl | with_reducible assumption | (symm; with_reducible assumption) | rfl | assumption | (symm; assumption) | (subst_vars; rfl)) ((fT_ne _ _ (Nat.ne_of_beq_eq_false rfl)).trans ((fT_ne _ _ (Nat.ne_of_beq_eq_false rfl)).trans (fT_eq _ _ _))).symm)); by_cases h9_6 : q9 = 6; (subst h9_6; exact ((fT_ne _ _ (Nat.ne_of_beq_eq_false rfl)).trans (fT_eq _ _ _)).trans (Eq.trans (by first | with_reducible rfl | with_reducible assumption | (symm; with_reducible assumption) | rfl | assumption | (symm; assumption) | (subst_vars; rfl)) ((fT_ne _ _ (Nat.ne_of_beq_eq_false rfl)).trans (fT_eq _ _ _)).symm)); by_cases h9_7 : q9 = 7; (subst h9_7; exact (fT_eq _ _ _).trans (Eq.trans (by first | with_reducible rfl | with_reducible assumption | (symm; with_reducible assumption) | rfl | assumption | (symm; assumption) | (subst_vars; rfl)) (fT_eq _ _ _).symm)); exact ((fT_ne _ _ h9_7).trans ((fT_ne _ _ h9_6).trans (fT_ne _ _ h9_5))).trans ((fT_ne _ _ h9_7).trans ((fT_ne _ _ h9_6).trans (fT_ne _ _ h9_5))).symm
              have hP : va_P (dC, dI) vwCl (WR a k h0 (fT (fT (fT vi 5 (nI (cc + 1))) 6 (nI (2 * vn + 0))) 7 0) vj (fT (fT (fT (fT (fT (fT (fT vF 74 f74x) 0 g1) 4 f456) 6 f656) 2 f21) 3 f31) 5 f51) (fT vG 1 gs1)) H := by rw [e9]; exact hP
              have hD : va_D A (WR a k h0 (fT (fT (fT vi 5 (nI (cc + 1))) 6 (nI (2 * vn + 0))) 7 0) vj (fT (fT (fT (fT (fT (fT (fT vF 74 f74x) 0 g1) 4 f456) 6 f656) 2 f21) 3 f31) 5 f51) (fT vG 1 gs1)) := by rw [e9]; exact hD
              clear e9
              have hl : lv_has _ _ ([(0, .ref h0), (2, .int 1)]) := lv_sub hl [1, 0] rfl
              refine (fun (loop : ∀ (n9 : Nat) (hw2 : Int32) (hq2 : Nat) (g5 : Nat → Int32) (f55 : Nat → Int32) (m5 : Nat → Int) (H : Heap) (locs : List Loc) (ls : Array Slot), (Bg g5 m5) → ((hq2 = 0 ∧ hw2 = 1) ∨ (hq2 = 1 ∧ hw2 = -1) ∨ (hq2 = 2 ∧ hw2 = -3)) → (hq2 = 0 ∨ vi 118 ≠ 0) → (BldP (cc + 1) (2 * vn + hq2) m5 f55 (bcl (ncS (ncw (vF 61) (vF 71) (vF 72) (vF 73)) z)) Bs) → (m5 1045 = mS 19) → (m5 20 = 1) → (∀ q, 1000 ≤ q → q ≠ 1045 → m5 q = mg q) →  (3 < hq2 + n9) → va_P (dC, dI) vwCl (WR a k h0 (fT (fT (fT vi 5 (nI (cc + 1))) 6 (nI (2 * vn + hq2))) 7 0) vj (fT (fT (fT (fT (fT (fT (fT vF 74 f74x) 0 g5) 4 f456) 6 f656) 2 f21) 3 f31) 5 f55) (fT vG 1 gs1)) H → va_D A (WR a k h0 (fT (fT (fT vi 5 (nI (cc + 1))) 6 (nI (2 * vn + hq2))) 7 0) vj (fT (fT (fT (fT (fT (fT (fT vF 74 f74x) 0 g5) 4 f456) 6 f656) 2 f21) 3 f31) 5 f55) (fT vG 1 gs1)) → va_S A s.heap H locs → lv_has ls 6 [(0, .ref h0), (2, .int hw2)] → W p l e _ s m _ below meth c H locs 0 0 _ (F0 m 269 ls [])) => loop (4) 1 0 g1 f51 m1 _ _ _ (hB1) (Or.inl ⟨rfl, rfl⟩) (Or.inl rfl) (hBlv) (h451) (h201) (ho1) (by omega) hP hD hS hl) ?_
              intro n9
              induction n9 with
              | zero => intro hw2 hq2 g5 f55 m5 H locs ls hB5 hh2 hsh hBl5 h455 h205 ho5 hf9; exact False.elim (by omega)
              | succ n9 ih269_2 =>
                intro hw2 hq2 g5 f55 m5 H locs ls hB5 hh2 hsh hBl5 h455 h205 ho5 hf269_2 hP hD hS hl
                refine lv_iload_n hx hb dX12_addsUp_269 rfl (lv_at hl 1 rfl) ?_
                refine lv_iconst (v := (-1)) hx hb dX12_addsUp_270 (by decide) ?_
                refine lv_icmp_lt (tgt := 385) hx hb dX12_addsUp_271 (by decide) (fun c_271 => ?_) (fun c_271 => ?_)
                · have t_271 : (hw2).toInt < -1 := toI_lt c_271 rfl (by decide)
                  have hl : lv_has _ _ ([(0, .ref h0)]) := lv_sub hl [0] rfl
                  exact join2 _ _ _ _ ⟨(2 * vn + hq2), g5, f55, m5, hB5, by (have hq9 : hq2 = 2 := by rcases hh2 with ⟨h1, h2⟩ | ⟨h1, h2⟩ | ⟨h1, h2⟩; (exfalso; rw [h2] at t_271; exact absurd t_271 (by decide)); (exfalso; rw [h2] at t_271; exact absurd t_271 (by decide)); (exact h1)); exact Or.inr ⟨by omega, by rw [hBs, if_neg (hsh.resolve_left (by omega))]⟩, hBl5, h455, h205, ho5, rfl, hP, hD, hS, hl⟩
                · have t_271 : ¬ (hw2).toInt < -1 := toI_nlt c_271 rfl (by decide)
                  refine lv_aload_n hx hb dX12_addsUp_274 rfl (lv_at hl 0 rfl) ?_
                  refine va_get (D := (dC, dI)) (ci := 12) (v := .int (vi 118)) (C := RX12) (T := TX12) (N := 163) (fs := fM (vS a (fT (fT (fT vi 5 (nI (cc + 1))) 6 (nI (2 * vn + hq2))) 7 0) vj)) hx hb hts iwsRX12_addsUp_in12 hown hK hP 0 rfl rfl 118 (by decide) (hts (.fieldLink RX12 903 "OptimaWorksModel" "isShort" "Z") (by decide +kernel)) (fun _ h9 => h9) rfl dX12_addsUp_275 ?_
                  refine lv_if_eq (tgt := 385) hx hb dX12_addsUp_278 (by decide) (fun c_278 => ?_) (fun c_278 => ?_)
                  · have t_278 : ((vi 118)).toInt = 0 := toI_eq c_278 rfl (by decide)
                    have hl : lv_has _ _ ([(0, .ref h0)]) := lv_sub hl [0] rfl
                    exact join2 _ _ _ _ ⟨(2 * vn + hq2), g5, f55, m5, hB5, Or.inl ⟨by (have h9 := hsh.resolve_right (fun h => h c_278)); omega, by rw [hBs, if_pos c_278]⟩, hBl5, h455, h205, ho5, rfl, hP, hD, hS, hl⟩
                  · have t_278 : ¬ ((vi 118)).toInt = 0 := toI_neq c_278 rfl (by decide)
                    obtain ⟨hI, hhI, hI1, hq1⟩ : ∃ hI : Int, (hw2).toInt = hI ∧ (hI = 1 ∨ hI = -1) ∧ hq2 < 2 := by rcases hh2 with ⟨h1, h2⟩ | ⟨h1, h2⟩ | ⟨h1, h2⟩; (exact ⟨1, by rw [h2]; decide, Or.inl rfl, by omega⟩); (exact ⟨-1, by rw [h2]; decide, Or.inr rfl, by omega⟩); (exfalso; rw [h2] at t_271; exact absurd t_271 (by decide))
                    have hmul := hex (2 * vn + hq2) (by omega)
                    have hmul2 : (2 * vn + hq2 + 1) * (cc + 1 + 1) ≤ 18 * 42 := Nat.mul_le_mul (by omega) (by omega)
                    rw [Nat.succ_mul] at hmul2
                    refine lv_aload_n hx hb dX12_addsUp_281 rfl (lv_at hl 0 rfl) ?_
                    have hFc := allFree hD hS hA
                    refine va_calli (va_runV (As := []) (rest := []) ⟨hx, hb, hml, hown, hts⟩ (r_X12_newLine l dC dI a k h0 (fT (fT (fT vi 5 (nI (cc + 1))) 6 (nI (2 * vn + hq2))) 7 0) vj (fT (fT (fT (fT (fT (fT (fT vF 74 f74x) 0 g5) 4 f456) 6 f656) 2 f21) 3 f31) 5 f55) (fT vG 1 gs1) (cc + 1) (2 * vn + hq2) m5 hB5 (by first | with_reducible assumption | decide | omega | rfl | assumption) (by first | with_reducible assumption | decide | omega | rfl | assumption) (by first | with_reducible assumption | decide | omega | rfl | assumption) (by first | with_reducible assumption | decide | omega | rfl | assumption) (by first | with_reducible assumption | decide | omega | rfl | assumption) (by first | with_reducible assumption | decide | omega | rfl | assumption) H.size) (cwV 0 hts gwsRX12_addsUp_4 rfl rfl rfl hd_yX12_newLine_RX12 (by decide +kernel)) (fz_pre (va_recv hK hP (ci := 12) (q0 := 0) rfl rfl) hP hK hD) rfl rfl hl.1 rfl (lv_room (Nat.le_of_ble_eq_true rfl)) dX12_addsUp_282 (by decide +kernel)) hS (fun q _ h => hFc q h) hFc (fun r282 u t9_ H locs ht hvm hw9 hB9 hz1 hk1 hS => ?_)
                    revert u
                    refine fz_p2 ?_
                    intro g282 m2282 hw9 hB9
                    try dsimp only at hw9 hB9
                    have hP : va_P (dC, dI) vwCl (WR a k h0 (fT (fT (fT (fT vi 5 (nI (cc + 1))) 6 (nI (2 * vn + hq2))) 7 0) 6 (nI ((2 * vn + hq2) + 1))) vj (fT (fT (fT (fT (fT (fT (fT (fT (fT vF 74 f74x) 0 g5) 4 f456) 6 f656) 2 f21) 3 f31) 5 f55) 0 g282) 5 (upd f55 (nI (2 * vn + hq2)).toNatClampNeg (nI ((cc + 1) + (2 * vn + hq2))))) (fT vG 1 gs1)) H := fz_P ht hB9.1
                    have hD : va_D A (WR a k h0 (fT (fT (fT (fT vi 5 (nI (cc + 1))) 6 (nI (2 * vn + hq2))) 7 0) 6 (nI ((2 * vn + hq2) + 1))) vj (fT (fT (fT (fT (fT (fT (fT (fT (fT vF 74 f74x) 0 g5) 4 f456) 6 f656) 2 f21) 3 f31) 5 f55) 0 g282) 5 (upd f55 (nI (2 * vn + hq2)).toNatClampNeg (nI ((cc + 1) + (2 * vn + hq2))))) (fT vG 1 gs1)) := hB9.2.weaken (fun _ q _ h => hFc q.1 h)
                    have e9 : fT (fT (fT vi 5 (nI (cc + 1))) 6 (nI ((2 * vn + hq2) + 1))) 7 0 = fT (fT (fT (fT vi 5 (nI (cc + 1))) 6 (nI (2 * vn + hq2))) 7 0) 6 (nI ((2 * vn + hq2) + 1)) := ((fT_sw _ _ _ (Nat.ne_of_beq_eq_false rfl)).trans (congrArg (fun g9 => fT g9 7 0) (fT_sm _ _ _ _))).symm
                    rw [← e9] at hP hD
                    clear e9
                    have e9 : fT (fT (fT (fT (fT (fT (fT vF 74 f74x) 0 g282) 4 f456) 6 f656) 2 f21) 3 f31) 5 (upd f55 (nI (2 * vn + hq2)).toNatClampNeg (nI ((cc + 1) + (2 * vn + hq2)))) = fT (fT (fT (fT (fT (fT (fT (fT (fT vF 74 f74x) 0 g5) 4 f456) 6 f656) 2 f21) 3 f31) 5 f55) 0 g282) 5 (upd f55 (nI (2 * vn + hq2)).toNatClampNeg (nI ((cc + 1) + (2 * vn + hq2)))) := ((congrArg (fun g9 => fT g9 5 (upd f55 (nI (2 * vn + hq2)).toNatClampNeg (nI ((cc + 1) + (2 * vn + hq2))))) ((fT_sw _ _ _ (Nat.ne_of_beq_eq_false rfl)).trans (congrArg (fun g9 => fT g9 5 f55) ((fT_sw _ _ _ (Nat.ne_of_beq_eq_false rfl)).trans (congrArg (fun g9 => fT g9 3 f31) ((fT_sw _ _ _ (Nat.ne_of_beq_eq_false rfl)).trans (congrArg (fun g9 => fT g9 2 f21) ((fT_sw _ _ _ (Nat.ne_of_beq_eq_false rfl)).trans (congrArg (fun g9 => fT g9 6 f656) ((fT_sw _ _ _ (Nat.ne_of_beq_eq_false rfl)).trans (congrArg (fun g9 => fT g9 4 f456) (fT_sm _ _ _ _)))))))))))).trans (fT_sm _ _ _ _)).symm
                    rw [← e9] at hP hD
                    clear e9
                    have hP : va_P (dC, dI) vwCl (WR a k h0 (fT (fT (fT vi 5 (nI (cc + 1))) 6 (nI ((2 * vn + hq2) + 1))) 7 0) vj (fT (fT (fT (fT (fT (fT (fT vF 74 f74x) 0 g282) 4 f456) 6 f656) 2 f21) 3 f31) 5 (upd f55 (nI (2 * vn + hq2)).toNatClampNeg (nI ((cc + 1) + (2 * vn + hq2))))) (fT vG 1 gs1)) H := hP
                    have hD : va_D A (WR a k h0 (fT (fT (fT vi 5 (nI (cc + 1))) 6 (nI ((2 * vn + hq2) + 1))) 7 0) vj (fT (fT (fT (fT (fT (fT (fT vF 74 f74x) 0 g282) 4 f456) 6 f656) 2 f21) 3 f31) 5 (upd f55 (nI (2 * vn + hq2)).toNatClampNeg (nI ((cc + 1) + (2 * vn + hq2))))) (fT vG 1 gs1)) := hD
                    obtain ⟨rfl, f282_0, f282_1, f282_2⟩ := hw9
                    refine lv_istore_n hx hb dX12_addsUp_285 rfl hl (by decide) rfl (fun ls (hl : lv_has ls _ ([(3, .int (nI (2 * vn + hq2))), (0, .ref h0), (2, .int hw2)])) => ?_)
                    refine lv_iconst (v := 0) hx hb dX12_addsUp_286 (by decide) ?_
                    refine lv_istore hx hb dX12_addsUp_287 hl (by decide) rfl (fun ls (hl : lv_has ls _ ([(4, .int 0), (3, .int (nI (2 * vn + hq2))), (0, .ref h0), (2, .int hw2)])) => ?_)
                    have hl : lv_has _ _ ([(0, .ref h0), (2, .int hw2), (3, .int (nI (2 * vn + hq2))), (4, .int (nI 0))]) := lv_sub hl [2, 3, 1, 0] rfl
                    refine (fun (loop : ∀ (n9 : Nat) (i7 : Nat) (g6 : Nat → Int32) (m6a : Nat → Int) (H : Heap) (locs : List Loc) (ls : Array Slot), (Bg g6 m6a) → (i7 ≤ nd) → (RwB (cc + 1) m6a (2 * vn + hq2) (bcl (ncS (ncw (vF 61) (vF 71) (vF 72) (vF 73)) z))) → (∀ q, (q < 30 + (2 * vn + hq2) * (cc + 1 + 1) ∨ 30 + (2 * vn + hq2) * (cc + 1 + 1) + (cc + 1 - 1) ≤ q) → m6a q = m2282 q) →  (nd < i7 + n9) → va_P (dC, dI) vwCl (WR a k h0 (fT (fT (fT vi 5 (nI (cc + 1))) 6 (nI ((2 * vn + hq2) + 1))) 7 0) vj (fT (fT (fT (fT (fT (fT (fT vF 74 f74x) 0 g6) 4 f456) 6 f656) 2 f21) 3 f31) 5 (upd f55 (nI (2 * vn + hq2)).toNatClampNeg (nI ((cc + 1) + (2 * vn + hq2))))) (fT vG 1 gs1)) H → va_D A (WR a k h0 (fT (fT (fT vi 5 (nI (cc + 1))) 6 (nI ((2 * vn + hq2) + 1))) 7 0) vj (fT (fT (fT (fT (fT (fT (fT vF 74 f74x) 0 g6) 4 f456) 6 f656) 2 f21) 3 f31) 5 (upd f55 (nI (2 * vn + hq2)).toNatClampNeg (nI ((cc + 1) + (2 * vn + hq2))))) (fT vG 1 gs1)) → va_S A s.heap H locs → lv_has ls 6 [(0, .ref h0), (2, .int hw2), (3, .int (nI (2 * vn + hq2))), (4, .int (nI i7))] → W p l e _ s m _ below meth c H locs 0 0 _ (F0 m 289 ls [])) => loop (nd + 1) 0 g282 m2282 _ _ _ (f282_0) (by omega) (fun j hj => by rw [f282_1 j (by omega), if_neg (by omega)]; exact Nat.zero_le _) (fun q _ => rfl) (by omega) hP hD hS hl) ?_
                    intro n9
                    induction n9 with
                    | zero => intro i7 g6 m6a H locs ls hB6 hi7 hrw hfr hf9; exact False.elim (by omega)
                    | succ n9 ih289_3 =>
                      intro i7 g6 m6a H locs ls hB6 hi7 hrw hfr hf289_3 hP hD hS hl
                      refine lv_iload hx hb dX12_addsUp_289 (lv_at hl 3 rfl) ?_
                      refine lv_aload_n hx hb dX12_addsUp_291 rfl (lv_at hl 0 rfl) ?_
                      refine va_get (D := (dC, dI)) (ci := 12) (v := .int (vi 119)) (C := RX12) (T := TX12) (N := 163) (fs := fM (vS a (fT (fT (fT vi 5 (nI (cc + 1))) 6 (nI ((2 * vn + hq2) + 1))) 7 0) vj)) hx hb hts iwsRX12_addsUp_in12 hown hK hP 0 rfl rfl 119 (by decide) (hts (.fieldLink RX12 894 "OptimaWorksModel" "needs" "I") (by decide +kernel)) (fun _ h9 => h9) rfl dX12_addsUp_292 ?_
                      refine lv_topi (fun y4 hy4 => ?_)
                      obtain rfl : (nI nd) = y4 := (hy4.trans (hnd)).symm
                      refine lv_icmp_ge (tgt := 364) hx hb dX12_addsUp_295 (by decide) (fun c_295 => ?_) (fun c_295 => ?_)
                      · have t_295 : ((i7 : Nat) : Int) ≥ ((nd : Nat) : Int) := toI_ge c_295 (nI_toInt (by omega)) (nI_toInt (by omega))
                        refine lv_aload_n hx hb dX12_addsUp_364 rfl (lv_at hl 0 rfl) ?_
                        refine lv_aload_n hx hb dX12_addsUp_365 rfl (lv_at hl 0 rfl) ?_
                        refine lv_iload_n hx hb dX12_addsUp_366 rfl (lv_at hl 2 rfl) ?_
                        refine lv_aload_n hx hb dX12_addsUp_367 rfl (lv_at hl 0 rfl) ?_
                        refine va_get (D := (dC, dI)) (ci := 12) (v := .int (nI (cc + 1))) (C := RX12) (T := TX12) (N := 163) (fs := fM (vS a (fT (fT (fT vi 5 (nI (cc + 1))) 6 (nI ((2 * vn + hq2) + 1))) 7 0) vj)) hx hb hts iwsRX12_addsUp_in12 hown hK hP 0 rfl rfl 5 (by decide) (hts (.fieldLink RX12 396 "OptimaWorksModel" "columns" "I") (by decide +kernel)) (fun _ h9 => h9) rfl dX12_addsUp_368 ?_
                        have hFc := allFree hD hS hA
                        refine va_calli (va_runV (As := [.int (nI (2 * vn + hq2)), .int (nI (cc + 1))]) (rest := [.ref h0]) ⟨hx, hb, hml, hown, hts⟩ (r_X12_at l dC dI a k h0 (fT (fT (fT vi 5 (nI (cc + 1))) 6 (nI ((2 * vn + hq2) + 1))) 7 0) vj (fT (fT (fT (fT (fT (fT (fT vF 74 f74x) 0 g6) 4 f456) 6 f656) 2 f21) 3 f31) 5 (upd f55 (nI (2 * vn + hq2)).toNatClampNeg (nI ((cc + 1) + (2 * vn + hq2))))) (fT vG 1 gs1) (2 * vn + hq2) (cc + 1) (cc + 1) (by first | with_reducible assumption | decide | omega | rfl | assumption) H.size) (cwV 2 hts gwsRX12_addsUp_5 rfl rfl rfl hd_yX12_at_RX12 (by decide +kernel)) (fz_pre (va_recv hK hP (ci := 12) (q0 := 0) rfl rfl) hP hK hD) rfl rfl hl.1 rfl (lv_room (Nat.le_of_ble_eq_true rfl)) dX12_addsUp_371 (by decide +kernel)) hS (fun q _ h => hFc q h) hFc (fun r371 u t9_ H locs ht hvm hw9 hB9 hz1 hk1 hS => ?_)
                        have hP : va_P (dC, dI) vwCl (WR a k h0 (fT (fT (fT vi 5 (nI (cc + 1))) 6 (nI ((2 * vn + hq2) + 1))) 7 0) vj (fT (fT (fT (fT (fT (fT (fT vF 74 f74x) 0 g6) 4 f456) 6 f656) 2 f21) 3 f31) 5 (upd f55 (nI (2 * vn + hq2)).toNatClampNeg (nI ((cc + 1) + (2 * vn + hq2))))) (fT vG 1 gs1)) H := fz_P ht hB9.1
                        have hD : va_D A (WR a k h0 (fT (fT (fT vi 5 (nI (cc + 1))) 6 (nI ((2 * vn + hq2) + 1))) 7 0) vj (fT (fT (fT (fT (fT (fT (fT vF 74 f74x) 0 g6) 4 f456) 6 f656) 2 f21) 3 f31) 5 (upd f55 (nI (2 * vn + hq2)).toNatClampNeg (nI ((cc + 1) + (2 * vn + hq2))))) (fT vG 1 gs1)) := hB9.2.weaken (fun _ q _ h => hFc q.1 h)
                        obtain rfl := hw9
                        refine lv_iload_n hx hb dX12_addsUp_374 rfl (lv_at hl 1 rfl) ?_
                        refine lv_i2l hx hb dX12_addsUp_375 rfl ?_
                        have hFc := allFree hD hS hA
                        refine va_callv (va_runV (As := [.int (nI (30 + (2 * vn + hq2) * ((cc + 1) + 1) + (cc + 1))), .long (hw2).toInt64]) (rest := []) ⟨hx, hb, hml, hown, hts⟩ (b_X12_put l dC dI a k h0 (fT (fT (fT vi 5 (nI (cc + 1))) 6 (nI ((2 * vn + hq2) + 1))) 7 0) vj (fT (fT (fT (fT (fT (fT (fT vF 74 f74x) 0 g6) 4 f456) 6 f656) 2 f21) 3 f31) 5 (upd f55 (nI (2 * vn + hq2)).toNatClampNeg (nI ((cc + 1) + (2 * vn + hq2))))) (fT vG 1 gs1) (30 + (2 * vn + hq2) * ((cc + 1) + 1) + (cc + 1)) ((hw2).toInt64) hI m6a hB6 (by first | with_reducible assumption | decide | omega | rfl | assumption) ((i64T _).trans hhI) (by omega) H.size) (cwV 2 hts gwsRX12_addsUp_1 rfl rfl rfl hd_yX12_put_RX12 (by decide +kernel)) (fz_pre (va_recv hK hP (ci := 12) (q0 := 0) rfl rfl) hP hK hD) rfl rfl hl.1 rfl (lv_room (Nat.le_of_ble_eq_true rfl)) dX12_addsUp_376 (by decide +kernel)) hS (fun q _ h => hFc q h) hFc (fun g376 t9_ H locs ht hvm hw9 hB9 hz1 hk1 hS => ?_)
                        have hP : va_P (dC, dI) vwCl (WR a k h0 (fT (fT (fT vi 5 (nI (cc + 1))) 6 (nI ((2 * vn + hq2) + 1))) 7 0) vj (fT (fT (fT (fT (fT (fT (fT (fT vF 74 f74x) 0 g6) 4 f456) 6 f656) 2 f21) 3 f31) 5 (upd f55 (nI (2 * vn + hq2)).toNatClampNeg (nI ((cc + 1) + (2 * vn + hq2))))) 0 g376) (fT vG 1 gs1)) H := fz_P ht hB9.1
                        have hD : va_D A (WR a k h0 (fT (fT (fT vi 5 (nI (cc + 1))) 6 (nI ((2 * vn + hq2) + 1))) 7 0) vj (fT (fT (fT (fT (fT (fT (fT (fT vF 74 f74x) 0 g6) 4 f456) 6 f656) 2 f21) 3 f31) 5 (upd f55 (nI (2 * vn + hq2)).toNatClampNeg (nI ((cc + 1) + (2 * vn + hq2))))) 0 g376) (fT vG 1 gs1)) := hB9.2.weaken (fun _ q _ h => hFc q.1 h)
                        have e9 : fT (fT (fT (fT (fT (fT (fT vF 74 f74x) 0 g376) 4 f456) 6 f656) 2 f21) 3 f31) 5 (upd f55 (nI (2 * vn + hq2)).toNatClampNeg (nI ((cc + 1) + (2 * vn + hq2)))) = fT (fT (fT (fT (fT (fT (fT (fT vF 74 f74x) 0 g6) 4 f456) 6 f656) 2 f21) 3 f31) 5 (upd f55 (nI (2 * vn + hq2)).toNatClampNeg (nI ((cc + 1) + (2 * vn + hq2))))) 0 g376 := ((fT_sw _ _ _ (Nat.ne_of_beq_eq_false rfl)).trans (congrArg (fun g9 => fT g9 5 (upd f55 (nI (2 * vn + hq2)).toNatClampNeg (nI ((cc + 1) + (2 * vn + hq2))))) ((fT_sw _ _ _ (Nat.ne_of_beq_eq_false rfl)).trans (congrArg (fun g9 => fT g9 3 f31) ((fT_sw _ _ _ (Nat.ne_of_beq_eq_false rfl)).trans (congrArg (fun g9 => fT g9 2 f21) ((fT_sw _ _ _ (Nat.ne_of_beq_eq_false rfl)).trans (congrArg (fun g9 => fT g9 6 f656) ((fT_sw _ _ _ (Nat.ne_of_beq_eq_false rfl)).trans (congrArg (fun g9 => fT g9 4 f456) (fT_sm _ _ _ _))))))))))).symm
                        rw [← e9] at hP hD
                        clear e9
                        have hP : va_P (dC, dI) vwCl (WR a k h0 (fT (fT (fT vi 5 (nI (cc + 1))) 6 (nI ((2 * vn + hq2) + 1))) 7 0) vj (fT (fT (fT (fT (fT (fT (fT vF 74 f74x) 0 g376) 4 f456) 6 f656) 2 f21) 3 f31) 5 (upd f55 (nI (2 * vn + hq2)).toNatClampNeg (nI ((cc + 1) + (2 * vn + hq2))))) (fT vG 1 gs1)) H := hP
                        have hD : va_D A (WR a k h0 (fT (fT (fT vi 5 (nI (cc + 1))) 6 (nI ((2 * vn + hq2) + 1))) 7 0) vj (fT (fT (fT (fT (fT (fT (fT vF 74 f74x) 0 g376) 4 f456) 6 f656) 2 f21) 3 f31) 5 (upd f55 (nI (2 * vn + hq2)).toNatClampNeg (nI ((cc + 1) + (2 * vn + hq2))))) (fT vG 1 gs1)) := hD
                        have f376_0 := hw9
                        try dsimp only at f376_0
                        have hBl9 : BldP (cc + 1) (2 * vn + hq2 + 1) (fT m6a (30 + (2 * vn + hq2) * ((cc + 1) + 1) + (cc + 1)) hI) (upd f55 (nI (2 * vn + hq2)).toNatClampNeg (nI (cc + 1 + (2 * vn + hq2)))) (bcl (ncS (ncw (vF 61) (vF 71) (vF 72) (vF 73)) z)) Bs := hBl5.more (fun i2 hi2 => by rw [upd_at (by omega), if_neg (by omega)]) (fun p h1 h2 => by (rw [fT_ne _ _ (by omega)]); rw [hfr _ (by omega), f282_2 _ (by omega)]) (by omega) (by rw [upd_at (by omega), if_pos rfl]) (fun j hj => by (rw [fT_ne _ _ (by omega)]); exact hrw j hj) (by (rw [fT_ne _ _ (by omega)]); rw [hfr _ (by omega), f282_1 (cc + 1 - 1) (by omega), if_pos rfl]) (by rw [fT_eq]; rcases hI1 with h | h <;> rw [h] <;> exact hBs1)
                        have h459 : (fT m6a (30 + (2 * vn + hq2) * ((cc + 1) + 1) + (cc + 1)) hI) 1045 = mS 19 := by (rw [fT_ne _ _ (by omega)]); rw [hfr _ (by omega), f282_2 _ (by omega)]; exact h455
                        have h209 : (fT m6a (30 + (2 * vn + hq2) * ((cc + 1) + 1) + (cc + 1)) hI) 20 = 1 := by (rw [fT_ne _ _ (by omega)]); rw [hfr _ (by omega), f282_2 _ (by omega)]; exact h205
                        have ho9 : ∀ q, 1000 ≤ q → q ≠ 1045 → (fT m6a (30 + (2 * vn + hq2) * ((cc + 1) + 1) + (cc + 1)) hI) q = mg q := fun q h1 h2 => by (rw [fT_ne _ _ (by omega)]); rw [hfr _ (by omega), f282_2 _ (by omega)]; exact ho5 q h1 h2
                        refine lv_iinc (v := (hw2 + (-2))) hx hb dX12_addsUp_379 hl (k := 1) rfl rfl (by decide) rfl (fun ls (hl : lv_has ls _ ([(2, .int (hw2 + (-2))), (0, .ref h0), (3, .int (nI (2 * vn + hq2))), (4, .int (nI i7))])) => ?_)
                        refine lv_goto (tgt := 269) hx hb dX12_addsUp_382 (by decide) ?_
                        have e9 : fT (fT (fT vi 5 (nI (cc + 1))) 6 (nI (2 * vn + (hq2 + 1)))) 7 0 = fT (fT (fT vi 5 (nI (cc + 1))) 6 (nI ((2 * vn + hq2) + 1))) 7 0 := by funext q9; by_cases h9_5 : q9 = 5; (subst h9_5; exact ((fT_ne _ _ (Nat.ne_of_beq_eq_false rfl)).trans ((fT_ne _ _ (Nat.ne_of_beq_eq_false rfl)).trans (fT_eq _ _ _))).trans (Eq.trans (by first | with_reducible rfl | with_reducible assumption | (symm; with_reducible assumption) | rfl | assumption | (symm; assumption) | (subst_vars; rfl)) ((fT_ne _ _ (Nat.ne_of_beq_eq_false rfl)).trans ((fT_ne _ _ (Nat.ne_of_beq_eq_false rfl)).trans (fT_eq _ _ _))).symm)); by_cases h9_6 : q9 = 6; (subst h9_6; exact ((fT_ne _ _ (Nat.ne_of_beq_eq_false rfl)).trans (fT_eq _ _ _)).trans (Eq.trans (by first | with_reducible rfl | with_reducible assumption | (symm; with_reducible assumption) | rfl | assumption | (symm; assumption) | (subst_vars; rfl)) ((fT_ne _ _ (Nat.ne_of_beq_eq_false rfl)).trans (fT_eq _ _ _)).symm)); by_cases h9_7 : q9 = 7; (subst h9_7; exact (fT_eq _ _ _).trans (Eq.trans (by first | with_reducible rfl | with_reducible assumption | (symm; with_reducible assumption) | rfl | assumption | (symm; assumption) | (subst_vars; rfl)) (fT_eq _ _ _).symm)); exact ((fT_ne _ _ h9_7).trans ((fT_ne _ _ h9_6).trans (fT_ne _ _ h9_5))).trans ((fT_ne _ _ h9_7).trans ((fT_ne _ _ h9_6).trans (fT_ne _ _ h9_5))).symm
                        have hP : va_P (dC, dI) vwCl (WR a k h0 (fT (fT (fT vi 5 (nI (cc + 1))) 6 (nI (2 * vn + (hq2 + 1)))) 7 0) vj (fT (fT (fT (fT (fT (fT (fT vF 74 f74x) 0 g376) 4 f456) 6 f656) 2 f21) 3 f31) 5 (upd f55 (nI (2 * vn + hq2)).toNatClampNeg (nI ((cc + 1) + (2 * vn + hq2))))) (fT vG 1 gs1)) H := by rw [e9]; exact hP
                        have hD : va_D A (WR a k h0 (fT (fT (fT vi 5 (nI (cc + 1))) 6 (nI (2 * vn + (hq2 + 1)))) 7 0) vj (fT (fT (fT (fT (fT (fT (fT vF 74 f74x) 0 g376) 4 f456) 6 f656) 2 f21) 3 f31) 5 (upd f55 (nI (2 * vn + hq2)).toNatClampNeg (nI ((cc + 1) + (2 * vn + hq2))))) (fT vG 1 gs1)) := by rw [e9]; exact hD
                        clear e9
                        have hl : lv_has _ _ ([(0, .ref h0), (2, .int (hw2 + (-2)))]) := lv_sub hl [1, 0] rfl
                        exact ih269_2 (hw2 + (-2)) (hq2 + 1) g376 (upd f55 (nI (2 * vn + hq2)).toNatClampNeg (nI ((cc + 1) + (2 * vn + hq2)))) (fT m6a (30 + (2 * vn + hq2) * ((cc + 1) + 1) + (cc + 1)) hI) _ _ _ (f376_0) (by rcases hh2 with ⟨h1, h2⟩ | ⟨h1, h2⟩ | ⟨h1, h2⟩; (exact Or.inr (Or.inl ⟨by omega, by rw [h2]; decide⟩)); (exact Or.inr (Or.inr ⟨by omega, by rw [h2]; decide⟩)); (omega)) (Or.inr c_278) (hBl9) (h459) (h209) (ho9) (by omega) hP hD hS hl
                      · have t_295 : ¬ ((i7 : Nat) : Int) ≥ ((nd : Nat) : Int) := toI_nge c_295 (nI_toInt (by omega)) (nI_toInt (by omega))
                        refine lv_aload_n hx hb dX12_addsUp_298 rfl (lv_at hl 0 rfl) ?_
                        refine va_get (D := (dC, dI)) (ci := 12) (v := .ref (a 73)) (C := RX12) (T := TX12) (N := 163) (fs := fM (vS a (fT (fT (fT vi 5 (nI (cc + 1))) 6 (nI ((2 * vn + hq2) + 1))) 7 0) vj)) hx hb hts iwsRX12_addsUp_in12 hown hK hP 0 rfl rfl 122 (by decide) (hts (.fieldLink RX12 242 "OptimaWorksModel" "needKept" "[I") (by decide +kernel)) (fun _ h9 => h9) rfl dX12_addsUp_299 ?_
                        refine lv_iload hx hb dX12_addsUp_302 (lv_at hl 3 rfl) ?_
                        refine va_iald (cA := k 73) (n := 28) (f := (vF 73)) hx hb hK hP 74 73 (WR_get 73 (by decide)) (TR_get 73 (by decide)) (vp_in_nI (show i7 < 28 by omega) (by omega)) dX12_addsUp_304 ?_
                        refine lv_topi (fun y5 hy5 => ?_)
                        obtain rfl : ((vF 73) i7) = y5 := (hy5.trans (by rw [nI_clamp (by omega)])).symm
                        refine lv_if_ne (tgt := 311) hx hb dX12_addsUp_305 (by decide) (fun c_305 => ?_) (fun c_305 => ?_)
                        · have t_305 : (((vF 73) i7)).toInt ≠ 0 := toI_ne c_305 rfl (by decide)
                          have hn1 := hin i7 (by omega)
                          have hw1 : 1 ≤ (ncw (vF 61) (vF 71) (vF 72) (vF 73)) i7 := by unfold ncw; rw [if_neg c_305]; split <;> omega
                          have hI9 : hI.natAbs ≤ 1 := by rcases hI1 with h | h <;> rw [h] <;> decide
                          refine lv_aload_n hx hb dX12_addsUp_311 rfl (lv_at hl 0 rfl) ?_
                          refine lv_aload_n hx hb dX12_addsUp_312 rfl (lv_at hl 0 rfl) ?_
                          refine lv_iload_n hx hb dX12_addsUp_313 rfl (lv_at hl 2 rfl) ?_
                          refine lv_aload_n hx hb dX12_addsUp_314 rfl (lv_at hl 0 rfl) ?_
                          refine va_get (D := (dC, dI)) (ci := 12) (v := .ref (a 74)) (C := RX12) (T := TX12) (N := 163) (fs := fM (vS a (fT (fT (fT vi 5 (nI (cc + 1))) 6 (nI ((2 * vn + hq2) + 1))) 7 0) vj)) hx hb hts iwsRX12_addsUp_in12 hown hK hP 0 rfl rfl 123 (by decide) (hts (.fieldLink RX12 245 "OptimaWorksModel" "needColumn" "[I") (by decide +kernel)) (fun _ h9 => h9) rfl dX12_addsUp_315 ?_
                          refine lv_iload hx hb dX12_addsUp_318 (lv_at hl 3 rfl) ?_
                          refine va_iald (cA := k 74) (n := 28) (f := f74x) hx hb hK hP 75 74 (WR_get 74 (by decide)) (TR_get 74 (by decide)) (vp_in_nI (show i7 < 28 by omega) (by omega)) dX12_addsUp_320 ?_
                          refine lv_topi (fun y6 hy6 => ?_)
                          obtain rfl : (f74x i7) = y6 := (hy6.trans (by rw [nI_clamp (by omega)])).symm
                          refine lv_topi (fun y7 hy7 => ?_)
                          obtain rfl : (nI (ncS (ncw (vF 61) (vF 71) (vF 72) (vF 73)) i7)) = y7 := (hy7.trans (h74 _ (by omega))).symm
                          have hFc := allFree hD hS hA
                          refine va_calli (va_runV (As := [.int (nI (2 * vn + hq2)), .int (nI (ncS (ncw (vF 61) (vF 71) (vF 72) (vF 73)) i7))]) (rest := [.ref h0]) ⟨hx, hb, hml, hown, hts⟩ (r_X12_at l dC dI a k h0 (fT (fT (fT vi 5 (nI (cc + 1))) 6 (nI ((2 * vn + hq2) + 1))) 7 0) vj (fT (fT (fT (fT (fT (fT (fT vF 74 f74x) 0 g6) 4 f456) 6 f656) 2 f21) 3 f31) 5 (upd f55 (nI (2 * vn + hq2)).toNatClampNeg (nI ((cc + 1) + (2 * vn + hq2))))) (fT vG 1 gs1) (2 * vn + hq2) (ncS (ncw (vF 61) (vF 71) (vF 72) (vF 73)) i7) (cc + 1) (by first | with_reducible assumption | decide | omega | rfl | assumption) H.size) (cwV 2 hts gwsRX12_addsUp_5 rfl rfl rfl hd_yX12_at_RX12 (by decide +kernel)) (fz_pre (va_recv hK hP (ci := 12) (q0 := 0) rfl rfl) hP hK hD) rfl rfl hl.1 rfl (lv_room (Nat.le_of_ble_eq_true rfl)) dX12_addsUp_321 (by decide +kernel)) hS (fun q _ h => hFc q h) hFc (fun r321 u t9_ H locs ht hvm hw9 hB9 hz1 hk1 hS => ?_)
                          have hP : va_P (dC, dI) vwCl (WR a k h0 (fT (fT (fT vi 5 (nI (cc + 1))) 6 (nI ((2 * vn + hq2) + 1))) 7 0) vj (fT (fT (fT (fT (fT (fT (fT vF 74 f74x) 0 g6) 4 f456) 6 f656) 2 f21) 3 f31) 5 (upd f55 (nI (2 * vn + hq2)).toNatClampNeg (nI ((cc + 1) + (2 * vn + hq2))))) (fT vG 1 gs1)) H := fz_P ht hB9.1
                          have hD : va_D A (WR a k h0 (fT (fT (fT vi 5 (nI (cc + 1))) 6 (nI ((2 * vn + hq2) + 1))) 7 0) vj (fT (fT (fT (fT (fT (fT (fT vF 74 f74x) 0 g6) 4 f456) 6 f656) 2 f21) 3 f31) 5 (upd f55 (nI (2 * vn + hq2)).toNatClampNeg (nI ((cc + 1) + (2 * vn + hq2))))) (fT vG 1 gs1)) := hB9.2.weaken (fun _ q _ h => hFc q.1 h)
                          obtain rfl := hw9
                          refine lv_iload_n hx hb dX12_addsUp_324 rfl (lv_at hl 1 rfl) ?_
                          refine lv_i2l hx hb dX12_addsUp_325 rfl ?_
                          have hFc := allFree hD hS hA
                          refine va_callv (va_runV (As := [.int (nI (30 + (2 * vn + hq2) * ((cc + 1) + 1) + (ncS (ncw (vF 61) (vF 71) (vF 72) (vF 73)) i7))), .long (hw2).toInt64]) (rest := []) ⟨hx, hb, hml, hown, hts⟩ (b_X12_put l dC dI a k h0 (fT (fT (fT vi 5 (nI (cc + 1))) 6 (nI ((2 * vn + hq2) + 1))) 7 0) vj (fT (fT (fT (fT (fT (fT (fT vF 74 f74x) 0 g6) 4 f456) 6 f656) 2 f21) 3 f31) 5 (upd f55 (nI (2 * vn + hq2)).toNatClampNeg (nI ((cc + 1) + (2 * vn + hq2))))) (fT vG 1 gs1) (30 + (2 * vn + hq2) * ((cc + 1) + 1) + (ncS (ncw (vF 61) (vF 71) (vF 72) (vF 73)) i7)) ((hw2).toInt64) hI m6a hB6 (by first | with_reducible assumption | decide | omega | rfl | assumption) ((i64T _).trans hhI) (by omega) H.size) (cwV 2 hts gwsRX12_addsUp_1 rfl rfl rfl hd_yX12_put_RX12 (by decide +kernel)) (fz_pre (va_recv hK hP (ci := 12) (q0 := 0) rfl rfl) hP hK hD) rfl rfl hl.1 rfl (lv_room (Nat.le_of_ble_eq_true rfl)) dX12_addsUp_326 (by decide +kernel)) hS (fun q _ h => hFc q h) hFc (fun g326 t9_ H locs ht hvm hw9 hB9 hz1 hk1 hS => ?_)
                          have hP : va_P (dC, dI) vwCl (WR a k h0 (fT (fT (fT vi 5 (nI (cc + 1))) 6 (nI ((2 * vn + hq2) + 1))) 7 0) vj (fT (fT (fT (fT (fT (fT (fT (fT vF 74 f74x) 0 g6) 4 f456) 6 f656) 2 f21) 3 f31) 5 (upd f55 (nI (2 * vn + hq2)).toNatClampNeg (nI ((cc + 1) + (2 * vn + hq2))))) 0 g326) (fT vG 1 gs1)) H := fz_P ht hB9.1
                          have hD : va_D A (WR a k h0 (fT (fT (fT vi 5 (nI (cc + 1))) 6 (nI ((2 * vn + hq2) + 1))) 7 0) vj (fT (fT (fT (fT (fT (fT (fT (fT vF 74 f74x) 0 g6) 4 f456) 6 f656) 2 f21) 3 f31) 5 (upd f55 (nI (2 * vn + hq2)).toNatClampNeg (nI ((cc + 1) + (2 * vn + hq2))))) 0 g326) (fT vG 1 gs1)) := hB9.2.weaken (fun _ q _ h => hFc q.1 h)
                          have e9 : fT (fT (fT (fT (fT (fT (fT vF 74 f74x) 0 g326) 4 f456) 6 f656) 2 f21) 3 f31) 5 (upd f55 (nI (2 * vn + hq2)).toNatClampNeg (nI ((cc + 1) + (2 * vn + hq2)))) = fT (fT (fT (fT (fT (fT (fT (fT vF 74 f74x) 0 g6) 4 f456) 6 f656) 2 f21) 3 f31) 5 (upd f55 (nI (2 * vn + hq2)).toNatClampNeg (nI ((cc + 1) + (2 * vn + hq2))))) 0 g326 := ((fT_sw _ _ _ (Nat.ne_of_beq_eq_false rfl)).trans (congrArg (fun g9 => fT g9 5 (upd f55 (nI (2 * vn + hq2)).toNatClampNeg (nI ((cc + 1) + (2 * vn + hq2))))) ((fT_sw _ _ _ (Nat.ne_of_beq_eq_false rfl)).trans (congrArg (fun g9 => fT g9 3 f31) ((fT_sw _ _ _ (Nat.ne_of_beq_eq_false rfl)).trans (congrArg (fun g9 => fT g9 2 f21) ((fT_sw _ _ _ (Nat.ne_of_beq_eq_false rfl)).trans (congrArg (fun g9 => fT g9 6 f656) ((fT_sw _ _ _ (Nat.ne_of_beq_eq_false rfl)).trans (congrArg (fun g9 => fT g9 4 f456) (fT_sm _ _ _ _))))))))))).symm
                          rw [← e9] at hP hD
                          clear e9
                          have hP : va_P (dC, dI) vwCl (WR a k h0 (fT (fT (fT vi 5 (nI (cc + 1))) 6 (nI ((2 * vn + hq2) + 1))) 7 0) vj (fT (fT (fT (fT (fT (fT (fT vF 74 f74x) 0 g326) 4 f456) 6 f656) 2 f21) 3 f31) 5 (upd f55 (nI (2 * vn + hq2)).toNatClampNeg (nI ((cc + 1) + (2 * vn + hq2))))) (fT vG 1 gs1)) H := hP
                          have hD : va_D A (WR a k h0 (fT (fT (fT vi 5 (nI (cc + 1))) 6 (nI ((2 * vn + hq2) + 1))) 7 0) vj (fT (fT (fT (fT (fT (fT (fT vF 74 f74x) 0 g326) 4 f456) 6 f656) 2 f21) 3 f31) 5 (upd f55 (nI (2 * vn + hq2)).toNatClampNeg (nI ((cc + 1) + (2 * vn + hq2))))) (fT vG 1 gs1)) := hD
                          have f326_0 := hw9
                          try dsimp only at f326_0
                          refine lv_aload_n hx hb dX12_addsUp_329 rfl (lv_at hl 0 rfl) ?_
                          refine lv_iload hx hb dX12_addsUp_330 (lv_at hl 3 rfl) ?_
                          have hFc := allFree hD hS hA
                          refine va_calli (va_runV (As := [.int (nI i7)]) (rest := []) ⟨hx, hb, hml, hown, hts⟩ (r_X12_isEqual l dC dI a k h0 (fT (fT (fT vi 5 (nI (cc + 1))) 6 (nI ((2 * vn + hq2) + 1))) 7 0) vj (fT (fT (fT (fT (fT (fT (fT vF 74 f74x) 0 g326) 4 f456) 6 f656) 2 f21) 3 f31) 5 (upd f55 (nI (2 * vn + hq2)).toNatClampNeg (nI ((cc + 1) + (2 * vn + hq2))))) (fT vG 1 gs1) i7 vn mr z nd (by first | with_reducible assumption | decide | omega | rfl | assumption) (by first | with_reducible assumption | decide | omega | rfl | assumption) (by first | with_reducible assumption | decide | omega | rfl | assumption) (by first | with_reducible assumption | decide | omega | rfl | assumption) H.size) (cwV 1 hts gwsRX12_addsUp_6 rfl rfl rfl hd_yX12_isEqual_RX12 (by decide +kernel)) (fz_pre (va_recv hK hP (ci := 12) (q0 := 0) rfl rfl) hP hK hD) rfl rfl hl.1 rfl (lv_room (Nat.le_of_ble_eq_true rfl)) dX12_addsUp_332 (by decide +kernel)) hS (fun q _ h => hFc q h) hFc (fun r332 u t9_ H locs ht hvm hw9 hB9 hz1 hk1 hS => ?_)
                          have hP : va_P (dC, dI) vwCl (WR a k h0 (fT (fT (fT vi 5 (nI (cc + 1))) 6 (nI ((2 * vn + hq2) + 1))) 7 0) vj (fT (fT (fT (fT (fT (fT (fT vF 74 f74x) 0 g326) 4 f456) 6 f656) 2 f21) 3 f31) 5 (upd f55 (nI (2 * vn + hq2)).toNatClampNeg (nI ((cc + 1) + (2 * vn + hq2))))) (fT vG 1 gs1)) H := fz_P ht hB9.1
                          have hD : va_D A (WR a k h0 (fT (fT (fT vi 5 (nI (cc + 1))) 6 (nI ((2 * vn + hq2) + 1))) 7 0) vj (fT (fT (fT (fT (fT (fT (fT vF 74 f74x) 0 g326) 4 f456) 6 f656) 2 f21) 3 f31) 5 (upd f55 (nI (2 * vn + hq2)).toNatClampNeg (nI ((cc + 1) + (2 * vn + hq2))))) (fT vG 1 gs1)) := hB9.2.weaken (fun _ q _ h => hFc q.1 h)
                          rcases hw9 with ⟨rfl, f332_0⟩ | ⟨rfl, f332_0⟩
                          · have f332_0 : EqP (vF 61) (vF 71) (vF 72) i7 := f332_0
                            refine lv_if_eq (tgt := 358) hx hb dX12_addsUp_335 (by decide) (fun c9 => absurd c9 (by decide)) (fun _ => ?_)
                            have hw2e : (ncw (vF 61) (vF 71) (vF 72) (vF 73)) i7 = 2 := by unfold ncw; rw [if_neg c_305, if_pos f332_0]
                            refine lv_aload_n hx hb dX12_addsUp_338 rfl (lv_at hl 0 rfl) ?_
                            refine lv_aload_n hx hb dX12_addsUp_339 rfl (lv_at hl 0 rfl) ?_
                            refine lv_iload_n hx hb dX12_addsUp_340 rfl (lv_at hl 2 rfl) ?_
                            refine lv_aload_n hx hb dX12_addsUp_341 rfl (lv_at hl 0 rfl) ?_
                            refine va_get (D := (dC, dI)) (ci := 12) (v := .ref (a 74)) (C := RX12) (T := TX12) (N := 163) (fs := fM (vS a (fT (fT (fT vi 5 (nI (cc + 1))) 6 (nI ((2 * vn + hq2) + 1))) 7 0) vj)) hx hb hts iwsRX12_addsUp_in12 hown hK hP 0 rfl rfl 123 (by decide) (hts (.fieldLink RX12 245 "OptimaWorksModel" "needColumn" "[I") (by decide +kernel)) (fun _ h9 => h9) rfl dX12_addsUp_342 ?_
                            refine lv_iload hx hb dX12_addsUp_345 (lv_at hl 3 rfl) ?_
                            refine va_iald (cA := k 74) (n := 28) (f := f74x) hx hb hK hP 75 74 (WR_get 74 (by decide)) (TR_get 74 (by decide)) (vp_in_nI (show i7 < 28 by omega) (by omega)) dX12_addsUp_347 ?_
                            refine lv_topi (fun y8 hy8 => ?_)
                            obtain rfl : (f74x i7) = y8 := (hy8.trans (by rw [nI_clamp (by omega)])).symm
                            refine lv_topi (fun y9 hy9 => ?_)
                            obtain rfl : (nI (ncS (ncw (vF 61) (vF 71) (vF 72) (vF 73)) i7)) = y9 := (hy9.trans (h74 _ (by omega))).symm
                            refine lv_iconst (v := 1) hx hb dX12_addsUp_348 (by decide) ?_
                            refine lv_iadd hx hb dX12_addsUp_349 ?_
                            refine lv_topi (fun y10 hy10 => ?_)
                            obtain rfl : (nI ((ncS (ncw (vF 61) (vF 71) (vF 72) (vF 73)) i7) + 1)) = y10 := (hy10.trans (nI_add (ncS (ncw (vF 61) (vF 71) (vF 72) (vF 73)) i7) 1)).symm
                            have hFc := allFree hD hS hA
                            refine va_calli (va_runV (As := [.int (nI (2 * vn + hq2)), .int (nI ((ncS (ncw (vF 61) (vF 71) (vF 72) (vF 73)) i7) + 1))]) (rest := [.ref h0]) ⟨hx, hb, hml, hown, hts⟩ (r_X12_at l dC dI a k h0 (fT (fT (fT vi 5 (nI (cc + 1))) 6 (nI ((2 * vn + hq2) + 1))) 7 0) vj (fT (fT (fT (fT (fT (fT (fT vF 74 f74x) 0 g326) 4 f456) 6 f656) 2 f21) 3 f31) 5 (upd f55 (nI (2 * vn + hq2)).toNatClampNeg (nI ((cc + 1) + (2 * vn + hq2))))) (fT vG 1 gs1) (2 * vn + hq2) ((ncS (ncw (vF 61) (vF 71) (vF 72) (vF 73)) i7) + 1) (cc + 1) (by first | with_reducible assumption | decide | omega | rfl | assumption) H.size) (cwV 2 hts gwsRX12_addsUp_5 rfl rfl rfl hd_yX12_at_RX12 (by decide +kernel)) (fz_pre (va_recv hK hP (ci := 12) (q0 := 0) rfl rfl) hP hK hD) rfl rfl hl.1 rfl (lv_room (Nat.le_of_ble_eq_true rfl)) dX12_addsUp_350 (by decide +kernel)) hS (fun q _ h => hFc q h) hFc (fun r350 u t9_ H locs ht hvm hw9 hB9 hz1 hk1 hS => ?_)
                            have hP : va_P (dC, dI) vwCl (WR a k h0 (fT (fT (fT vi 5 (nI (cc + 1))) 6 (nI ((2 * vn + hq2) + 1))) 7 0) vj (fT (fT (fT (fT (fT (fT (fT vF 74 f74x) 0 g326) 4 f456) 6 f656) 2 f21) 3 f31) 5 (upd f55 (nI (2 * vn + hq2)).toNatClampNeg (nI ((cc + 1) + (2 * vn + hq2))))) (fT vG 1 gs1)) H := fz_P ht hB9.1
                            have hD : va_D A (WR a k h0 (fT (fT (fT vi 5 (nI (cc + 1))) 6 (nI ((2 * vn + hq2) + 1))) 7 0) vj (fT (fT (fT (fT (fT (fT (fT vF 74 f74x) 0 g326) 4 f456) 6 f656) 2 f21) 3 f31) 5 (upd f55 (nI (2 * vn + hq2)).toNatClampNeg (nI ((cc + 1) + (2 * vn + hq2))))) (fT vG 1 gs1)) := hB9.2.weaken (fun _ q _ h => hFc q.1 h)
                            obtain rfl := hw9
                            refine lv_iload_n hx hb dX12_addsUp_353 rfl (lv_at hl 1 rfl) ?_
                            refine lv_i2l hx hb dX12_addsUp_354 rfl ?_
                            have hFc := allFree hD hS hA
                            refine va_callv (va_runV (As := [.int (nI (30 + (2 * vn + hq2) * ((cc + 1) + 1) + ((ncS (ncw (vF 61) (vF 71) (vF 72) (vF 73)) i7) + 1))), .long (hw2).toInt64]) (rest := []) ⟨hx, hb, hml, hown, hts⟩ (b_X12_put l dC dI a k h0 (fT (fT (fT vi 5 (nI (cc + 1))) 6 (nI ((2 * vn + hq2) + 1))) 7 0) vj (fT (fT (fT (fT (fT (fT (fT vF 74 f74x) 0 g326) 4 f456) 6 f656) 2 f21) 3 f31) 5 (upd f55 (nI (2 * vn + hq2)).toNatClampNeg (nI ((cc + 1) + (2 * vn + hq2))))) (fT vG 1 gs1) (30 + (2 * vn + hq2) * ((cc + 1) + 1) + ((ncS (ncw (vF 61) (vF 71) (vF 72) (vF 73)) i7) + 1)) ((hw2).toInt64) hI (fT m6a (30 + (2 * vn + hq2) * ((cc + 1) + 1) + (ncS (ncw (vF 61) (vF 71) (vF 72) (vF 73)) i7)) hI) f326_0 (by first | with_reducible assumption | decide | omega | rfl | assumption) ((i64T _).trans hhI) (by omega) H.size) (cwV 2 hts gwsRX12_addsUp_1 rfl rfl rfl hd_yX12_put_RX12 (by decide +kernel)) (fz_pre (va_recv hK hP (ci := 12) (q0 := 0) rfl rfl) hP hK hD) rfl rfl hl.1 rfl (lv_room (Nat.le_of_ble_eq_true rfl)) dX12_addsUp_355 (by decide +kernel)) hS (fun q _ h => hFc q h) hFc (fun g355 t9_ H locs ht hvm hw9 hB9 hz1 hk1 hS => ?_)
                            have hP : va_P (dC, dI) vwCl (WR a k h0 (fT (fT (fT vi 5 (nI (cc + 1))) 6 (nI ((2 * vn + hq2) + 1))) 7 0) vj (fT (fT (fT (fT (fT (fT (fT (fT vF 74 f74x) 0 g326) 4 f456) 6 f656) 2 f21) 3 f31) 5 (upd f55 (nI (2 * vn + hq2)).toNatClampNeg (nI ((cc + 1) + (2 * vn + hq2))))) 0 g355) (fT vG 1 gs1)) H := fz_P ht hB9.1
                            have hD : va_D A (WR a k h0 (fT (fT (fT vi 5 (nI (cc + 1))) 6 (nI ((2 * vn + hq2) + 1))) 7 0) vj (fT (fT (fT (fT (fT (fT (fT (fT vF 74 f74x) 0 g326) 4 f456) 6 f656) 2 f21) 3 f31) 5 (upd f55 (nI (2 * vn + hq2)).toNatClampNeg (nI ((cc + 1) + (2 * vn + hq2))))) 0 g355) (fT vG 1 gs1)) := hB9.2.weaken (fun _ q _ h => hFc q.1 h)
                            have e9 : fT (fT (fT (fT (fT (fT (fT vF 74 f74x) 0 g355) 4 f456) 6 f656) 2 f21) 3 f31) 5 (upd f55 (nI (2 * vn + hq2)).toNatClampNeg (nI ((cc + 1) + (2 * vn + hq2)))) = fT (fT (fT (fT (fT (fT (fT (fT vF 74 f74x) 0 g326) 4 f456) 6 f656) 2 f21) 3 f31) 5 (upd f55 (nI (2 * vn + hq2)).toNatClampNeg (nI ((cc + 1) + (2 * vn + hq2))))) 0 g355 := ((fT_sw _ _ _ (Nat.ne_of_beq_eq_false rfl)).trans (congrArg (fun g9 => fT g9 5 (upd f55 (nI (2 * vn + hq2)).toNatClampNeg (nI ((cc + 1) + (2 * vn + hq2))))) ((fT_sw _ _ _ (Nat.ne_of_beq_eq_false rfl)).trans (congrArg (fun g9 => fT g9 3 f31) ((fT_sw _ _ _ (Nat.ne_of_beq_eq_false rfl)).trans (congrArg (fun g9 => fT g9 2 f21) ((fT_sw _ _ _ (Nat.ne_of_beq_eq_false rfl)).trans (congrArg (fun g9 => fT g9 6 f656) ((fT_sw _ _ _ (Nat.ne_of_beq_eq_false rfl)).trans (congrArg (fun g9 => fT g9 4 f456) (fT_sm _ _ _ _))))))))))).symm
                            rw [← e9] at hP hD
                            clear e9
                            have hP : va_P (dC, dI) vwCl (WR a k h0 (fT (fT (fT vi 5 (nI (cc + 1))) 6 (nI ((2 * vn + hq2) + 1))) 7 0) vj (fT (fT (fT (fT (fT (fT (fT vF 74 f74x) 0 g355) 4 f456) 6 f656) 2 f21) 3 f31) 5 (upd f55 (nI (2 * vn + hq2)).toNatClampNeg (nI ((cc + 1) + (2 * vn + hq2))))) (fT vG 1 gs1)) H := hP
                            have hD : va_D A (WR a k h0 (fT (fT (fT vi 5 (nI (cc + 1))) 6 (nI ((2 * vn + hq2) + 1))) 7 0) vj (fT (fT (fT (fT (fT (fT (fT vF 74 f74x) 0 g355) 4 f456) 6 f656) 2 f21) 3 f31) 5 (upd f55 (nI (2 * vn + hq2)).toNatClampNeg (nI ((cc + 1) + (2 * vn + hq2))))) (fT vG 1 gs1)) := hD
                            have f355_0 := hw9
                            try dsimp only at f355_0
                            refine lv_iinc (v := (nI (i7 + 1))) hx hb dX12_addsUp_358 hl (k := 3) rfl (nI_add i7 1) (by decide) rfl (fun ls (hl : lv_has ls _ ([(4, .int (nI (i7 + 1))), (0, .ref h0), (2, .int hw2), (3, .int (nI (2 * vn + hq2)))])) => ?_)
                            refine lv_goto (tgt := 289) hx hb dX12_addsUp_361 (by decide) ?_
                            have hl : lv_has _ _ ([(0, .ref h0), (2, .int hw2), (3, .int (nI (2 * vn + hq2))), (4, .int (nI (i7 + 1)))]) := lv_sub hl [1, 2, 3, 0] rfl
                            exact ih289_3 (i7 + 1) g355 (fT (fT m6a (30 + (2 * vn + hq2) * ((cc + 1) + 1) + (ncS (ncw (vF 61) (vF 71) (vF 72) (vF 73)) i7)) hI) (30 + (2 * vn + hq2) * ((cc + 1) + 1) + ((ncS (ncw (vF 61) (vF 71) (vF 72) (vF 73)) i7) + 1)) hI) _ _ _ (f355_0) (by omega) (fun j hj => by by_cases e8 : j = ncS (ncw (vF 61) (vF 71) (vF 72) (vF 73)) i7 + 1; (rw [e8, fT_eq]; exact Nat.le_trans hI9 (bcl_one _ _)); rw [fT_ne _ _ (by omega)]; by_cases e9 : j = ncS (ncw (vF 61) (vF 71) (vF 72) (vF 73)) i7; (rw [e9, fT_eq]; exact Nat.le_trans hI9 (bcl_one _ _)); (rw [fT_ne _ _ (by omega)]; exact hrw j hj)) (fun q hq => by (rw [fT_ne _ _ (by omega), fT_ne _ _ (by omega)]); exact hfr q hq) (by omega) hP hD hS hl
                          · have f332_0 : ¬ EqP (vF 61) (vF 71) (vF 72) i7 := f332_0
                            refine lv_if_eq (tgt := 358) hx hb dX12_addsUp_335 (by decide) (fun _ => ?_) (fun c9 => absurd (by decide) c9)
                            refine lv_iinc (v := (nI (i7 + 1))) hx hb dX12_addsUp_358 hl (k := 3) rfl (nI_add i7 1) (by decide) rfl (fun ls (hl : lv_has ls _ ([(4, .int (nI (i7 + 1))), (0, .ref h0), (2, .int hw2), (3, .int (nI (2 * vn + hq2)))])) => ?_)
                            refine lv_goto (tgt := 289) hx hb dX12_addsUp_361 (by decide) ?_
                            have hl : lv_has _ _ ([(0, .ref h0), (2, .int hw2), (3, .int (nI (2 * vn + hq2))), (4, .int (nI (i7 + 1)))]) := lv_sub hl [1, 2, 3, 0] rfl
                            exact ih289_3 (i7 + 1) g326 (fT m6a (30 + (2 * vn + hq2) * ((cc + 1) + 1) + (ncS (ncw (vF 61) (vF 71) (vF 72) (vF 73)) i7)) hI) _ _ _ (f326_0) (by omega) (fun j hj => by by_cases e9 : j = ncS (ncw (vF 61) (vF 71) (vF 72) (vF 73)) i7; (rw [e9, fT_eq]; exact Nat.le_trans hI9 (bcl_one _ _)); (rw [fT_ne _ _ (by omega)]; exact hrw j hj)) (fun q hq => by (rw [fT_ne _ _ (by omega)]); exact hfr q hq) (by omega) hP hD hS hl
                        · have t_305 : (((vF 73) i7)).toInt = 0 := toI_nne c_305 rfl (by decide)
                          refine lv_goto (tgt := 358) hx hb dX12_addsUp_308 (by decide) ?_
                          refine lv_iinc (v := (nI (i7 + 1))) hx hb dX12_addsUp_358 hl (k := 3) rfl (nI_add i7 1) (by decide) rfl (fun ls (hl : lv_has ls _ ([(4, .int (nI (i7 + 1))), (0, .ref h0), (2, .int hw2), (3, .int (nI (2 * vn + hq2)))])) => ?_)
                          refine lv_goto (tgt := 289) hx hb dX12_addsUp_361 (by decide) ?_
                          have hl : lv_has _ _ ([(0, .ref h0), (2, .int hw2), (3, .int (nI (2 * vn + hq2))), (4, .int (nI (i7 + 1)))]) := lv_sub hl [1, 2, 3, 0] rfl
                          exact ih289_3 (i7 + 1) g6 m6a _ _ _ (hB6) (by omega) (hrw) (hfr) (by omega) hP hD hS hl
            · rintro H locs ls stk ⟨Rf, gF, f5F, mF, hBF, hRf, hBlF, h45F, h20F, hoF, rfl, hP, hD, hS, hl⟩
              have hR18 : Rf ≤ 18 := by rcases hRf with h | h; (exact Nat.le_trans h.1 (by decide)); (exact h.1)
              have hm0 := hex (Rf + 0) (by omega)
              have hm1 := hex (Rf + 1) (by omega)
              have hm2 := hex (Rf + 2) (by omega)
              have e1 : (Rf + 1) * (cc + 1 + 1) = Rf * (cc + 1 + 1) + (cc + 1 + 1) := Nat.succ_mul _ _
              have e2 : (Rf + 2) * (cc + 1 + 1) = (Rf + 1) * (cc + 1 + 1) + (cc + 1 + 1) := Nat.succ_mul _ _
              have e0 : (Rf + 0) * (cc + 1 + 1) = Rf * (cc + 1 + 1) := rfl
              refine lv_aload_n hx hb dX12_addsUp_385 rfl (lv_at hl 0 rfl) ?_
              have hFc := allFree hD hS hA
              refine va_callv (va_runV (As := []) (rest := []) ⟨hx, hb, hml, hown, hts⟩ (r_X12_start l dC dI a k h0 (fT (fT (fT vi 5 (nI (cc + 1))) 6 (nI Rf)) 7 0) vj (fT (fT (fT (fT (fT (fT (fT vF 74 f74x) 0 gF) 4 f456) 6 f656) 2 f21) 3 f31) 5 f5F) (fT vG 1 gs1) (cc + 1) Rf 0 mF hBF (by first | with_reducible assumption | decide | omega | rfl | assumption) (by first | with_reducible assumption | decide | omega | rfl | assumption) (nI_0.symm) (by first | with_reducible assumption | decide | omega | rfl | assumption) (by first | with_reducible assumption | decide | omega | rfl | assumption) (by first | with_reducible assumption | decide | omega | rfl | assumption) H.size) (cwV 0 hts gwsRX12_addsUp_7 rfl rfl rfl hd_yX12_start_RX12 (by decide +kernel)) (fz_pre (va_recv hK hP (ci := 12) (q0 := 0) rfl rfl) hP hK hD) rfl rfl hl.1 rfl (lv_room (Nat.le_of_ble_eq_true rfl)) dX12_addsUp_386 (by decide +kernel)) hS (fun q _ h => hFc q h) hFc (fun u t9_ H locs ht hvm hw9 hB9 hz1 hk1 hS => ?_)
              revert u
              refine fz_p2 ?_
              intro g386 m2386 hw9 hB9
              try dsimp only at hw9 hB9
              have hP : va_P (dC, dI) vwCl (WR a k h0 (fT (fT (fT (fT vi 5 (nI (cc + 1))) 6 (nI Rf)) 7 0) 7 (nI (0 + 1))) vj (fT (fT (fT (fT (fT (fT (fT (fT vF 74 f74x) 0 gF) 4 f456) 6 f656) 2 f21) 3 f31) 5 f5F) 0 g386) (fT vG 1 gs1)) H := fz_P ht hB9.1
              have hD : va_D A (WR a k h0 (fT (fT (fT (fT vi 5 (nI (cc + 1))) 6 (nI Rf)) 7 0) 7 (nI (0 + 1))) vj (fT (fT (fT (fT (fT (fT (fT (fT vF 74 f74x) 0 gF) 4 f456) 6 f656) 2 f21) 3 f31) 5 f5F) 0 g386) (fT vG 1 gs1)) := hB9.2.weaken (fun _ q _ h => hFc q.1 h)
              have e9 : fT (fT (fT vi 5 (nI (cc + 1))) 6 (nI Rf)) 7 (nI (0 + 1)) = fT (fT (fT (fT vi 5 (nI (cc + 1))) 6 (nI Rf)) 7 0) 7 (nI (0 + 1)) := (fT_sm _ _ _ _).symm
              rw [← e9] at hP hD
              clear e9
              have e9 : fT (fT (fT (fT (fT (fT (fT vF 74 f74x) 0 g386) 4 f456) 6 f656) 2 f21) 3 f31) 5 f5F = fT (fT (fT (fT (fT (fT (fT (fT vF 74 f74x) 0 gF) 4 f456) 6 f656) 2 f21) 3 f31) 5 f5F) 0 g386 := ((fT_sw _ _ _ (Nat.ne_of_beq_eq_false rfl)).trans (congrArg (fun g9 => fT g9 5 f5F) ((fT_sw _ _ _ (Nat.ne_of_beq_eq_false rfl)).trans (congrArg (fun g9 => fT g9 3 f31) ((fT_sw _ _ _ (Nat.ne_of_beq_eq_false rfl)).trans (congrArg (fun g9 => fT g9 2 f21) ((fT_sw _ _ _ (Nat.ne_of_beq_eq_false rfl)).trans (congrArg (fun g9 => fT g9 6 f656) ((fT_sw _ _ _ (Nat.ne_of_beq_eq_false rfl)).trans (congrArg (fun g9 => fT g9 4 f456) (fT_sm _ _ _ _))))))))))).symm
              rw [← e9] at hP hD
              clear e9
              have hP : va_P (dC, dI) vwCl (WR a k h0 (fT (fT (fT vi 5 (nI (cc + 1))) 6 (nI Rf)) 7 (nI (0 + 1))) vj (fT (fT (fT (fT (fT (fT (fT vF 74 f74x) 0 g386) 4 f456) 6 f656) 2 f21) 3 f31) 5 f5F) (fT vG 1 gs1)) H := hP
              have hD : va_D A (WR a k h0 (fT (fT (fT vi 5 (nI (cc + 1))) 6 (nI Rf)) 7 (nI (0 + 1))) vj (fT (fT (fT (fT (fT (fT (fT vF 74 f74x) 0 g386) 4 f456) 6 f656) 2 f21) 3 f31) 5 f5F) (fT vG 1 gs1)) := hD
              revert hw9
              refine fz_a3 ?_
              intro f386_0 f386_1 f386_2
              refine lv_aload_n hx hb dX12_addsUp_389 rfl (lv_at hl 0 rfl) ?_
              have hFc := allFree hD hS hA
              refine va_calli (va_runV (As := []) (rest := []) ⟨hx, hb, hml, hown, hts⟩ (r_X12_goalRow l dC dI a k h0 (fT (fT (fT vi 5 (nI (cc + 1))) 6 (nI Rf)) 7 (nI (0 + 1))) vj (fT (fT (fT (fT (fT (fT (fT vF 74 f74x) 0 g386) 4 f456) 6 f656) 2 f21) 3 f31) 5 f5F) (fT vG 1 gs1) (cc + 1) Rf 1 m2386 f386_0 (by first | with_reducible assumption | decide | omega | rfl | assumption) (by first | with_reducible assumption | decide | omega | rfl | assumption) (rfl) (by first | with_reducible assumption | decide | omega | rfl | assumption) (by first | with_reducible assumption | decide | omega | rfl | assumption) (by first | with_reducible assumption | decide | omega | rfl | assumption) H.size) (cwV 0 hts gwsRX12_addsUp_8 rfl rfl rfl hd_yX12_goalRow_RX12 (by decide +kernel)) (fz_pre (va_recv hK hP (ci := 12) (q0 := 0) rfl rfl) hP hK hD) rfl rfl hl.1 rfl (lv_room (Nat.le_of_ble_eq_true rfl)) dX12_addsUp_390 (by decide +kernel)) hS (fun q _ h => hFc q h) hFc (fun r390 u t9_ H locs ht hvm hw9 hB9 hz1 hk1 hS => ?_)
              revert u
              refine fz_p2 ?_
              intro g390 m2390 hw9 hB9
              try dsimp only at hw9 hB9
              have hP : va_P (dC, dI) vwCl (WR a k h0 (fT (fT (fT (fT vi 5 (nI (cc + 1))) 6 (nI Rf)) 7 (nI (0 + 1))) 7 (nI (1 + 1))) vj (fT (fT (fT (fT (fT (fT (fT (fT vF 74 f74x) 0 g386) 4 f456) 6 f656) 2 f21) 3 f31) 5 f5F) 0 g390) (fT vG 1 gs1)) H := fz_P ht hB9.1
              have hD : va_D A (WR a k h0 (fT (fT (fT (fT vi 5 (nI (cc + 1))) 6 (nI Rf)) 7 (nI (0 + 1))) 7 (nI (1 + 1))) vj (fT (fT (fT (fT (fT (fT (fT (fT vF 74 f74x) 0 g386) 4 f456) 6 f656) 2 f21) 3 f31) 5 f5F) 0 g390) (fT vG 1 gs1)) := hB9.2.weaken (fun _ q _ h => hFc q.1 h)
              have e9 : fT (fT (fT vi 5 (nI (cc + 1))) 6 (nI Rf)) 7 (nI (1 + 1)) = fT (fT (fT (fT vi 5 (nI (cc + 1))) 6 (nI Rf)) 7 (nI (0 + 1))) 7 (nI (1 + 1)) := (fT_sm _ _ _ _).symm
              rw [← e9] at hP hD
              clear e9
              have e9 : fT (fT (fT (fT (fT (fT (fT vF 74 f74x) 0 g390) 4 f456) 6 f656) 2 f21) 3 f31) 5 f5F = fT (fT (fT (fT (fT (fT (fT (fT vF 74 f74x) 0 g386) 4 f456) 6 f656) 2 f21) 3 f31) 5 f5F) 0 g390 := ((fT_sw _ _ _ (Nat.ne_of_beq_eq_false rfl)).trans (congrArg (fun g9 => fT g9 5 f5F) ((fT_sw _ _ _ (Nat.ne_of_beq_eq_false rfl)).trans (congrArg (fun g9 => fT g9 3 f31) ((fT_sw _ _ _ (Nat.ne_of_beq_eq_false rfl)).trans (congrArg (fun g9 => fT g9 2 f21) ((fT_sw _ _ _ (Nat.ne_of_beq_eq_false rfl)).trans (congrArg (fun g9 => fT g9 6 f656) ((fT_sw _ _ _ (Nat.ne_of_beq_eq_false rfl)).trans (congrArg (fun g9 => fT g9 4 f456) (fT_sm _ _ _ _))))))))))).symm
              rw [← e9] at hP hD
              clear e9
              have hP : va_P (dC, dI) vwCl (WR a k h0 (fT (fT (fT vi 5 (nI (cc + 1))) 6 (nI Rf)) 7 (nI (1 + 1))) vj (fT (fT (fT (fT (fT (fT (fT vF 74 f74x) 0 g390) 4 f456) 6 f656) 2 f21) 3 f31) 5 f5F) (fT vG 1 gs1)) H := hP
              have hD : va_D A (WR a k h0 (fT (fT (fT vi 5 (nI (cc + 1))) 6 (nI Rf)) 7 (nI (1 + 1))) vj (fT (fT (fT (fT (fT (fT (fT vF 74 f74x) 0 g390) 4 f456) 6 f656) 2 f21) 3 f31) 5 f5F) (fT vG 1 gs1)) := hD
              obtain ⟨rfl, f390_0, f390_1, f390_2⟩ := hw9
              refine lv_istore_n hx hb dX12_addsUp_393 rfl hl (by decide) rfl (fun ls (hl : lv_has ls _ ([(2, .int (nI (Rf + 1))), (0, .ref h0)])) => ?_)
              refine lv_iconst (v := 0) hx hb dX12_addsUp_394 (by decide) ?_
              refine lv_istore_n hx hb dX12_addsUp_395 rfl hl (by decide) rfl (fun ls (hl : lv_has ls _ ([(3, .int 0), (2, .int (nI (Rf + 1))), (0, .ref h0)])) => ?_)
              have hl : lv_has _ _ ([(0, .ref h0), (2, .int (nI (Rf + 1))), (3, .int (nI 0))]) := lv_sub hl [2, 1, 0] rfl
              refine (fun (loop : ∀ (n9 : Nat) (i8 : Nat) (g7 : Nat → Int32) (m6 : Nat → Int) (H : Heap) (locs : List Loc) (ls : Array Slot), (Bg g7 m6) → (i8 ≤ nd) → (RwB (cc + 1) m6 (Rf + 1) (fun _ => 99999)) → (∀ q, (q < 30 + (Rf + 1) * (cc + 1 + 1) ∨ 30 + (Rf + 1) * (cc + 1 + 1) + (cc + 1 - 1) ≤ q) → m6 q = m2390 q) →  (nd < i8 + n9) → va_P (dC, dI) vwCl (WR a k h0 (fT (fT (fT vi 5 (nI (cc + 1))) 6 (nI Rf)) 7 (nI (1 + 1))) vj (fT (fT (fT (fT (fT (fT (fT vF 74 f74x) 0 g7) 4 f456) 6 f656) 2 f21) 3 f31) 5 f5F) (fT vG 1 gs1)) H → va_D A (WR a k h0 (fT (fT (fT vi 5 (nI (cc + 1))) 6 (nI Rf)) 7 (nI (1 + 1))) vj (fT (fT (fT (fT (fT (fT (fT vF 74 f74x) 0 g7) 4 f456) 6 f656) 2 f21) 3 f31) 5 f5F) (fT vG 1 gs1)) → va_S A s.heap H locs → lv_has ls 6 [(0, .ref h0), (2, .int (nI (Rf + 1))), (3, .int (nI i8))] → W p l e _ s m _ below meth c H locs 0 0 _ (F0 m 396 ls [])) => loop (nd + 1) 0 g390 m2390 _ _ _ (f390_0) (by omega) (fun j hj => by rw [f390_1 j (by omega)]; exact Nat.zero_le _) (fun q _ => rfl) (by omega) hP hD hS hl) ?_
              intro n9
              induction n9 with
              | zero => intro i8 g7 m6 H locs ls hB7 hi8 hrw hfr hf9; exact False.elim (by omega)
              | succ n9 ih396_4 =>
                intro i8 g7 m6 H locs ls hB7 hi8 hrw hfr hf396_4 hP hD hS hl
                refine lv_iload_n hx hb dX12_addsUp_396 rfl (lv_at hl 2 rfl) ?_
                refine lv_aload_n hx hb dX12_addsUp_397 rfl (lv_at hl 0 rfl) ?_
                refine va_get (D := (dC, dI)) (ci := 12) (v := .int (vi 119)) (C := RX12) (T := TX12) (N := 163) (fs := fM (vS a (fT (fT (fT vi 5 (nI (cc + 1))) 6 (nI Rf)) 7 (nI (1 + 1))) vj)) hx hb hts iwsRX12_addsUp_in12 hown hK hP 0 rfl rfl 119 (by decide) (hts (.fieldLink RX12 894 "OptimaWorksModel" "needs" "I") (by decide +kernel)) (fun _ h9 => h9) rfl dX12_addsUp_398 ?_
                refine lv_topi (fun y11 hy11 => ?_)
                obtain rfl : (nI nd) = y11 := (hy11.trans (hnd)).symm
                refine lv_icmp_ge (tgt := 423) hx hb dX12_addsUp_401 (by decide) (fun c_401 => ?_) (fun c_401 => ?_)
                · have t_401 : ((i8 : Nat) : Int) ≥ ((nd : Nat) : Int) := toI_ge c_401 (nI_toInt (by omega)) (nI_toInt (by omega))
                  have hbk : ∀ q, (q < 30 + Rf * (cc + 1 + 1) ∨ 30 + (Rf + 1) * (cc + 1 + 1) + (cc + 1) < q) → m6 q = mF q := fun q hq => by rw [hfr q (by omega), f390_2 q (by omega), f386_2 q (by omega)]
                  have hr1 : ∀ j, j ≤ cc + 1 → m6 (30 + Rf * (cc + 1 + 1) + j) = if j = cc + 1 - 1 then 1 else 0 := fun j hj => by rw [hfr _ (by omega), f390_2 _ (by omega)]; exact f386_1 j hj
                  have hr2 : ∀ j, j ≤ cc + 1 → (m6 (30 + (Rf + 1) * (cc + 1 + 1) + j)).natAbs ≤ 99999 := fun j hj => by by_cases e9 : j < cc + 1 - 1; (exact hrw j e9); (rw [hfr _ (by omega), f390_1 j hj]; exact Nat.zero_le _)
                  have hBl6 : BldP (cc + 1) Rf m6 f5F (bcl (ncS (ncw (vF 61) (vF 71) (vF 72) (vF 73)) z)) Bs := hBlF.frame (fun p h1 h2 => hbk p (by omega))
                  have hps := prov_small (C := cc + 1) (R := Rf) (m := m6) (f5 := f5F) (by omega) (by omega) h40.2.2 (by omega) hBl6 hRf hr1 hr2
                  have hsm : Small (cc + 1) Rf (Rf + 2) (fun i j => m6 (30 + i * (cc + 1 + 1) + j)) := fun t D rl cl h => ⟨Nat.lt_of_lt_of_le (hps t D rl cl h).1.1 (Nat.pow_le_pow_right (by decide) (by decide)), (hps t D rl cl h).2⟩
                  have h20x : m6 20 = 1 := (hbk 20 (by omega)).trans h20F
                  refine lv_aload_n hx hb dX12_addsUp_423 rfl (lv_at hl 0 rfl) ?_
                  refine W.cut (pc := 443) (fun H locs ls stk => ∃ (is9 : Int32) (t7 : Nat → Nat → Int) (D7 : Int) (g9 : Nat → Int32) (f29 : Nat → Int32) (f39 : Nat → Int32) (f49x : Nat → Int32) (f59x : Nat → Int32) (f69x : Nat → Int32) (gs9 : Nat → Int64) (F9 : Nat → Int64) (L89 : Nat → Int64) (qk9 : Int32) (qd9 : Int64) (m7 : Nat → Int), (Bg g9 m7) ∧ (Tab qk9 (cc + 1) (Rf + 2) m7 F9 qd9 t7 D7) ∧ (Sx (cc + 1) Rf (Rf + 2) (fun i j => m6 (30 + i * (cc + 1 + 1) + j)) t7 D7 f49x f59x) ∧ (∀ q, 1000 ≤ q → m7 q = m6 q) ∧ (is9 = 0 ∨ is9 = 1) ∧  stk = [.int is9] ∧ va_P (dC, dI) vwCl (WR a k h0 (fT (fT (fT (fT vi 5 (nI (cc + 1))) 6 (nI Rf)) 7 (nI (1 + 1))) 11 qk9) (fT vj 12 qd9) (fT (fT (fT (fT (fT (fT (fT vF 74 f74x) 0 g9) 4 f49x) 6 f69x) 2 f29) 3 f39) 5 f59x) (fT (fT (fT vG 1 gs9) 7 F9) 8 L89)) H ∧ va_D A (WR a k h0 (fT (fT (fT (fT vi 5 (nI (cc + 1))) 6 (nI Rf)) 7 (nI (1 + 1))) 11 qk9) (fT vj 12 qd9) (fT (fT (fT (fT (fT (fT (fT vF 74 f74x) 0 g9) 4 f49x) 6 f69x) 2 f29) 3 f39) 5 f59x) (fT (fT (fT vG 1 gs9) 7 F9) 8 L89)) ∧ va_S A s.heap H locs ∧ lv_has ls 6 [(0, .ref h0)]) (fun join3 => ?_) ?_
                  · have hFc := allFree hD hS hA
                    refine va_calli (va_runV (As := []) (rest := []) ⟨hx, hb, hml, hown, hts⟩ (r_X12_canKeep l dC dI a k h0 (fT (fT (fT vi 5 (nI (cc + 1))) 6 (nI Rf)) 7 (nI (1 + 1))) vj (fT (fT (fT (fT (fT (fT (fT vF 74 f74x) 0 g7) 4 f456) 6 f656) 2 f21) 3 f31) 5 f5F) (fT vG 1 gs1) (cc + 1) Rf 2 (fun i j => m6 (30 + i * (cc + 1 + 1) + j)) m6 hB7 (by first | with_reducible assumption | decide | omega | rfl | assumption) (by first | with_reducible assumption | decide | omega | rfl | assumption) (rfl) (by first | with_reducible assumption | decide | omega | rfl | assumption) (by first | with_reducible assumption | decide | omega | rfl | assumption) (by first | with_reducible assumption | decide | omega | rfl | assumption) (⟨fun i _ j _ => rfl, h20x⟩) (f56_1) (fun i hi => (hBl6 i hi).1) (fun i hi => (hBl6 i hi).2.2.1) (hr1) (by first | with_reducible assumption | decide | omega | rfl | assumption) (hsm) H.size) (cwV 0 hts gwsRX12_addsUp_9 rfl rfl rfl hd_yX12_canKeep_RX12 (by decide +kernel)) (fz_pre (va_recv hK hP (ci := 12) (q0 := 0) rfl rfl) hP hK hD) rfl rfl hl.1 rfl (lv_room (Nat.le_of_ble_eq_true rfl)) dX12_addsUp_424 (by decide +kernel)) hS (fun q _ h => hFc q h) hFc (fun r424 u t9_ H locs ht hvm hw9 hB9 hz1 hk1 hS => ?_)
                    revert u
                    refine fz_p14 ?_
                    intro g424 f2w424 f3w424 f4424 f5424 f6424 gs424 F424 L8424 qk424 qd424 m2424 t2424 D2424 hw9 hB9
                    try dsimp only at hw9 hB9
                    have hP : va_P (dC, dI) vwCl (WR a k h0 (fT (fT (fT (fT vi 5 (nI (cc + 1))) 6 (nI Rf)) 7 (nI (1 + 1))) 11 qk424) (fT vj 12 qd424) (fT (fT (fT (fT (fT (fT (fT (fT (fT (fT (fT (fT (fT vF 74 f74x) 0 g7) 4 f456) 6 f656) 2 f21) 3 f31) 5 f5F) 0 g424) 2 f2w424) 3 f3w424) 4 f4424) 5 f5424) 6 f6424) (fT (fT (fT (fT vG 1 gs1) 7 F424) 1 gs424) 8 L8424)) H := fz_P ht hB9.1
                    have hD : va_D A (WR a k h0 (fT (fT (fT (fT vi 5 (nI (cc + 1))) 6 (nI Rf)) 7 (nI (1 + 1))) 11 qk424) (fT vj 12 qd424) (fT (fT (fT (fT (fT (fT (fT (fT (fT (fT (fT (fT (fT vF 74 f74x) 0 g7) 4 f456) 6 f656) 2 f21) 3 f31) 5 f5F) 0 g424) 2 f2w424) 3 f3w424) 4 f4424) 5 f5424) 6 f6424) (fT (fT (fT (fT vG 1 gs1) 7 F424) 1 gs424) 8 L8424)) := hB9.2.weaken (fun _ q _ h => hFc q.1 h)
                    have e9 : fT (fT (fT (fT (fT (fT (fT vF 74 f74x) 0 g424) 4 f4424) 6 f6424) 2 f2w424) 3 f3w424) 5 f5424 = fT (fT (fT (fT (fT (fT (fT (fT (fT (fT (fT (fT (fT vF 74 f74x) 0 g7) 4 f456) 6 f656) 2 f21) 3 f31) 5 f5F) 0 g424) 2 f2w424) 3 f3w424) 4 f4424) 5 f5424) 6 f6424 := ((congrArg (fun g9 => fT (fT (fT (fT (fT g9 2 f2w424) 3 f3w424) 4 f4424) 5 f5424) 6 f6424) ((fT_sw _ _ _ (Nat.ne_of_beq_eq_false rfl)).trans (congrArg (fun g9 => fT g9 5 f5F) ((fT_sw _ _ _ (Nat.ne_of_beq_eq_false rfl)).trans (congrArg (fun g9 => fT g9 3 f31) ((fT_sw _ _ _ (Nat.ne_of_beq_eq_false rfl)).trans (congrArg (fun g9 => fT g9 2 f21) ((fT_sw _ _ _ (Nat.ne_of_beq_eq_false rfl)).trans (congrArg (fun g9 => fT g9 6 f656) ((fT_sw _ _ _ (Nat.ne_of_beq_eq_false rfl)).trans (congrArg (fun g9 => fT g9 4 f456) (fT_sm _ _ _ _)))))))))))).trans ((congrArg (fun g9 => fT (fT (fT (fT g9 3 f3w424) 4 f4424) 5 f5424) 6 f6424) ((fT_sw _ _ _ (Nat.ne_of_beq_eq_false rfl)).trans (congrArg (fun g9 => fT g9 5 f5F) ((fT_sw _ _ _ (Nat.ne_of_beq_eq_false rfl)).trans (congrArg (fun g9 => fT g9 3 f31) (fT_sm _ _ _ _)))))).trans ((congrArg (fun g9 => fT (fT (fT g9 4 f4424) 5 f5424) 6 f6424) ((fT_sw _ _ _ (Nat.ne_of_beq_eq_false rfl)).trans (congrArg (fun g9 => fT g9 5 f5F) (fT_sm _ _ _ _)))).trans ((congrArg (fun g9 => fT (fT g9 5 f5424) 6 f6424) ((fT_sw _ _ _ (Nat.ne_of_beq_eq_false rfl)).trans (congrArg (fun g9 => fT g9 5 f5F) ((fT_sw _ _ _ (Nat.ne_of_beq_eq_false rfl)).trans (congrArg (fun g9 => fT g9 3 f3w424) ((fT_sw _ _ _ (Nat.ne_of_beq_eq_false rfl)).trans (congrArg (fun g9 => fT g9 2 f2w424) ((fT_sw _ _ _ (Nat.ne_of_beq_eq_false rfl)).trans (congrArg (fun g9 => fT g9 6 f656) (fT_sm _ _ _ _)))))))))).trans ((congrArg (fun g9 => fT g9 6 f6424) (fT_sm _ _ _ _)).trans ((fT_sw _ _ _ (Nat.ne_of_beq_eq_false rfl)).trans (congrArg (fun g9 => fT g9 5 f5424) ((fT_sw _ _ _ (Nat.ne_of_beq_eq_false rfl)).trans (congrArg (fun g9 => fT g9 3 f3w424) ((fT_sw _ _ _ (Nat.ne_of_beq_eq_false rfl)).trans (congrArg (fun g9 => fT g9 2 f2w424) (fT_sm _ _ _ _)))))))))))).symm
                    rw [← e9] at hP hD
                    clear e9
                    have e9 : fT (fT (fT vG 1 gs424) 7 F424) 8 L8424 = fT (fT (fT (fT vG 1 gs1) 7 F424) 1 gs424) 8 L8424 := (congrArg (fun g9 => fT g9 8 L8424) ((fT_sw _ _ _ (Nat.ne_of_beq_eq_false rfl)).trans (congrArg (fun g9 => fT g9 7 F424) (fT_sm _ _ _ _)))).symm
                    rw [← e9] at hP hD
                    clear e9
                    have hP : va_P (dC, dI) vwCl (WR a k h0 (fT (fT (fT (fT vi 5 (nI (cc + 1))) 6 (nI Rf)) 7 (nI (1 + 1))) 11 qk424) (fT vj 12 qd424) (fT (fT (fT (fT (fT (fT (fT vF 74 f74x) 0 g424) 4 f4424) 6 f6424) 2 f2w424) 3 f3w424) 5 f5424) (fT (fT (fT vG 1 gs424) 7 F424) 8 L8424)) H := hP
                    have hD : va_D A (WR a k h0 (fT (fT (fT (fT vi 5 (nI (cc + 1))) 6 (nI Rf)) 7 (nI (1 + 1))) 11 qk424) (fT vj 12 qd424) (fT (fT (fT (fT (fT (fT (fT vF 74 f74x) 0 g424) 4 f4424) 6 f6424) 2 f2w424) 3 f3w424) 5 f5424) (fT (fT (fT vG 1 gs424) 7 F424) 8 L8424)) := hD
                    rcases hw9 with ⟨rfl, f424_0, f424_1, f424_2, f424_3, f424_4⟩ | ⟨rfl, f424_0, f424_1, f424_2, f424_3, f424_4⟩
                    · refine lv_if_eq (tgt := 442) hx hb dX12_addsUp_427 (by decide) (fun _ => ?_) (fun c9 => absurd (by decide) c9)
                      refine lv_iconst (v := 0) hx hb dX12_addsUp_442 (by decide) ?_
                      have hl : lv_has _ _ ([(0, .ref h0)]) := lv_sub hl [0] rfl
                      exact join3 _ _ _ _ ⟨0, t2424, D2424, g424, f2w424, f3w424, f4424, f5424, f6424, gs424, F424, L8424, qk424, qd424, m2424, f424_0, f424_1, f424_2, fun q hq => by (rw [f424_4 _ (by omega)]), Or.inl rfl, rfl, hP, hD, hS, hl⟩
                    · refine lv_if_eq (tgt := 442) hx hb dX12_addsUp_427 (by decide) (fun c9 => absurd c9 (by decide)) (fun _ => ?_)
                      refine lv_aload_n hx hb dX12_addsUp_430 rfl (lv_at hl 0 rfl) ?_
                      refine lv_iload_n hx hb dX12_addsUp_431 rfl (lv_at hl 1 rfl) ?_
                      have hFc := allFree hD hS hA
                      refine va_calli (va_runV (As := [.int (nI (Rf + 1))]) (rest := []) ⟨hx, hb, hml, hown, hts⟩ (r_X12_raise l dC dI a k h0 (fT (fT (fT (fT vi 5 (nI (cc + 1))) 6 (nI Rf)) 7 (nI (1 + 1))) 11 qk424) (fT vj 12 qd424) (fT (fT (fT (fT (fT (fT (fT vF 74 f74x) 0 g424) 4 f4424) 6 f6424) 2 f2w424) 3 f3w424) 5 f5424) (fT (fT (fT vG 1 gs424) 7 F424) 8 L8424) (Rf + 1) (fun i j => m6 (30 + i * (cc + 1 + 1) + j)) (cc + 1) Rf 2 t2424 D2424 m2424 f424_0 (by first | with_reducible assumption | decide | omega | rfl | assumption) (by first | with_reducible assumption | decide | omega | rfl | assumption) (rfl) (by first | with_reducible assumption | decide | omega | rfl | assumption) (by first | with_reducible assumption | decide | omega | rfl | assumption) (by first | with_reducible assumption | decide | omega | rfl | assumption) (f424_1) (f424_2) (hsm) (f424_3) (by first | with_reducible assumption | decide | omega | rfl | assumption) (by first | with_reducible assumption | decide | omega | rfl | assumption) H.size) (cwV 1 hts gwsRX12_addsUp_10 rfl rfl rfl hd_yX12_raise_RX12 (by decide +kernel)) (fz_pre (va_recv hK hP (ci := 12) (q0 := 0) rfl rfl) hP hK hD) rfl rfl hl.1 rfl (lv_room (Nat.le_of_ble_eq_true rfl)) dX12_addsUp_432 (by decide +kernel)) hS (fun q _ h => hFc q h) hFc (fun r432 u t9_ H locs ht hvm hw9 hB9 hz1 hk1 hS => ?_)
                      revert u
                      refine fz_p14 ?_
                      intro g432 f2w432 f3w432 f4432 f5432 f6432 gs432 F432 L8432 qk432 qd432 m2432 t2432 D2432 hw9 hB9
                      try dsimp only at hw9 hB9
                      have hP : va_P (dC, dI) vwCl (WR a k h0 (fT (fT (fT (fT (fT vi 5 (nI (cc + 1))) 6 (nI Rf)) 7 (nI (1 + 1))) 11 qk424) 11 qk432) (fT (fT vj 12 qd424) 12 qd432) (fT (fT (fT (fT (fT (fT (fT (fT (fT (fT (fT (fT (fT vF 74 f74x) 0 g424) 4 f4424) 6 f6424) 2 f2w424) 3 f3w424) 5 f5424) 0 g432) 2 f2w432) 3 f3w432) 4 f4432) 5 f5432) 6 f6432) (fT (fT (fT (fT (fT (fT vG 1 gs424) 7 F424) 8 L8424) 1 gs432) 7 F432) 8 L8432)) H := fz_P ht hB9.1
                      have hD : va_D A (WR a k h0 (fT (fT (fT (fT (fT vi 5 (nI (cc + 1))) 6 (nI Rf)) 7 (nI (1 + 1))) 11 qk424) 11 qk432) (fT (fT vj 12 qd424) 12 qd432) (fT (fT (fT (fT (fT (fT (fT (fT (fT (fT (fT (fT (fT vF 74 f74x) 0 g424) 4 f4424) 6 f6424) 2 f2w424) 3 f3w424) 5 f5424) 0 g432) 2 f2w432) 3 f3w432) 4 f4432) 5 f5432) 6 f6432) (fT (fT (fT (fT (fT (fT vG 1 gs424) 7 F424) 8 L8424) 1 gs432) 7 F432) 8 L8432)) := hB9.2.weaken (fun _ q _ h => hFc q.1 h)
                      have e9 : fT (fT (fT (fT vi 5 (nI (cc + 1))) 6 (nI Rf)) 7 (nI (1 + 1))) 11 qk432 = fT (fT (fT (fT (fT vi 5 (nI (cc + 1))) 6 (nI Rf)) 7 (nI (1 + 1))) 11 qk424) 11 qk432 := (fT_sm _ _ _ _).symm
                      rw [← e9] at hP hD
                      clear e9
                      have e9 : fT vj 12 qd432 = fT (fT vj 12 qd424) 12 qd432 := (fT_sm _ _ _ _).symm
                      rw [← e9] at hP hD
                      clear e9
                      have e9 : fT (fT (fT (fT (fT (fT (fT vF 74 f74x) 0 g432) 4 f4432) 6 f6432) 2 f2w432) 3 f3w432) 5 f5432 = fT (fT (fT (fT (fT (fT (fT (fT (fT (fT (fT (fT (fT vF 74 f74x) 0 g424) 4 f4424) 6 f6424) 2 f2w424) 3 f3w424) 5 f5424) 0 g432) 2 f2w432) 3 f3w432) 4 f4432) 5 f5432) 6 f6432 := ((congrArg (fun g9 => fT (fT (fT (fT (fT g9 2 f2w432) 3 f3w432) 4 f4432) 5 f5432) 6 f6432) ((fT_sw _ _ _ (Nat.ne_of_beq_eq_false rfl)).trans (congrArg (fun g9 => fT g9 5 f5424) ((fT_sw _ _ _ (Nat.ne_of_beq_eq_false rfl)).trans (congrArg (fun g9 => fT g9 3 f3w424) ((fT_sw _ _ _ (Nat.ne_of_beq_eq_false rfl)).trans (congrArg (fun g9 => fT g9 2 f2w424) ((fT_sw _ _ _ (Nat.ne_of_beq_eq_false rfl)).trans (congrArg (fun g9 => fT g9 6 f6424) ((fT_sw _ _ _ (Nat.ne_of_beq_eq_false rfl)).trans (congrArg (fun g9 => fT g9 4 f4424) (fT_sm _ _ _ _)))))))))))).trans ((congrArg (fun g9 => fT (fT (fT (fT g9 3 f3w432) 4 f4432) 5 f5432) 6 f6432) ((fT_sw _ _ _ (Nat.ne_of_beq_eq_false rfl)).trans (congrArg (fun g9 => fT g9 5 f5424) ((fT_sw _ _ _ (Nat.ne_of_beq_eq_false rfl)).trans (congrArg (fun g9 => fT g9 3 f3w424) (fT_sm _ _ _ _)))))).trans ((congrArg (fun g9 => fT (fT (fT g9 4 f4432) 5 f5432) 6 f6432) ((fT_sw _ _ _ (Nat.ne_of_beq_eq_false rfl)).trans (congrArg (fun g9 => fT g9 5 f5424) (fT_sm _ _ _ _)))).trans ((congrArg (fun g9 => fT (fT g9 5 f5432) 6 f6432) ((fT_sw _ _ _ (Nat.ne_of_beq_eq_false rfl)).trans (congrArg (fun g9 => fT g9 5 f5424) ((fT_sw _ _ _ (Nat.ne_of_beq_eq_false rfl)).trans (congrArg (fun g9 => fT g9 3 f3w432) ((fT_sw _ _ _ (Nat.ne_of_beq_eq_false rfl)).trans (congrArg (fun g9 => fT g9 2 f2w432) ((fT_sw _ _ _ (Nat.ne_of_beq_eq_false rfl)).trans (congrArg (fun g9 => fT g9 6 f6424) (fT_sm _ _ _ _)))))))))).trans ((congrArg (fun g9 => fT g9 6 f6432) (fT_sm _ _ _ _)).trans ((fT_sw _ _ _ (Nat.ne_of_beq_eq_false rfl)).trans (congrArg (fun g9 => fT g9 5 f5432) ((fT_sw _ _ _ (Nat.ne_of_beq_eq_false rfl)).trans (congrArg (fun g9 => fT g9 3 f3w432) ((fT_sw _ _ _ (Nat.ne_of_beq_eq_false rfl)).trans (congrArg (fun g9 => fT g9 2 f2w432) (fT_sm _ _ _ _)))))))))))).symm
                      rw [← e9] at hP hD
                      clear e9
                      have e9 : fT (fT (fT vG 1 gs432) 7 F432) 8 L8432 = fT (fT (fT (fT (fT (fT vG 1 gs424) 7 F424) 8 L8424) 1 gs432) 7 F432) 8 L8432 := ((congrArg (fun g9 => fT (fT g9 7 F432) 8 L8432) ((fT_sw _ _ _ (Nat.ne_of_beq_eq_false rfl)).trans (congrArg (fun g9 => fT g9 8 L8424) ((fT_sw _ _ _ (Nat.ne_of_beq_eq_false rfl)).trans (congrArg (fun g9 => fT g9 7 F424) (fT_sm _ _ _ _)))))).trans ((congrArg (fun g9 => fT g9 8 L8432) ((fT_sw _ _ _ (Nat.ne_of_beq_eq_false rfl)).trans (congrArg (fun g9 => fT g9 8 L8424) (fT_sm _ _ _ _)))).trans (fT_sm _ _ _ _))).symm
                      rw [← e9] at hP hD
                      clear e9
                      have hP : va_P (dC, dI) vwCl (WR a k h0 (fT (fT (fT (fT vi 5 (nI (cc + 1))) 6 (nI Rf)) 7 (nI (1 + 1))) 11 qk432) (fT vj 12 qd432) (fT (fT (fT (fT (fT (fT (fT vF 74 f74x) 0 g432) 4 f4432) 6 f6432) 2 f2w432) 3 f3w432) 5 f5432) (fT (fT (fT vG 1 gs432) 7 F432) 8 L8432)) H := hP
                      have hD : va_D A (WR a k h0 (fT (fT (fT (fT vi 5 (nI (cc + 1))) 6 (nI Rf)) 7 (nI (1 + 1))) 11 qk432) (fT vj 12 qd432) (fT (fT (fT (fT (fT (fT (fT vF 74 f74x) 0 g432) 4 f4432) 6 f6432) 2 f2w432) 3 f3w432) 5 f5432) (fT (fT (fT vG 1 gs432) 7 F432) 8 L8432)) := hD
                      revert hw9
                      refine fz_a6 ?_
                      intro f432_0 f432_1 f432_2 f432_3 f432_4 f432_5
                      refine lv_if_eq (tgt := 442) hx hb dX12_addsUp_435 (by decide) (fun c_435 => ?_) (fun c_435 => ?_)
                      · have t_435 : (r432).toInt = 0 := toI_eq c_435 rfl (by decide)
                        refine lv_iconst (v := 0) hx hb dX12_addsUp_442 (by decide) ?_
                        have hl : lv_has _ _ ([(0, .ref h0)]) := lv_sub hl [0] rfl
                        exact join3 _ _ _ _ ⟨0, t2432, D2432, g432, f2w432, f3w432, f4432, f5432, f6432, gs432, F432, L8432, qk432, qd432, m2432, f432_0, f432_1, f432_2, fun q hq => by (rw [f432_4 _ (by omega), f424_4 _ (by omega)]), Or.inl rfl, rfl, hP, hD, hS, hl⟩
                      · have t_435 : ¬ (r432).toInt = 0 := toI_neq c_435 rfl (by decide)
                        refine lv_iconst (v := 1) hx hb dX12_addsUp_438 (by decide) ?_
                        refine lv_goto (tgt := 443) hx hb dX12_addsUp_439 (by decide) ?_
                        have hl : lv_has _ _ ([(0, .ref h0)]) := lv_sub hl [0] rfl
                        exact join3 _ _ _ _ ⟨1, t2432, D2432, g432, f2w432, f3w432, f4432, f5432, f6432, gs432, F432, L8432, qk432, qd432, m2432, f432_0, f432_1, f432_2, fun q hq => by (rw [f432_4 _ (by omega), f424_4 _ (by omega)]), Or.inr rfl, rfl, hP, hD, hS, hl⟩
                  · rintro H locs ls stk ⟨is9, t7, D7, g9, f29, f39, f49x, f59x, f69x, gs9, F9, L89, qk9, qd9, m7, hB8, hT7, hS7, ho7, his, rfl, hP, hD, hS, hl⟩
                    refine lv_istore_n hx hb dX12_addsUp_443 rfl hl (by decide) rfl (fun ls (hl : lv_has ls _ ([(3, .int is9), (0, .ref h0)])) => ?_)
                    have hD7 := hS7.1.2.1
                    have hb7 := hps _ _ _ _ hS7.1
                    refine lv_aload_n hx hb dX12_addsUp_444 rfl (lv_at hl 1 rfl) ?_
                    have hFc := allFree hD hS hA
                    refine va_callv (va_runV (As := []) (rest := []) ⟨hx, hb, hml, hown, hts⟩ (r_X12_spill l dC dI a k h0 (fT (fT (fT (fT vi 5 (nI (cc + 1))) 6 (nI Rf)) 7 (nI (1 + 1))) 11 qk9) (fT vj 12 qd9) (fT (fT (fT (fT (fT (fT (fT vF 74 f74x) 0 g9) 4 f49x) 6 f69x) 2 f29) 3 f39) 5 f59x) (fT (fT (fT vG 1 gs9) 7 F9) 8 L89) (cc + 1) Rf 2 t7 D7 m7 hB8 (by first | with_reducible assumption | decide | omega | rfl | assumption) (by first | with_reducible assumption | decide | omega | rfl | assumption) (rfl) (by first | with_reducible assumption | decide | omega | rfl | assumption) (by first | with_reducible assumption | decide | omega | rfl | assumption) (by first | with_reducible assumption | decide | omega | rfl | assumption) (hT7) (hD7) H.size) (cwV 0 hts gwsRX12_addsUp_11 rfl rfl rfl hd_yX12_spill_RX12 (by decide +kernel)) (fz_pre (va_recv hK hP (ci := 12) (q0 := 0) rfl rfl) hP hK hD) rfl rfl hl.1 rfl (lv_room (Nat.le_of_ble_eq_true rfl)) dX12_addsUp_445 (by decide +kernel)) hS (fun q _ h => hFc q h) hFc (fun u t9_ H locs ht hvm hw9 hB9 hz1 hk1 hS => ?_)
                    revert u
                    refine fz_p2 ?_
                    intro g445 m2445 hw9 hB9
                    try dsimp only at hw9 hB9
                    have hP : va_P (dC, dI) vwCl (WR a k h0 (fT (fT (fT (fT (fT vi 5 (nI (cc + 1))) 6 (nI Rf)) 7 (nI (1 + 1))) 11 qk9) 11 0) (fT vj 12 qd9) (fT (fT (fT (fT (fT (fT (fT (fT vF 74 f74x) 0 g9) 4 f49x) 6 f69x) 2 f29) 3 f39) 5 f59x) 0 g445) (fT (fT (fT vG 1 gs9) 7 F9) 8 L89)) H := fz_P ht hB9.1
                    have hD : va_D A (WR a k h0 (fT (fT (fT (fT (fT vi 5 (nI (cc + 1))) 6 (nI Rf)) 7 (nI (1 + 1))) 11 qk9) 11 0) (fT vj 12 qd9) (fT (fT (fT (fT (fT (fT (fT (fT vF 74 f74x) 0 g9) 4 f49x) 6 f69x) 2 f29) 3 f39) 5 f59x) 0 g445) (fT (fT (fT vG 1 gs9) 7 F9) 8 L89)) := hB9.2.weaken (fun _ q _ h => hFc q.1 h)
                    have e9 : fT (fT (fT (fT vi 5 (nI (cc + 1))) 6 (nI Rf)) 7 (nI (1 + 1))) 11 0 = fT (fT (fT (fT (fT vi 5 (nI (cc + 1))) 6 (nI Rf)) 7 (nI (1 + 1))) 11 qk9) 11 0 := (fT_sm _ _ _ _).symm
                    rw [← e9] at hP hD
                    clear e9
                    have e9 : fT (fT (fT (fT (fT (fT (fT vF 74 f74x) 0 g445) 4 f49x) 6 f69x) 2 f29) 3 f39) 5 f59x = fT (fT (fT (fT (fT (fT (fT (fT vF 74 f74x) 0 g9) 4 f49x) 6 f69x) 2 f29) 3 f39) 5 f59x) 0 g445 := ((fT_sw _ _ _ (Nat.ne_of_beq_eq_false rfl)).trans (congrArg (fun g9 => fT g9 5 f59x) ((fT_sw _ _ _ (Nat.ne_of_beq_eq_false rfl)).trans (congrArg (fun g9 => fT g9 3 f39) ((fT_sw _ _ _ (Nat.ne_of_beq_eq_false rfl)).trans (congrArg (fun g9 => fT g9 2 f29) ((fT_sw _ _ _ (Nat.ne_of_beq_eq_false rfl)).trans (congrArg (fun g9 => fT g9 6 f69x) ((fT_sw _ _ _ (Nat.ne_of_beq_eq_false rfl)).trans (congrArg (fun g9 => fT g9 4 f49x) (fT_sm _ _ _ _))))))))))).symm
                    rw [← e9] at hP hD
                    clear e9
                    have hP : va_P (dC, dI) vwCl (WR a k h0 (fT (fT (fT (fT vi 5 (nI (cc + 1))) 6 (nI Rf)) 7 (nI (1 + 1))) 11 0) (fT vj 12 qd9) (fT (fT (fT (fT (fT (fT (fT vF 74 f74x) 0 g445) 4 f49x) 6 f69x) 2 f29) 3 f39) 5 f59x) (fT (fT (fT vG 1 gs9) 7 F9) 8 L89)) H := hP
                    have hD : va_D A (WR a k h0 (fT (fT (fT (fT vi 5 (nI (cc + 1))) 6 (nI Rf)) 7 (nI (1 + 1))) 11 0) (fT vj 12 qd9) (fT (fT (fT (fT (fT (fT (fT vF 74 f74x) 0 g445) 4 f49x) 6 f69x) 2 f29) 3 f39) 5 f59x) (fT (fT (fT vG 1 gs9) 7 F9) 8 L89)) := hD
                    revert hw9
                    refine fz_a3 ?_
                    intro f445_0 f445_1 f445_2
                    refine lv_iload_n hx hb dX12_addsUp_448 rfl (lv_at hl 0 rfl) ?_
                    refine W.widen (k := 0) (n := 0) (by decide +kernel) (by decide +kernel) ?_
                    have e9 : fT (fT (fT (fT vi 5 (nI (cc + 1))) 6 (nI Rf)) 7 (nI 2)) 11 0 = fT (fT (fT (fT vi 5 (nI (cc + 1))) 6 (nI Rf)) 7 (nI (1 + 1))) 11 0 := by funext q9; by_cases h9_5 : q9 = 5; (subst h9_5; exact ((fT_ne _ _ (Nat.ne_of_beq_eq_false rfl)).trans ((fT_ne _ _ (Nat.ne_of_beq_eq_false rfl)).trans ((fT_ne _ _ (Nat.ne_of_beq_eq_false rfl)).trans (fT_eq _ _ _)))).trans (Eq.trans (by first | with_reducible rfl | with_reducible assumption | (symm; with_reducible assumption) | rfl | assumption | (symm; assumption) | (subst_vars; rfl)) ((fT_ne _ _ (Nat.ne_of_beq_eq_false rfl)).trans ((fT_ne _ _ (Nat.ne_of_beq_eq_false rfl)).trans ((fT_ne _ _ (Nat.ne_of_beq_eq_false rfl)).trans (fT_eq _ _ _)))).symm)); by_cases h9_6 : q9 = 6; (subst h9_6; exact ((fT_ne _ _ (Nat.ne_of_beq_eq_false rfl)).trans ((fT_ne _ _ (Nat.ne_of_beq_eq_false rfl)).trans (fT_eq _ _ _))).trans (Eq.trans (by first | with_reducible rfl | with_reducible assumption | (symm; with_reducible assumption) | rfl | assumption | (symm; assumption) | (subst_vars; rfl)) ((fT_ne _ _ (Nat.ne_of_beq_eq_false rfl)).trans ((fT_ne _ _ (Nat.ne_of_beq_eq_false rfl)).trans (fT_eq _ _ _))).symm)); by_cases h9_7 : q9 = 7; (subst h9_7; exact ((fT_ne _ _ (Nat.ne_of_beq_eq_false rfl)).trans (fT_eq _ _ _)).trans (Eq.trans (by first | with_reducible rfl | with_reducible assumption | (symm; with_reducible assumption) | rfl | assumption | (symm; assumption) | (subst_vars; rfl)) ((fT_ne _ _ (Nat.ne_of_beq_eq_false rfl)).trans (fT_eq _ _ _)).symm)); by_cases h9_11 : q9 = 11; (subst h9_11; exact (fT_eq _ _ _).trans (Eq.trans (by first | with_reducible rfl | with_reducible assumption | (symm; with_reducible assumption) | rfl | assumption | (symm; assumption) | (subst_vars; rfl)) (fT_eq _ _ _).symm)); exact ((fT_ne _ _ h9_11).trans ((fT_ne _ _ h9_7).trans ((fT_ne _ _ h9_6).trans (fT_ne _ _ h9_5)))).trans ((fT_ne _ _ h9_11).trans ((fT_ne _ _ h9_7).trans ((fT_ne _ _ h9_6).trans (fT_ne _ _ h9_5)))).symm
                    have hP : va_P (dC, dI) vwCl (WR a k h0 (fT (fT (fT (fT vi 5 (nI (cc + 1))) 6 (nI Rf)) 7 (nI 2)) 11 0) (fT vj 12 qd9) (fT (fT (fT (fT (fT (fT (fT vF 74 f74x) 0 g445) 4 f49x) 6 f69x) 2 f29) 3 f39) 5 f59x) (fT (fT (fT vG 1 gs9) 7 F9) 8 L89)) H := by rw [e9]; exact hP
                    have hD : va_D A (WR a k h0 (fT (fT (fT (fT vi 5 (nI (cc + 1))) 6 (nI Rf)) 7 (nI 2)) 11 0) (fT vj 12 qd9) (fT (fT (fT (fT (fT (fT (fT vF 74 f74x) 0 g445) 4 f49x) 6 f69x) 2 f29) 3 f39) 5 f59x) (fT (fT (fT vG 1 gs9) 7 F9) 8 L89)) := by rw [e9]; exact hD
                    clear e9
                    exact W.zret (v := is9) hx hb hr (by rcases his with h | h <;> rw [h] <;> rfl) (fun t9_ ht hW => ⟨⟨is9, (g445, f29, f39, f49x, f59x, f69x, f74x, gs9, F9, L89, qd9, (cc + 1), Rf, t7, D7, m2445), rfl, by (try dsimp only); exact ⟨f445_0, f445_1, ⟨hD7, hb7.1.1⟩, fun i hi => hb7.1.2 i hi _ (Nat.le_refl _), fun i hi => hb7.2 i hi _ (Nat.le_refl _), by omega, by (have e9 : m2445 1045 = mS 19 := by (rw [f445_2 _ (by omega) (by omega)]); rw [ho7 _ (by omega), hbk _ (by omega)]; exact h45F); rw [e9]; exact ⟨h19p, h19b, h19s⟩, fun q h1 h2 => by (rw [f445_2 _ (by omega) (by omega)]); rw [ho7 _ (by omega), hbk _ (by omega)]; exact hoF q h1 h2, his⟩, by rw [ht]; exact hP, hD⟩, hS.F ht⟩) hS.2.2 dX12_addsUp_449
                · have t_401 : ¬ ((i8 : Nat) : Int) ≥ ((nd : Nat) : Int) := toI_nge c_401 (nI_toInt (by omega)) (nI_toInt (by omega))
                  refine lv_aload_n hx hb dX12_addsUp_404 rfl (lv_at hl 0 rfl) ?_
                  refine lv_iload_n hx hb dX12_addsUp_405 rfl (lv_at hl 1 rfl) ?_
                  refine lv_iload_n hx hb dX12_addsUp_406 rfl (lv_at hl 2 rfl) ?_
                  refine lv_aload_n hx hb dX12_addsUp_407 rfl (lv_at hl 0 rfl) ?_
                  refine lv_iload_n hx hb dX12_addsUp_408 rfl (lv_at hl 2 rfl) ?_
                  refine lv_iconst (v := (-1)) hx hb dX12_addsUp_409 (by decide) ?_
                  have hFc := allFree hD hS hA
                  refine va_calli (va_runV (As := [.int (nI i8), .int (-1)]) (rest := [.int (nI i8), .int (nI (Rf + 1)), .ref h0]) ⟨hx, hb, hml, hown, hts⟩ (r_X12_needNumberb l dC dI a k h0 (fT (fT (fT vi 5 (nI (cc + 1))) 6 (nI Rf)) 7 (nI (1 + 1))) vj (fT (fT (fT (fT (fT (fT (fT vF 74 f74x) 0 g7) 4 f456) 6 f656) 2 f21) 3 f31) 5 f5F) (fT vG 1 gs1) i8 vn mr z nd gq (by first | with_reducible assumption | decide | omega | rfl | assumption) (by first | with_reducible assumption | decide | omega | rfl | assumption) (by first | with_reducible assumption | decide | omega | rfl | assumption) (by first | with_reducible assumption | decide | omega | rfl | assumption) (by first | with_reducible assumption | decide | omega | rfl | assumption) H.size) (cwV 2 hts gwsRX12_addsUp_12 rfl rfl rfl hd_yX12_needNumber_RX12 (by decide +kernel)) (fz_pre (va_recv hK hP (ci := 12) (q0 := 0) rfl rfl) hP hK hD) rfl rfl hl.1 rfl (lv_room (Nat.le_of_ble_eq_true rfl)) dX12_addsUp_410 (by decide +kernel)) hS (fun q _ h => hFc q h) hFc (fun r410 u t9_ H locs ht hvm hw9 hB9 hz1 hk1 hS => ?_)
                  have hP : va_P (dC, dI) vwCl (WR a k h0 (fT (fT (fT vi 5 (nI (cc + 1))) 6 (nI Rf)) 7 (nI (1 + 1))) vj (fT (fT (fT (fT (fT (fT (fT vF 74 f74x) 0 g7) 4 f456) 6 f656) 2 f21) 3 f31) 5 f5F) (fT vG 1 gs1)) H := fz_P ht hB9.1
                  have hD : va_D A (WR a k h0 (fT (fT (fT vi 5 (nI (cc + 1))) 6 (nI Rf)) 7 (nI (1 + 1))) vj (fT (fT (fT (fT (fT (fT (fT vF 74 f74x) 0 g7) 4 f456) 6 f656) 2 f21) 3 f31) 5 f5F) (fT vG 1 gs1)) := hB9.2.weaken (fun _ q _ h => hFc q.1 h)
                  have f410_0 := hw9
                  try dsimp only at f410_0
                  refine lv_iconst (v := (-1)) hx hb dX12_addsUp_413 (by decide) ?_
                  have hFc := allFree hD hS hA
                  refine va_callv (va_runV (As := [.int (nI (Rf + 1)), .int (nI i8), .int r410, .int (-1)]) (rest := []) ⟨hx, hb, hml, hown, hts⟩ (r_X12_spread l dC dI a k h0 (fT (fT (fT vi 5 (nI (cc + 1))) 6 (nI Rf)) 7 (nI (1 + 1))) vj (fT (fT (fT (fT (fT (fT (fT vF 74 f74x) 0 g7) 4 f456) 6 f656) 2 f21) 3 f31) 5 f5F) (fT vG 1 gs1) (Rf + 1) r410 (-1) (-1) (cc + 1) (fun _ => 99999) i8 vn mr z nd m6 hB7 (by first | with_reducible assumption | decide | omega | rfl | assumption) (by first | with_reducible assumption | decide | omega | rfl | assumption) (by first | with_reducible assumption | decide | omega | rfl | assumption) (by first | with_reducible assumption | decide | omega | rfl | assumption) (by first | with_reducible assumption | decide | omega | rfl | assumption) (by first | with_reducible assumption | decide | omega | rfl | assumption) (by first | with_reducible assumption | decide | omega | rfl | assumption) (h74 _ (by omega)) (hin i8 (by omega)) (by decide) (Or.inr rfl) (f410_0) (fun _ _ _ => f410_0) (hrw) H.size) (cwV 4 hts gwsRX12_addsUp_13 rfl rfl rfl hd_yX12_spread_RX12 (by decide +kernel)) (fz_pre (va_recv hK hP (ci := 12) (q0 := 0) rfl rfl) hP hK hD) rfl rfl hl.1 rfl (lv_room (Nat.le_of_ble_eq_true rfl)) dX12_addsUp_414 (by decide +kernel)) hS (fun q _ h => hFc q h) hFc (fun u t9_ H locs ht hvm hw9 hB9 hz1 hk1 hS => ?_)
                  revert u
                  refine fz_p2 ?_
                  intro g414 m2414 hw9 hB9
                  try dsimp only at hw9 hB9
                  have hP : va_P (dC, dI) vwCl (WR a k h0 (fT (fT (fT vi 5 (nI (cc + 1))) 6 (nI Rf)) 7 (nI (1 + 1))) vj (fT (fT (fT (fT (fT (fT (fT (fT vF 74 f74x) 0 g7) 4 f456) 6 f656) 2 f21) 3 f31) 5 f5F) 0 g414) (fT vG 1 gs1)) H := fz_P ht hB9.1
                  have hD : va_D A (WR a k h0 (fT (fT (fT vi 5 (nI (cc + 1))) 6 (nI Rf)) 7 (nI (1 + 1))) vj (fT (fT (fT (fT (fT (fT (fT (fT vF 74 f74x) 0 g7) 4 f456) 6 f656) 2 f21) 3 f31) 5 f5F) 0 g414) (fT vG 1 gs1)) := hB9.2.weaken (fun _ q _ h => hFc q.1 h)
                  have e9 : fT (fT (fT (fT (fT (fT (fT vF 74 f74x) 0 g414) 4 f456) 6 f656) 2 f21) 3 f31) 5 f5F = fT (fT (fT (fT (fT (fT (fT (fT vF 74 f74x) 0 g7) 4 f456) 6 f656) 2 f21) 3 f31) 5 f5F) 0 g414 := ((fT_sw _ _ _ (Nat.ne_of_beq_eq_false rfl)).trans (congrArg (fun g9 => fT g9 5 f5F) ((fT_sw _ _ _ (Nat.ne_of_beq_eq_false rfl)).trans (congrArg (fun g9 => fT g9 3 f31) ((fT_sw _ _ _ (Nat.ne_of_beq_eq_false rfl)).trans (congrArg (fun g9 => fT g9 2 f21) ((fT_sw _ _ _ (Nat.ne_of_beq_eq_false rfl)).trans (congrArg (fun g9 => fT g9 6 f656) ((fT_sw _ _ _ (Nat.ne_of_beq_eq_false rfl)).trans (congrArg (fun g9 => fT g9 4 f456) (fT_sm _ _ _ _))))))))))).symm
                  rw [← e9] at hP hD
                  clear e9
                  have hP : va_P (dC, dI) vwCl (WR a k h0 (fT (fT (fT vi 5 (nI (cc + 1))) 6 (nI Rf)) 7 (nI (1 + 1))) vj (fT (fT (fT (fT (fT (fT (fT vF 74 f74x) 0 g414) 4 f456) 6 f656) 2 f21) 3 f31) 5 f5F) (fT vG 1 gs1)) H := hP
                  have hD : va_D A (WR a k h0 (fT (fT (fT vi 5 (nI (cc + 1))) 6 (nI Rf)) 7 (nI (1 + 1))) vj (fT (fT (fT (fT (fT (fT (fT vF 74 f74x) 0 g414) 4 f456) 6 f656) 2 f21) 3 f31) 5 f5F) (fT vG 1 gs1)) := hD
                  revert hw9
                  refine fz_a3 ?_
                  intro f414_0 f414_1 f414_2
                  refine lv_iinc (v := (nI (i8 + 1))) hx hb dX12_addsUp_417 hl (k := 2) rfl (nI_add i8 1) (by decide) rfl (fun ls (hl : lv_has ls _ ([(3, .int (nI (i8 + 1))), (0, .ref h0), (2, .int (nI (Rf + 1)))])) => ?_)
                  refine lv_goto (tgt := 396) hx hb dX12_addsUp_420 (by decide) ?_
                  have hl : lv_has _ _ ([(0, .ref h0), (2, .int (nI (Rf + 1))), (3, .int (nI (i8 + 1)))]) := lv_sub hl [1, 2, 0] rfl
                  exact ih396_4 (i8 + 1) g414 m2414 _ _ _ (f414_0) (by omega) (f414_1) (fun q hq => by (rw [f414_2 _ (by omega)]); exact hfr q hq) (by omega) hP hD hS hl
          · have t_104 : ¬ ((k5 : Nat) : Int) ≥ ((vn : Nat) : Int) := toI_nge c_104 (nI_toInt (by omega)) (nI_toInt (by omega))
            refine lv_iconst (v := 1) hx hb dX12_addsUp_107 (by decide) ?_
            refine lv_istore_n hx hb dX12_addsUp_108 rfl hl (by decide) rfl (fun ls (hl : lv_has ls _ ([(3, .int 1), (0, .ref h0), (2, .int (nI k5))])) => ?_)
            have e9 : fT (fT (fT vi 5 (nI (cc + 1))) 6 (nI (2 * k5 + 0))) 7 0 = fT (fT (fT vi 5 (nI (cc + 1))) 6 (nI (2 * k5))) 7 0 := by funext q9; by_cases h9_5 : q9 = 5; (subst h9_5; exact ((fT_ne _ _ (Nat.ne_of_beq_eq_false rfl)).trans ((fT_ne _ _ (Nat.ne_of_beq_eq_false rfl)).trans (fT_eq _ _ _))).trans (Eq.trans (by first | with_reducible rfl | with_reducible assumption | (symm; with_reducible assumption) | rfl | assumption | (symm; assumption) | (subst_vars; rfl)) ((fT_ne _ _ (Nat.ne_of_beq_eq_false rfl)).trans ((fT_ne _ _ (Nat.ne_of_beq_eq_false rfl)).trans (fT_eq _ _ _))).symm)); by_cases h9_6 : q9 = 6; (subst h9_6; exact ((fT_ne _ _ (Nat.ne_of_beq_eq_false rfl)).trans (fT_eq _ _ _)).trans (Eq.trans (by first | with_reducible rfl | with_reducible assumption | (symm; with_reducible assumption) | rfl | assumption | (symm; assumption) | (subst_vars; rfl)) ((fT_ne _ _ (Nat.ne_of_beq_eq_false rfl)).trans (fT_eq _ _ _)).symm)); by_cases h9_7 : q9 = 7; (subst h9_7; exact (fT_eq _ _ _).trans (Eq.trans (by first | with_reducible rfl | with_reducible assumption | (symm; with_reducible assumption) | rfl | assumption | (symm; assumption) | (subst_vars; rfl)) (fT_eq _ _ _).symm)); exact ((fT_ne _ _ h9_7).trans ((fT_ne _ _ h9_6).trans (fT_ne _ _ h9_5))).trans ((fT_ne _ _ h9_7).trans ((fT_ne _ _ h9_6).trans (fT_ne _ _ h9_5))).symm
            have hP : va_P (dC, dI) vwCl (WR a k h0 (fT (fT (fT vi 5 (nI (cc + 1))) 6 (nI (2 * k5 + 0))) 7 0) vj (fT (fT (fT (fT (fT (fT (fT vF 74 f74x) 0 g1) 4 f456) 6 f656) 2 f21) 3 f31) 5 f51) (fT vG 1 gs1)) H := by rw [e9]; exact hP
            have hD : va_D A (WR a k h0 (fT (fT (fT vi 5 (nI (cc + 1))) 6 (nI (2 * k5 + 0))) 7 0) vj (fT (fT (fT (fT (fT (fT (fT vF 74 f74x) 0 g1) 4 f456) 6 f656) 2 f21) 3 f31) 5 f51) (fT vG 1 gs1)) := by rw [e9]; exact hD
            clear e9
            have hl : lv_has _ _ ([(0, .ref h0), (2, .int (nI k5)), (3, .int 1)]) := lv_sub hl [1, 2, 0] rfl
            refine (fun (loop : ∀ (n9 : Nat) (hw : Int32) (hq : Nat) (g3 : Nat → Int32) (f23 : Nat → Int32) (f33 : Nat → Int32) (f53 : Nat → Int32) (gs3 : Nat → Int64) (m3 : Nat → Int) (H : Heap) (locs : List Loc) (ls : Array Slot), (Bg g3 m3) → ((hq = 0 ∧ hw = 1) ∨ (hq = 1 ∧ hw = -1) ∨ (hq = 2 ∧ hw = -3)) → (BldP (cc + 1) (2 * k5 + hq) m3 f53 (bcl (ncS (ncw (vF 61) (vF 71) (vF 72) (vF 73)) z)) Bs) → (m3 1045 = mS 19) → (m3 20 = 1) → (∀ q, 1000 ≤ q → q ≠ 1045 → m3 q = mg q) →  (3 < hq + n9) → va_P (dC, dI) vwCl (WR a k h0 (fT (fT (fT vi 5 (nI (cc + 1))) 6 (nI (2 * k5 + hq))) 7 0) vj (fT (fT (fT (fT (fT (fT (fT vF 74 f74x) 0 g3) 4 f456) 6 f656) 2 f23) 3 f33) 5 f53) (fT vG 1 gs3)) H → va_D A (WR a k h0 (fT (fT (fT vi 5 (nI (cc + 1))) 6 (nI (2 * k5 + hq))) 7 0) vj (fT (fT (fT (fT (fT (fT (fT vF 74 f74x) 0 g3) 4 f456) 6 f656) 2 f23) 3 f33) 5 f53) (fT vG 1 gs3)) → va_S A s.heap H locs → lv_has ls 6 [(0, .ref h0), (2, .int (nI k5)), (3, .int hw)] → W p l e _ s m _ below meth c H locs 0 0 _ (F0 m 109 ls [])) => loop (4) 1 0 g1 f21 f31 f51 gs1 m1 _ _ _ (hB1) (Or.inl ⟨rfl, rfl⟩) (hBl1) (h451) (h201) (ho1) (by omega) hP hD hS hl) ?_
            intro n9
            induction n9 with
            | zero => intro hw hq g3 f23 f33 f53 gs3 m3 H locs ls hB3 hh hBl3 h453 h203 ho3 hf9; exact False.elim (by omega)
            | succ n9 ih109_5 =>
              intro hw hq g3 f23 f33 f53 gs3 m3 H locs ls hB3 hh hBl3 h453 h203 ho3 hf109_5 hP hD hS hl
              refine lv_iload_n hx hb dX12_addsUp_109 rfl (lv_at hl 2 rfl) ?_
              refine lv_iconst (v := (-1)) hx hb dX12_addsUp_110 (by decide) ?_
              refine lv_icmp_lt (tgt := 261) hx hb dX12_addsUp_111 (by decide) (fun c_111 => ?_) (fun c_111 => ?_)
              · have t_111 : (hw).toInt < -1 := toI_lt c_111 rfl (by decide)
                have hq2 : hq = 2 := by rcases hh with ⟨h1, h2⟩ | ⟨h1, h2⟩ | ⟨h1, h2⟩; (exfalso; rw [h2] at t_111; exact absurd t_111 (by decide)); (exfalso; rw [h2] at t_111; exact absurd t_111 (by decide)); (exact h1)
                have e10 : nI (2 * (k5 + 1)) = nI (2 * k5 + hq) := by rw [hq2]; rfl
                have hBl3e : BldP (cc + 1) (2 * (k5 + 1)) m3 f53 (bcl (ncS (ncw (vF 61) (vF 71) (vF 72) (vF 73)) z)) Bs := by (have h9 := hBl3); rw [hq2] at h9; exact h9
                refine lv_iinc (v := (nI (k5 + 1))) hx hb dX12_addsUp_261 hl (k := 1) rfl (nI_add k5 1) (by decide) rfl (fun ls (hl : lv_has ls _ ([(2, .int (nI (k5 + 1))), (0, .ref h0), (3, .int hw)])) => ?_)
                refine lv_goto (tgt := 99) hx hb dX12_addsUp_264 (by decide) ?_
                have e9 : fT (fT (fT vi 5 (nI (cc + 1))) 6 (nI (2 * (k5 + 1)))) 7 0 = fT (fT (fT vi 5 (nI (cc + 1))) 6 (nI (2 * k5 + hq))) 7 0 := by funext q9; by_cases h9_5 : q9 = 5; (subst h9_5; exact ((fT_ne _ _ (Nat.ne_of_beq_eq_false rfl)).trans ((fT_ne _ _ (Nat.ne_of_beq_eq_false rfl)).trans (fT_eq _ _ _))).trans (Eq.trans (by first | with_reducible rfl | with_reducible assumption | (symm; with_reducible assumption) | rfl | assumption | (symm; assumption) | (subst_vars; rfl)) ((fT_ne _ _ (Nat.ne_of_beq_eq_false rfl)).trans ((fT_ne _ _ (Nat.ne_of_beq_eq_false rfl)).trans (fT_eq _ _ _))).symm)); by_cases h9_6 : q9 = 6; (subst h9_6; exact ((fT_ne _ _ (Nat.ne_of_beq_eq_false rfl)).trans (fT_eq _ _ _)).trans (Eq.trans (by first | with_reducible rfl | with_reducible assumption | (symm; with_reducible assumption) | rfl | assumption | (symm; assumption) | (subst_vars; rfl)) ((fT_ne _ _ (Nat.ne_of_beq_eq_false rfl)).trans (fT_eq _ _ _)).symm)); by_cases h9_7 : q9 = 7; (subst h9_7; exact (fT_eq _ _ _).trans (Eq.trans (by first | with_reducible rfl | with_reducible assumption | (symm; with_reducible assumption) | rfl | assumption | (symm; assumption) | (subst_vars; rfl)) (fT_eq _ _ _).symm)); exact ((fT_ne _ _ h9_7).trans ((fT_ne _ _ h9_6).trans (fT_ne _ _ h9_5))).trans ((fT_ne _ _ h9_7).trans ((fT_ne _ _ h9_6).trans (fT_ne _ _ h9_5))).symm
                have hP : va_P (dC, dI) vwCl (WR a k h0 (fT (fT (fT vi 5 (nI (cc + 1))) 6 (nI (2 * (k5 + 1)))) 7 0) vj (fT (fT (fT (fT (fT (fT (fT vF 74 f74x) 0 g3) 4 f456) 6 f656) 2 f23) 3 f33) 5 f53) (fT vG 1 gs3)) H := by rw [e9]; exact hP
                have hD : va_D A (WR a k h0 (fT (fT (fT vi 5 (nI (cc + 1))) 6 (nI (2 * (k5 + 1)))) 7 0) vj (fT (fT (fT (fT (fT (fT (fT vF 74 f74x) 0 g3) 4 f456) 6 f656) 2 f23) 3 f33) 5 f53) (fT vG 1 gs3)) := by rw [e9]; exact hD
                clear e9
                have hl : lv_has _ _ ([(0, .ref h0), (2, .int (nI (k5 + 1)))]) := lv_sub hl [1, 0] rfl
                exact ih99_1 (k5 + 1) g3 f23 f33 f53 gs3 m3 _ _ _ (hB3) (by omega) (hBl3e) (h453) (h203) (ho3) (by omega) hP hD hS hl
              · have t_111 : ¬ (hw).toInt < -1 := toI_nlt c_111 rfl (by decide)
                obtain ⟨hI, hhI, hI1, hq1⟩ : ∃ hI : Int, (hw).toInt = hI ∧ (hI = 1 ∨ hI = -1) ∧ hq < 2 := by rcases hh with ⟨h1, h2⟩ | ⟨h1, h2⟩ | ⟨h1, h2⟩; (exact ⟨1, by rw [h2]; decide, Or.inl rfl, by omega⟩); (exact ⟨-1, by rw [h2]; decide, Or.inr rfl, by omega⟩); (exfalso; rw [h2] at t_111; exact absurd t_111 (by decide))
                have hmul := hex (2 * k5 + hq) (by omega)
                have hmul2 : (2 * k5 + hq + 1) * (cc + 1 + 1) ≤ 18 * 42 := Nat.mul_le_mul (by omega) (by omega)
                rw [Nat.succ_mul] at hmul2
                refine lv_aload_n hx hb dX12_addsUp_114 rfl (lv_at hl 0 rfl) ?_
                have hFc := allFree hD hS hA
                refine va_calli (va_runV (As := []) (rest := []) ⟨hx, hb, hml, hown, hts⟩ (r_X12_newLine l dC dI a k h0 (fT (fT (fT vi 5 (nI (cc + 1))) 6 (nI (2 * k5 + hq))) 7 0) vj (fT (fT (fT (fT (fT (fT (fT vF 74 f74x) 0 g3) 4 f456) 6 f656) 2 f23) 3 f33) 5 f53) (fT vG 1 gs3) (cc + 1) (2 * k5 + hq) m3 hB3 (by first | with_reducible assumption | decide | omega | rfl | assumption) (by first | with_reducible assumption | decide | omega | rfl | assumption) (by first | with_reducible assumption | decide | omega | rfl | assumption) (by first | with_reducible assumption | decide | omega | rfl | assumption) (by first | with_reducible assumption | decide | omega | rfl | assumption) (by first | with_reducible assumption | decide | omega | rfl | assumption) H.size) (cwV 0 hts gwsRX12_addsUp_4 rfl rfl rfl hd_yX12_newLine_RX12 (by decide +kernel)) (fz_pre (va_recv hK hP (ci := 12) (q0 := 0) rfl rfl) hP hK hD) rfl rfl hl.1 rfl (lv_room (Nat.le_of_ble_eq_true rfl)) dX12_addsUp_115 (by decide +kernel)) hS (fun q _ h => hFc q h) hFc (fun r115 u t9_ H locs ht hvm hw9 hB9 hz1 hk1 hS => ?_)
                revert u
                refine fz_p2 ?_
                intro g115 m2115 hw9 hB9
                try dsimp only at hw9 hB9
                have hP : va_P (dC, dI) vwCl (WR a k h0 (fT (fT (fT (fT vi 5 (nI (cc + 1))) 6 (nI (2 * k5 + hq))) 7 0) 6 (nI ((2 * k5 + hq) + 1))) vj (fT (fT (fT (fT (fT (fT (fT (fT (fT vF 74 f74x) 0 g3) 4 f456) 6 f656) 2 f23) 3 f33) 5 f53) 0 g115) 5 (upd f53 (nI (2 * k5 + hq)).toNatClampNeg (nI ((cc + 1) + (2 * k5 + hq))))) (fT vG 1 gs3)) H := fz_P ht hB9.1
                have hD : va_D A (WR a k h0 (fT (fT (fT (fT vi 5 (nI (cc + 1))) 6 (nI (2 * k5 + hq))) 7 0) 6 (nI ((2 * k5 + hq) + 1))) vj (fT (fT (fT (fT (fT (fT (fT (fT (fT vF 74 f74x) 0 g3) 4 f456) 6 f656) 2 f23) 3 f33) 5 f53) 0 g115) 5 (upd f53 (nI (2 * k5 + hq)).toNatClampNeg (nI ((cc + 1) + (2 * k5 + hq))))) (fT vG 1 gs3)) := hB9.2.weaken (fun _ q _ h => hFc q.1 h)
                have e9 : fT (fT (fT vi 5 (nI (cc + 1))) 6 (nI ((2 * k5 + hq) + 1))) 7 0 = fT (fT (fT (fT vi 5 (nI (cc + 1))) 6 (nI (2 * k5 + hq))) 7 0) 6 (nI ((2 * k5 + hq) + 1)) := ((fT_sw _ _ _ (Nat.ne_of_beq_eq_false rfl)).trans (congrArg (fun g9 => fT g9 7 0) (fT_sm _ _ _ _))).symm
                rw [← e9] at hP hD
                clear e9
                have e9 : fT (fT (fT (fT (fT (fT (fT vF 74 f74x) 0 g115) 4 f456) 6 f656) 2 f23) 3 f33) 5 (upd f53 (nI (2 * k5 + hq)).toNatClampNeg (nI ((cc + 1) + (2 * k5 + hq)))) = fT (fT (fT (fT (fT (fT (fT (fT (fT vF 74 f74x) 0 g3) 4 f456) 6 f656) 2 f23) 3 f33) 5 f53) 0 g115) 5 (upd f53 (nI (2 * k5 + hq)).toNatClampNeg (nI ((cc + 1) + (2 * k5 + hq)))) := ((congrArg (fun g9 => fT g9 5 (upd f53 (nI (2 * k5 + hq)).toNatClampNeg (nI ((cc + 1) + (2 * k5 + hq))))) ((fT_sw _ _ _ (Nat.ne_of_beq_eq_false rfl)).trans (congrArg (fun g9 => fT g9 5 f53) ((fT_sw _ _ _ (Nat.ne_of_beq_eq_false rfl)).trans (congrArg (fun g9 => fT g9 3 f33) ((fT_sw _ _ _ (Nat.ne_of_beq_eq_false rfl)).trans (congrArg (fun g9 => fT g9 2 f23) ((fT_sw _ _ _ (Nat.ne_of_beq_eq_false rfl)).trans (congrArg (fun g9 => fT g9 6 f656) ((fT_sw _ _ _ (Nat.ne_of_beq_eq_false rfl)).trans (congrArg (fun g9 => fT g9 4 f456) (fT_sm _ _ _ _)))))))))))).trans (fT_sm _ _ _ _)).symm
                rw [← e9] at hP hD
                clear e9
                have hP : va_P (dC, dI) vwCl (WR a k h0 (fT (fT (fT vi 5 (nI (cc + 1))) 6 (nI ((2 * k5 + hq) + 1))) 7 0) vj (fT (fT (fT (fT (fT (fT (fT vF 74 f74x) 0 g115) 4 f456) 6 f656) 2 f23) 3 f33) 5 (upd f53 (nI (2 * k5 + hq)).toNatClampNeg (nI ((cc + 1) + (2 * k5 + hq))))) (fT vG 1 gs3)) H := hP
                have hD : va_D A (WR a k h0 (fT (fT (fT vi 5 (nI (cc + 1))) 6 (nI ((2 * k5 + hq) + 1))) 7 0) vj (fT (fT (fT (fT (fT (fT (fT vF 74 f74x) 0 g115) 4 f456) 6 f656) 2 f23) 3 f33) 5 (upd f53 (nI (2 * k5 + hq)).toNatClampNeg (nI ((cc + 1) + (2 * k5 + hq))))) (fT vG 1 gs3)) := hD
                obtain ⟨rfl, f115_0, f115_1, f115_2⟩ := hw9
                refine lv_istore hx hb dX12_addsUp_118 hl (by decide) rfl (fun ls (hl : lv_has ls _ ([(4, .int (nI (2 * k5 + hq))), (0, .ref h0), (2, .int (nI k5)), (3, .int hw)])) => ?_)
                refine lv_iconst (v := 0) hx hb dX12_addsUp_120 (by decide) ?_
                refine lv_istore hx hb dX12_addsUp_121 hl (by decide) rfl (fun ls (hl : lv_has ls _ ([(5, .int 0), (4, .int (nI (2 * k5 + hq))), (0, .ref h0), (2, .int (nI k5)), (3, .int hw)])) => ?_)
                have hl : lv_has _ _ ([(0, .ref h0), (2, .int (nI k5)), (3, .int hw), (4, .int (nI (2 * k5 + hq))), (5, .int (nI 0))]) := lv_sub hl [2, 3, 4, 1, 0] rfl
                refine (fun (loop : ∀ (n9 : Nat) (i6 : Nat) (g4 : Nat → Int32) (m4 : Nat → Int) (H : Heap) (locs : List Loc) (ls : Array Slot), (Bg g4 m4) → (i6 ≤ nd) → (RwB (cc + 1) m4 (2 * k5 + hq) (bcl (ncS (ncw (vF 61) (vF 71) (vF 72) (vF 73)) z))) → (∀ q, (q < 30 + (2 * k5 + hq) * (cc + 1 + 1) ∨ 30 + (2 * k5 + hq) * (cc + 1 + 1) + (cc + 1 - 1) ≤ q) → m4 q = m2115 q) →  (nd < i6 + n9) → va_P (dC, dI) vwCl (WR a k h0 (fT (fT (fT vi 5 (nI (cc + 1))) 6 (nI ((2 * k5 + hq) + 1))) 7 0) vj (fT (fT (fT (fT (fT (fT (fT vF 74 f74x) 0 g4) 4 f456) 6 f656) 2 f23) 3 f33) 5 (upd f53 (nI (2 * k5 + hq)).toNatClampNeg (nI ((cc + 1) + (2 * k5 + hq))))) (fT vG 1 gs3)) H → va_D A (WR a k h0 (fT (fT (fT vi 5 (nI (cc + 1))) 6 (nI ((2 * k5 + hq) + 1))) 7 0) vj (fT (fT (fT (fT (fT (fT (fT vF 74 f74x) 0 g4) 4 f456) 6 f656) 2 f23) 3 f33) 5 (upd f53 (nI (2 * k5 + hq)).toNatClampNeg (nI ((cc + 1) + (2 * k5 + hq))))) (fT vG 1 gs3)) → va_S A s.heap H locs → lv_has ls 6 [(0, .ref h0), (2, .int (nI k5)), (3, .int hw), (4, .int (nI (2 * k5 + hq))), (5, .int (nI i6))] → W p l e _ s m _ below meth c H locs 0 0 _ (F0 m 123 ls [])) => loop (nd + 1) 0 g115 m2115 _ _ _ (f115_0) (by omega) (fun j hj => by rw [f115_1 j (by omega), if_neg (by omega)]; exact Nat.zero_le _) (fun q _ => rfl) (by omega) hP hD hS hl) ?_
                intro n9
                induction n9 with
                | zero => intro i6 g4 m4 H locs ls hB4 hi6 hrw hfr hf9; exact False.elim (by omega)
                | succ n9 ih123_6 =>
                  intro i6 g4 m4 H locs ls hB4 hi6 hrw hfr hf123_6 hP hD hS hl
                  refine lv_iload hx hb dX12_addsUp_123 (lv_at hl 4 rfl) ?_
                  refine lv_aload_n hx hb dX12_addsUp_125 rfl (lv_at hl 0 rfl) ?_
                  refine va_get (D := (dC, dI)) (ci := 12) (v := .int (vi 119)) (C := RX12) (T := TX12) (N := 163) (fs := fM (vS a (fT (fT (fT vi 5 (nI (cc + 1))) 6 (nI ((2 * k5 + hq) + 1))) 7 0) vj)) hx hb hts iwsRX12_addsUp_in12 hown hK hP 0 rfl rfl 119 (by decide) (hts (.fieldLink RX12 894 "OptimaWorksModel" "needs" "I") (by decide +kernel)) (fun _ h9 => h9) rfl dX12_addsUp_126 ?_
                  refine lv_topi (fun y12 hy12 => ?_)
                  obtain rfl : (nI nd) = y12 := (hy12.trans (hnd)).symm
                  refine lv_icmp_ge (tgt := 154) hx hb dX12_addsUp_129 (by decide) (fun c_129 => ?_) (fun c_129 => ?_)
                  · have t_129 : ((i6 : Nat) : Int) ≥ ((nd : Nat) : Int) := toI_ge c_129 (nI_toInt (by omega)) (nI_toInt (by omega))
                    have e45 : m4 1045 = mS 19 := ((hfr 1045 (by omega)).trans (f115_2 1045 (by omega))).trans h453
                    refine lv_aload_n hx hb dX12_addsUp_154 rfl (lv_at hl 0 rfl) ?_
                    refine lv_bipush (v := 17) hx hb dX12_addsUp_155 (by decide) ?_
                    refine lv_lconst (v := 0) hx hb dX12_addsUp_157 (by decide) ?_
                    have hFc := allFree hD hS hA
                    refine va_callv (va_runV (As := [.int 17, .long 0]) (rest := []) ⟨hx, hb, hml, hown, hts⟩ (b_X12_put l dC dI a k h0 (fT (fT (fT vi 5 (nI (cc + 1))) 6 (nI ((2 * k5 + hq) + 1))) 7 0) vj (fT (fT (fT (fT (fT (fT (fT vF 74 f74x) 0 g4) 4 f456) 6 f656) 2 f23) 3 f33) 5 (upd f53 (nI (2 * k5 + hq)).toNatClampNeg (nI ((cc + 1) + (2 * k5 + hq))))) (fT vG 1 gs3) 17 0 0 m4 hB4 (by first | with_reducible assumption | decide | omega | rfl | assumption) (by decide) (by first | with_reducible assumption | decide | omega | rfl | assumption) H.size) (cwV 2 hts gwsRX12_addsUp_1 rfl rfl rfl hd_yX12_put_RX12 (by decide +kernel)) (fz_pre (va_recv hK hP (ci := 12) (q0 := 0) rfl rfl) hP hK hD) rfl rfl hl.1 rfl (lv_room (Nat.le_of_ble_eq_true rfl)) dX12_addsUp_158 (by decide +kernel)) hS (fun q _ h => hFc q h) hFc (fun g158 t9_ H locs ht hvm hw9 hB9 hz1 hk1 hS => ?_)
                    have hP : va_P (dC, dI) vwCl (WR a k h0 (fT (fT (fT vi 5 (nI (cc + 1))) 6 (nI ((2 * k5 + hq) + 1))) 7 0) vj (fT (fT (fT (fT (fT (fT (fT (fT vF 74 f74x) 0 g4) 4 f456) 6 f656) 2 f23) 3 f33) 5 (upd f53 (nI (2 * k5 + hq)).toNatClampNeg (nI ((cc + 1) + (2 * k5 + hq))))) 0 g158) (fT vG 1 gs3)) H := fz_P ht hB9.1
                    have hD : va_D A (WR a k h0 (fT (fT (fT vi 5 (nI (cc + 1))) 6 (nI ((2 * k5 + hq) + 1))) 7 0) vj (fT (fT (fT (fT (fT (fT (fT (fT vF 74 f74x) 0 g4) 4 f456) 6 f656) 2 f23) 3 f33) 5 (upd f53 (nI (2 * k5 + hq)).toNatClampNeg (nI ((cc + 1) + (2 * k5 + hq))))) 0 g158) (fT vG 1 gs3)) := hB9.2.weaken (fun _ q _ h => hFc q.1 h)
                    have e9 : fT (fT (fT (fT (fT (fT (fT vF 74 f74x) 0 g158) 4 f456) 6 f656) 2 f23) 3 f33) 5 (upd f53 (nI (2 * k5 + hq)).toNatClampNeg (nI ((cc + 1) + (2 * k5 + hq)))) = fT (fT (fT (fT (fT (fT (fT (fT vF 74 f74x) 0 g4) 4 f456) 6 f656) 2 f23) 3 f33) 5 (upd f53 (nI (2 * k5 + hq)).toNatClampNeg (nI ((cc + 1) + (2 * k5 + hq))))) 0 g158 := ((fT_sw _ _ _ (Nat.ne_of_beq_eq_false rfl)).trans (congrArg (fun g9 => fT g9 5 (upd f53 (nI (2 * k5 + hq)).toNatClampNeg (nI ((cc + 1) + (2 * k5 + hq))))) ((fT_sw _ _ _ (Nat.ne_of_beq_eq_false rfl)).trans (congrArg (fun g9 => fT g9 3 f33) ((fT_sw _ _ _ (Nat.ne_of_beq_eq_false rfl)).trans (congrArg (fun g9 => fT g9 2 f23) ((fT_sw _ _ _ (Nat.ne_of_beq_eq_false rfl)).trans (congrArg (fun g9 => fT g9 6 f656) ((fT_sw _ _ _ (Nat.ne_of_beq_eq_false rfl)).trans (congrArg (fun g9 => fT g9 4 f456) (fT_sm _ _ _ _))))))))))).symm
                    rw [← e9] at hP hD
                    clear e9
                    have hP : va_P (dC, dI) vwCl (WR a k h0 (fT (fT (fT vi 5 (nI (cc + 1))) 6 (nI ((2 * k5 + hq) + 1))) 7 0) vj (fT (fT (fT (fT (fT (fT (fT vF 74 f74x) 0 g158) 4 f456) 6 f656) 2 f23) 3 f33) 5 (upd f53 (nI (2 * k5 + hq)).toNatClampNeg (nI ((cc + 1) + (2 * k5 + hq))))) (fT vG 1 gs3)) H := hP
                    have hD : va_D A (WR a k h0 (fT (fT (fT vi 5 (nI (cc + 1))) 6 (nI ((2 * k5 + hq) + 1))) 7 0) vj (fT (fT (fT (fT (fT (fT (fT vF 74 f74x) 0 g158) 4 f456) 6 f656) 2 f23) 3 f33) 5 (upd f53 (nI (2 * k5 + hq)).toNatClampNeg (nI ((cc + 1) + (2 * k5 + hq))))) (fT vG 1 gs3)) := hD
                    have f158_0 := hw9
                    try dsimp only at f158_0
                    refine lv_aload_n hx hb dX12_addsUp_161 rfl (lv_at hl 0 rfl) ?_
                    refine lv_bipush (v := 19) hx hb dX12_addsUp_162 (by decide) ?_
                    refine lv_sipush (v := 1045) hx hb dX12_addsUp_164 (by decide) ?_
                    have hFc := allFree hD hS hA
                    refine va_callv (va_runV (As := [.int 19, .int 1045]) (rest := []) ⟨hx, hb, hml, hown, hts⟩ (b_X12_copy l dC dI a k h0 (fT (fT (fT vi 5 (nI (cc + 1))) 6 (nI ((2 * k5 + hq) + 1))) 7 0) vj (fT (fT (fT (fT (fT (fT (fT vF 74 f74x) 0 g158) 4 f456) 6 f656) 2 f23) 3 f33) 5 (upd f53 (nI (2 * k5 + hq)).toNatClampNeg (nI ((cc + 1) + (2 * k5 + hq))))) (fT vG 1 gs3) 19 1045 (fT m4 17 0) f158_0 (m4 1045) (by rw [fT_ne _ _ (by omega)]) (by first | with_reducible assumption | decide | omega | rfl | assumption) (by first | with_reducible assumption | decide | omega | rfl | assumption) (by first | with_reducible assumption | decide | omega | rfl | assumption) H.size) (cwV 2 hts gwsRX12_addsUp_3 rfl rfl rfl hd_yX12_copy_RX12 (by decide +kernel)) (fz_pre (va_recv hK hP (ci := 12) (q0 := 0) rfl rfl) hP hK hD) rfl rfl hl.1 rfl (lv_room (Nat.le_of_ble_eq_true rfl)) dX12_addsUp_167 (by decide +kernel)) hS (fun q _ h => hFc q h) hFc (fun g167 t9_ H locs ht hvm hw9 hB9 hz1 hk1 hS => ?_)
                    have hP : va_P (dC, dI) vwCl (WR a k h0 (fT (fT (fT vi 5 (nI (cc + 1))) 6 (nI ((2 * k5 + hq) + 1))) 7 0) vj (fT (fT (fT (fT (fT (fT (fT (fT vF 74 f74x) 0 g158) 4 f456) 6 f656) 2 f23) 3 f33) 5 (upd f53 (nI (2 * k5 + hq)).toNatClampNeg (nI ((cc + 1) + (2 * k5 + hq))))) 0 g167) (fT vG 1 gs3)) H := fz_P ht hB9.1
                    have hD : va_D A (WR a k h0 (fT (fT (fT vi 5 (nI (cc + 1))) 6 (nI ((2 * k5 + hq) + 1))) 7 0) vj (fT (fT (fT (fT (fT (fT (fT (fT vF 74 f74x) 0 g158) 4 f456) 6 f656) 2 f23) 3 f33) 5 (upd f53 (nI (2 * k5 + hq)).toNatClampNeg (nI ((cc + 1) + (2 * k5 + hq))))) 0 g167) (fT vG 1 gs3)) := hB9.2.weaken (fun _ q _ h => hFc q.1 h)
                    have e9 : fT (fT (fT (fT (fT (fT (fT vF 74 f74x) 0 g167) 4 f456) 6 f656) 2 f23) 3 f33) 5 (upd f53 (nI (2 * k5 + hq)).toNatClampNeg (nI ((cc + 1) + (2 * k5 + hq)))) = fT (fT (fT (fT (fT (fT (fT (fT vF 74 f74x) 0 g158) 4 f456) 6 f656) 2 f23) 3 f33) 5 (upd f53 (nI (2 * k5 + hq)).toNatClampNeg (nI ((cc + 1) + (2 * k5 + hq))))) 0 g167 := ((fT_sw _ _ _ (Nat.ne_of_beq_eq_false rfl)).trans (congrArg (fun g9 => fT g9 5 (upd f53 (nI (2 * k5 + hq)).toNatClampNeg (nI ((cc + 1) + (2 * k5 + hq))))) ((fT_sw _ _ _ (Nat.ne_of_beq_eq_false rfl)).trans (congrArg (fun g9 => fT g9 3 f33) ((fT_sw _ _ _ (Nat.ne_of_beq_eq_false rfl)).trans (congrArg (fun g9 => fT g9 2 f23) ((fT_sw _ _ _ (Nat.ne_of_beq_eq_false rfl)).trans (congrArg (fun g9 => fT g9 6 f656) ((fT_sw _ _ _ (Nat.ne_of_beq_eq_false rfl)).trans (congrArg (fun g9 => fT g9 4 f456) (fT_sm _ _ _ _))))))))))).symm
                    rw [← e9] at hP hD
                    clear e9
                    have hP : va_P (dC, dI) vwCl (WR a k h0 (fT (fT (fT vi 5 (nI (cc + 1))) 6 (nI ((2 * k5 + hq) + 1))) 7 0) vj (fT (fT (fT (fT (fT (fT (fT vF 74 f74x) 0 g167) 4 f456) 6 f656) 2 f23) 3 f33) 5 (upd f53 (nI (2 * k5 + hq)).toNatClampNeg (nI ((cc + 1) + (2 * k5 + hq))))) (fT vG 1 gs3)) H := hP
                    have hD : va_D A (WR a k h0 (fT (fT (fT vi 5 (nI (cc + 1))) 6 (nI ((2 * k5 + hq) + 1))) 7 0) vj (fT (fT (fT (fT (fT (fT (fT vF 74 f74x) 0 g167) 4 f456) 6 f656) 2 f23) 3 f33) 5 (upd f53 (nI (2 * k5 + hq)).toNatClampNeg (nI ((cc + 1) + (2 * k5 + hq))))) (fT vG 1 gs3)) := hD
                    have f167_0 := hw9
                    try dsimp only at f167_0
                    refine lv_aload_n hx hb dX12_addsUp_170 rfl (lv_at hl 0 rfl) ?_
                    refine va_get (D := (dC, dI)) (ci := 12) (v := .int (vi 118)) (C := RX12) (T := TX12) (N := 163) (fs := fM (vS a (fT (fT (fT vi 5 (nI (cc + 1))) 6 (nI ((2 * k5 + hq) + 1))) 7 0) vj)) hx hb hts iwsRX12_addsUp_in12 hown hK hP 0 rfl rfl 118 (by decide) (hts (.fieldLink RX12 903 "OptimaWorksModel" "isShort" "Z") (by decide +kernel)) (fun _ h9 => h9) rfl dX12_addsUp_171 ?_
                    refine W.cut (pc := 192) (fun H locs ls stk => ∃ (gJ : Nat → Int32) (f2J : Nat → Int32) (f3J : Nat → Int32) (gsJ : Nat → Int64) (mJ : Nat → Int), (Bg gJ mJ) ∧ ((mJ 17).natAbs ≤ Bs) ∧ (∀ q, 19 < q → mJ q = m4 q) ∧  stk = [] ∧ va_P (dC, dI) vwCl (WR a k h0 (fT (fT (fT vi 5 (nI (cc + 1))) 6 (nI ((2 * k5 + hq) + 1))) 7 0) vj (fT (fT (fT (fT (fT (fT (fT vF 74 f74x) 0 gJ) 4 f456) 6 f656) 2 f2J) 3 f3J) 5 (upd f53 (nI (2 * k5 + hq)).toNatClampNeg (nI ((cc + 1) + (2 * k5 + hq))))) (fT vG 1 gsJ)) H ∧ va_D A (WR a k h0 (fT (fT (fT vi 5 (nI (cc + 1))) 6 (nI ((2 * k5 + hq) + 1))) 7 0) vj (fT (fT (fT (fT (fT (fT (fT vF 74 f74x) 0 gJ) 4 f456) 6 f656) 2 f2J) 3 f3J) 5 (upd f53 (nI (2 * k5 + hq)).toNatClampNeg (nI ((cc + 1) + (2 * k5 + hq))))) (fT vG 1 gsJ)) ∧ va_S A s.heap H locs ∧ lv_has ls 6 [(0, .ref h0), (2, .int (nI k5)), (3, .int hw), (4, .int (nI (2 * k5 + hq)))]) (fun join4 => ?_) ?_
                    · refine lv_if_ne (tgt := 192) hx hb dX12_addsUp_174 (by decide) (fun c_174 => ?_) (fun c_174 => ?_)
                      · have t_174 : ((vi 118)).toInt ≠ 0 := toI_ne c_174 rfl (by decide)
                        have hl : lv_has _ _ ([(0, .ref h0), (2, .int (nI k5)), (3, .int hw), (4, .int (nI (2 * k5 + hq)))]) := lv_sub hl [0, 1, 2, 3] rfl
                        exact join4 _ _ _ _ ⟨g167, f23, f33, gs3, (fT (fT m4 17 0) 19 (m4 1045)), f167_0, by (have e9 : (fT (fT m4 17 0) 19 (m4 1045)) 17 = 0 := (by rw [fT_ne _ _ (by omega), fT_eq])); rw [e9]; exact Nat.zero_le _, fun q hq => by (rw [fT_ne _ _ (by omega), fT_ne _ _ (by omega)]), rfl, hP, hD, hS, hl⟩
                      · have t_174 : ((vi 118)).toInt = 0 := toI_nne c_174 rfl (by decide)
                        refine lv_aload_n hx hb dX12_addsUp_177 rfl (lv_at hl 0 rfl) ?_
                        refine va_get (D := (dC, dI)) (ci := 12) (v := .int (vi 93)) (C := RX12) (T := TX12) (N := 163) (fs := fM (vS a (fT (fT (fT vi 5 (nI (cc + 1))) 6 (nI ((2 * k5 + hq) + 1))) 7 0) vj)) hx hb hts iwsRX12_addsUp_in12 hown hK hP 0 rfl rfl 93 (by decide) (hts (.fieldLink RX12 805 "OptimaWorksModel" "modelGoals" "I") (by decide +kernel)) (fun _ h9 => h9) rfl dX12_addsUp_178 ?_
                        refine lv_topi (fun y13 hy13 => ?_)
                        obtain rfl : (nI gq) = y13 := (hy13.trans (hmg)).symm
                        refine lv_if_le (tgt := 192) hx hb dX12_addsUp_181 (by decide) (fun c_181 => ?_) (fun c_181 => ?_)
                        · have t_181 : ((gq : Nat) : Int) ≤ 0 := toI_le c_181 (nI_toInt (by omega)) (by decide)
                          have hl : lv_has _ _ ([(0, .ref h0), (2, .int (nI k5)), (3, .int hw), (4, .int (nI (2 * k5 + hq)))]) := lv_sub hl [0, 1, 2, 3] rfl
                          exact join4 _ _ _ _ ⟨g167, f23, f33, gs3, (fT (fT m4 17 0) 19 (m4 1045)), f167_0, by (have e9 : (fT (fT m4 17 0) 19 (m4 1045)) 17 = 0 := (by rw [fT_ne _ _ (by omega), fT_eq])); rw [e9]; exact Nat.zero_le _, fun q hq => by (rw [fT_ne _ _ (by omega), fT_ne _ _ (by omega)]), rfl, hP, hD, hS, hl⟩
                        · have t_181 : ¬ ((gq : Nat) : Int) ≤ 0 := toI_nle c_181 (nI_toInt (by omega)) (by decide)
                          refine lv_aload_n hx hb dX12_addsUp_184 rfl (lv_at hl 0 rfl) ?_
                          refine lv_iconst (v := 0) hx hb dX12_addsUp_185 (by decide) ?_
                          refine lv_iload_n hx hb dX12_addsUp_186 rfl (lv_at hl 1 rfl) ?_
                          refine lv_iconst (v := 1) hx hb dX12_addsUp_187 (by decide) ?_
                          refine lv_iadd hx hb dX12_addsUp_188 ?_
                          refine lv_topi (fun y14 hy14 => ?_)
                          obtain rfl : (nI (k5 + 1)) = y14 := (hy14.trans (nI_add k5 1)).symm
                          have hFc := allFree hD hS hA
                          refine va_callv (va_runV (As := [.int 0, .int (nI (k5 + 1))]) (rest := []) ⟨hx, hb, hml, hown, hts⟩ (r_X12_goalNumber l dC dI a k h0 (fT (fT (fT vi 5 (nI (cc + 1))) 6 (nI ((2 * k5 + hq) + 1))) 7 0) vj (fT (fT (fT (fT (fT (fT (fT vF 74 f74x) 0 g167) 4 f456) 6 f656) 2 f23) 3 f33) 5 (upd f53 (nI (2 * k5 + hq)).toNatClampNeg (nI ((cc + 1) + (2 * k5 + hq))))) (fT vG 1 gs3) 0 (k5 + 1) gq (fT (fT m4 17 0) 19 (m4 1045)) f167_0 (m4 1045) (by rw [fT_eq]) (by omega) (by first | with_reducible assumption | decide | omega | rfl | assumption) (by first | with_reducible assumption | decide | omega | rfl | assumption) (by first | with_reducible assumption | decide | omega | rfl | assumption) (by rw [e45]; exact h19b) H.size) (cwV 2 hts gwsRX12_addsUp_14 rfl rfl rfl hd_yX12_goalNumber_RX12 (by decide +kernel)) (fz_pre (va_recv hK hP (ci := 12) (q0 := 0) rfl rfl) hP hK hD) rfl rfl hl.1 rfl (lv_room (Nat.le_of_ble_eq_true rfl)) dX12_addsUp_189 (by decide +kernel)) hS (fun q _ h => hFc q h) hFc (fun u t9_ H locs ht hvm hw9 hB9 hz1 hk1 hS => ?_)
                          revert u
                          refine fz_p5 ?_
                          intro g189 f2w189 f3w189 gs189 m2189 hw9 hB9
                          try dsimp only at hw9 hB9
                          have hP : va_P (dC, dI) vwCl (WR a k h0 (fT (fT (fT vi 5 (nI (cc + 1))) 6 (nI ((2 * k5 + hq) + 1))) 7 0) vj (fT (fT (fT (fT (fT (fT (fT (fT (fT (fT vF 74 f74x) 0 g167) 4 f456) 6 f656) 2 f23) 3 f33) 5 (upd f53 (nI (2 * k5 + hq)).toNatClampNeg (nI ((cc + 1) + (2 * k5 + hq))))) 0 g189) 2 f2w189) 3 f3w189) (fT (fT vG 1 gs3) 1 gs189)) H := fz_P ht hB9.1
                          have hD : va_D A (WR a k h0 (fT (fT (fT vi 5 (nI (cc + 1))) 6 (nI ((2 * k5 + hq) + 1))) 7 0) vj (fT (fT (fT (fT (fT (fT (fT (fT (fT (fT vF 74 f74x) 0 g167) 4 f456) 6 f656) 2 f23) 3 f33) 5 (upd f53 (nI (2 * k5 + hq)).toNatClampNeg (nI ((cc + 1) + (2 * k5 + hq))))) 0 g189) 2 f2w189) 3 f3w189) (fT (fT vG 1 gs3) 1 gs189)) := hB9.2.weaken (fun _ q _ h => hFc q.1 h)
                          have e9 : fT (fT (fT (fT (fT (fT (fT vF 74 f74x) 0 g189) 4 f456) 6 f656) 2 f2w189) 3 f3w189) 5 (upd f53 (nI (2 * k5 + hq)).toNatClampNeg (nI ((cc + 1) + (2 * k5 + hq)))) = fT (fT (fT (fT (fT (fT (fT (fT (fT (fT vF 74 f74x) 0 g167) 4 f456) 6 f656) 2 f23) 3 f33) 5 (upd f53 (nI (2 * k5 + hq)).toNatClampNeg (nI ((cc + 1) + (2 * k5 + hq))))) 0 g189) 2 f2w189) 3 f3w189 := ((congrArg (fun g9 => fT (fT g9 2 f2w189) 3 f3w189) ((fT_sw _ _ _ (Nat.ne_of_beq_eq_false rfl)).trans (congrArg (fun g9 => fT g9 5 (upd f53 (nI (2 * k5 + hq)).toNatClampNeg (nI ((cc + 1) + (2 * k5 + hq))))) ((fT_sw _ _ _ (Nat.ne_of_beq_eq_false rfl)).trans (congrArg (fun g9 => fT g9 3 f33) ((fT_sw _ _ _ (Nat.ne_of_beq_eq_false rfl)).trans (congrArg (fun g9 => fT g9 2 f23) ((fT_sw _ _ _ (Nat.ne_of_beq_eq_false rfl)).trans (congrArg (fun g9 => fT g9 6 f656) ((fT_sw _ _ _ (Nat.ne_of_beq_eq_false rfl)).trans (congrArg (fun g9 => fT g9 4 f456) (fT_sm _ _ _ _)))))))))))).trans ((congrArg (fun g9 => fT g9 3 f3w189) ((fT_sw _ _ _ (Nat.ne_of_beq_eq_false rfl)).trans (congrArg (fun g9 => fT g9 5 (upd f53 (nI (2 * k5 + hq)).toNatClampNeg (nI ((cc + 1) + (2 * k5 + hq))))) ((fT_sw _ _ _ (Nat.ne_of_beq_eq_false rfl)).trans (congrArg (fun g9 => fT g9 3 f33) (fT_sm _ _ _ _)))))).trans ((fT_sw _ _ _ (Nat.ne_of_beq_eq_false rfl)).trans (congrArg (fun g9 => fT g9 5 (upd f53 (nI (2 * k5 + hq)).toNatClampNeg (nI ((cc + 1) + (2 * k5 + hq))))) (fT_sm _ _ _ _))))).symm
                          rw [← e9] at hP hD
                          clear e9
                          have e9 : fT vG 1 gs189 = fT (fT vG 1 gs3) 1 gs189 := (fT_sm _ _ _ _).symm
                          rw [← e9] at hP hD
                          clear e9
                          have hP : va_P (dC, dI) vwCl (WR a k h0 (fT (fT (fT vi 5 (nI (cc + 1))) 6 (nI ((2 * k5 + hq) + 1))) 7 0) vj (fT (fT (fT (fT (fT (fT (fT vF 74 f74x) 0 g189) 4 f456) 6 f656) 2 f2w189) 3 f3w189) 5 (upd f53 (nI (2 * k5 + hq)).toNatClampNeg (nI ((cc + 1) + (2 * k5 + hq))))) (fT vG 1 gs189)) H := hP
                          have hD : va_D A (WR a k h0 (fT (fT (fT vi 5 (nI (cc + 1))) 6 (nI ((2 * k5 + hq) + 1))) 7 0) vj (fT (fT (fT (fT (fT (fT (fT vF 74 f74x) 0 g189) 4 f456) 6 f656) 2 f2w189) 3 f3w189) 5 (upd f53 (nI (2 * k5 + hq)).toNatClampNeg (nI ((cc + 1) + (2 * k5 + hq))))) (fT vG 1 gs189)) := hD
                          revert hw9
                          refine fz_a4 ?_
                          intro f189_0 f189_1 f189_2 f189_3
                          have hl : lv_has _ _ ([(0, .ref h0), (2, .int (nI k5)), (3, .int hw), (4, .int (nI (2 * k5 + hq)))]) := lv_sub hl [0, 1, 2, 3] rfl
                          exact join4 _ _ _ _ ⟨g189, f2w189, f3w189, gs189, m2189, f189_0, by rw [hBs, if_pos c_174]; exact Nat.le_of_lt (gn_bd1 (by rw [e45]; exact h19b) f189_2), fun q hq => by (rw [f189_3 _ (by omega), fT_ne _ _ (by omega), fT_ne _ _ (by omega)]), rfl, hP, hD, hS, hl⟩
                    · rintro H locs ls stk ⟨gJ, f2J, f3J, gsJ, mJ, hBJ, h17b, hfJ, rfl, hP, hD, hS, hl⟩
                      refine lv_aload_n hx hb dX12_addsUp_192 rfl (lv_at hl 0 rfl) ?_
                      refine lv_aload_n hx hb dX12_addsUp_193 rfl (lv_at hl 0 rfl) ?_
                      refine lv_iload hx hb dX12_addsUp_194 (lv_at hl 3 rfl) ?_
                      refine lv_aload_n hx hb dX12_addsUp_196 rfl (lv_at hl 0 rfl) ?_
                      refine va_get (D := (dC, dI)) (ci := 12) (v := .int (nI (cc + 1))) (C := RX12) (T := TX12) (N := 163) (fs := fM (vS a (fT (fT (fT vi 5 (nI (cc + 1))) 6 (nI ((2 * k5 + hq) + 1))) 7 0) vj)) hx hb hts iwsRX12_addsUp_in12 hown hK hP 0 rfl rfl 5 (by decide) (hts (.fieldLink RX12 396 "OptimaWorksModel" "columns" "I") (by decide +kernel)) (fun _ h9 => h9) rfl dX12_addsUp_197 ?_
                      have hFc := allFree hD hS hA
                      refine va_calli (va_runV (As := [.int (nI (2 * k5 + hq)), .int (nI (cc + 1))]) (rest := [.ref h0]) ⟨hx, hb, hml, hown, hts⟩ (r_X12_at l dC dI a k h0 (fT (fT (fT vi 5 (nI (cc + 1))) 6 (nI ((2 * k5 + hq) + 1))) 7 0) vj (fT (fT (fT (fT (fT (fT (fT vF 74 f74x) 0 gJ) 4 f456) 6 f656) 2 f2J) 3 f3J) 5 (upd f53 (nI (2 * k5 + hq)).toNatClampNeg (nI ((cc + 1) + (2 * k5 + hq))))) (fT vG 1 gsJ) (2 * k5 + hq) (cc + 1) (cc + 1) (by first | with_reducible assumption | decide | omega | rfl | assumption) H.size) (cwV 2 hts gwsRX12_addsUp_5 rfl rfl rfl hd_yX12_at_RX12 (by decide +kernel)) (fz_pre (va_recv hK hP (ci := 12) (q0 := 0) rfl rfl) hP hK hD) rfl rfl hl.1 rfl (lv_room (Nat.le_of_ble_eq_true rfl)) dX12_addsUp_200 (by decide +kernel)) hS (fun q _ h => hFc q h) hFc (fun r200 u t9_ H locs ht hvm hw9 hB9 hz1 hk1 hS => ?_)
                      have hP : va_P (dC, dI) vwCl (WR a k h0 (fT (fT (fT vi 5 (nI (cc + 1))) 6 (nI ((2 * k5 + hq) + 1))) 7 0) vj (fT (fT (fT (fT (fT (fT (fT vF 74 f74x) 0 gJ) 4 f456) 6 f656) 2 f2J) 3 f3J) 5 (upd f53 (nI (2 * k5 + hq)).toNatClampNeg (nI ((cc + 1) + (2 * k5 + hq))))) (fT vG 1 gsJ)) H := fz_P ht hB9.1
                      have hD : va_D A (WR a k h0 (fT (fT (fT vi 5 (nI (cc + 1))) 6 (nI ((2 * k5 + hq) + 1))) 7 0) vj (fT (fT (fT (fT (fT (fT (fT vF 74 f74x) 0 gJ) 4 f456) 6 f656) 2 f2J) 3 f3J) 5 (upd f53 (nI (2 * k5 + hq)).toNatClampNeg (nI ((cc + 1) + (2 * k5 + hq))))) (fT vG 1 gsJ)) := hB9.2.weaken (fun _ q _ h => hFc q.1 h)
                      obtain rfl := hw9
                      refine lv_bipush (v := 17) hx hb dX12_addsUp_203 (by decide) ?_
                      have hFc := allFree hD hS hA
                      refine va_callv (va_runV (As := [.int (nI (30 + (2 * k5 + hq) * ((cc + 1) + 1) + (cc + 1))), .int 17]) (rest := []) ⟨hx, hb, hml, hown, hts⟩ (b_X12_copy l dC dI a k h0 (fT (fT (fT vi 5 (nI (cc + 1))) 6 (nI ((2 * k5 + hq) + 1))) 7 0) vj (fT (fT (fT (fT (fT (fT (fT vF 74 f74x) 0 gJ) 4 f456) 6 f656) 2 f2J) 3 f3J) 5 (upd f53 (nI (2 * k5 + hq)).toNatClampNeg (nI ((cc + 1) + (2 * k5 + hq))))) (fT vG 1 gsJ) (30 + (2 * k5 + hq) * ((cc + 1) + 1) + (cc + 1)) 17 mJ hBJ (mJ 17) rfl (by first | with_reducible assumption | decide | omega | rfl | assumption) (by first | with_reducible assumption | decide | omega | rfl | assumption) (by first | with_reducible assumption | decide | omega | rfl | assumption) H.size) (cwV 2 hts gwsRX12_addsUp_3 rfl rfl rfl hd_yX12_copy_RX12 (by decide +kernel)) (fz_pre (va_recv hK hP (ci := 12) (q0 := 0) rfl rfl) hP hK hD) rfl rfl hl.1 rfl (lv_room (Nat.le_of_ble_eq_true rfl)) dX12_addsUp_205 (by decide +kernel)) hS (fun q _ h => hFc q h) hFc (fun g205 t9_ H locs ht hvm hw9 hB9 hz1 hk1 hS => ?_)
                      have hP : va_P (dC, dI) vwCl (WR a k h0 (fT (fT (fT vi 5 (nI (cc + 1))) 6 (nI ((2 * k5 + hq) + 1))) 7 0) vj (fT (fT (fT (fT (fT (fT (fT (fT vF 74 f74x) 0 gJ) 4 f456) 6 f656) 2 f2J) 3 f3J) 5 (upd f53 (nI (2 * k5 + hq)).toNatClampNeg (nI ((cc + 1) + (2 * k5 + hq))))) 0 g205) (fT vG 1 gsJ)) H := fz_P ht hB9.1
                      have hD : va_D A (WR a k h0 (fT (fT (fT vi 5 (nI (cc + 1))) 6 (nI ((2 * k5 + hq) + 1))) 7 0) vj (fT (fT (fT (fT (fT (fT (fT (fT vF 74 f74x) 0 gJ) 4 f456) 6 f656) 2 f2J) 3 f3J) 5 (upd f53 (nI (2 * k5 + hq)).toNatClampNeg (nI ((cc + 1) + (2 * k5 + hq))))) 0 g205) (fT vG 1 gsJ)) := hB9.2.weaken (fun _ q _ h => hFc q.1 h)
                      have e9 : fT (fT (fT (fT (fT (fT (fT vF 74 f74x) 0 g205) 4 f456) 6 f656) 2 f2J) 3 f3J) 5 (upd f53 (nI (2 * k5 + hq)).toNatClampNeg (nI ((cc + 1) + (2 * k5 + hq)))) = fT (fT (fT (fT (fT (fT (fT (fT vF 74 f74x) 0 gJ) 4 f456) 6 f656) 2 f2J) 3 f3J) 5 (upd f53 (nI (2 * k5 + hq)).toNatClampNeg (nI ((cc + 1) + (2 * k5 + hq))))) 0 g205 := ((fT_sw _ _ _ (Nat.ne_of_beq_eq_false rfl)).trans (congrArg (fun g9 => fT g9 5 (upd f53 (nI (2 * k5 + hq)).toNatClampNeg (nI ((cc + 1) + (2 * k5 + hq))))) ((fT_sw _ _ _ (Nat.ne_of_beq_eq_false rfl)).trans (congrArg (fun g9 => fT g9 3 f3J) ((fT_sw _ _ _ (Nat.ne_of_beq_eq_false rfl)).trans (congrArg (fun g9 => fT g9 2 f2J) ((fT_sw _ _ _ (Nat.ne_of_beq_eq_false rfl)).trans (congrArg (fun g9 => fT g9 6 f656) ((fT_sw _ _ _ (Nat.ne_of_beq_eq_false rfl)).trans (congrArg (fun g9 => fT g9 4 f456) (fT_sm _ _ _ _))))))))))).symm
                      rw [← e9] at hP hD
                      clear e9
                      have hP : va_P (dC, dI) vwCl (WR a k h0 (fT (fT (fT vi 5 (nI (cc + 1))) 6 (nI ((2 * k5 + hq) + 1))) 7 0) vj (fT (fT (fT (fT (fT (fT (fT vF 74 f74x) 0 g205) 4 f456) 6 f656) 2 f2J) 3 f3J) 5 (upd f53 (nI (2 * k5 + hq)).toNatClampNeg (nI ((cc + 1) + (2 * k5 + hq))))) (fT vG 1 gsJ)) H := hP
                      have hD : va_D A (WR a k h0 (fT (fT (fT vi 5 (nI (cc + 1))) 6 (nI ((2 * k5 + hq) + 1))) 7 0) vj (fT (fT (fT (fT (fT (fT (fT vF 74 f74x) 0 g205) 4 f456) 6 f656) 2 f2J) 3 f3J) 5 (upd f53 (nI (2 * k5 + hq)).toNatClampNeg (nI ((cc + 1) + (2 * k5 + hq))))) (fT vG 1 gsJ)) := hD
                      have f205_0 := hw9
                      try dsimp only at f205_0
                      refine lv_iload_n hx hb dX12_addsUp_208 rfl (lv_at hl 2 rfl) ?_
                      refine lv_aload_n hx hb dX12_addsUp_209 rfl (lv_at hl 0 rfl) ?_
                      refine va_get (D := (dC, dI)) (ci := 12) (v := .int (vi 118)) (C := RX12) (T := TX12) (N := 163) (fs := fM (vS a (fT (fT (fT vi 5 (nI (cc + 1))) 6 (nI ((2 * k5 + hq) + 1))) 7 0) vj)) hx hb hts iwsRX12_addsUp_in12 hown hK hP 0 rfl rfl 118 (by decide) (hts (.fieldLink RX12 903 "OptimaWorksModel" "isShort" "Z") (by decide +kernel)) (fun _ h9 => h9) rfl dX12_addsUp_210 ?_
                      refine W.cut (pc := 237) (fun H locs ls stk => ∃ (s9 : Int32),  stk = [.int s9, .int hw] ∧ va_P (dC, dI) vwCl (WR a k h0 (fT (fT (fT vi 5 (nI (cc + 1))) 6 (nI ((2 * k5 + hq) + 1))) 7 0) vj (fT (fT (fT (fT (fT (fT (fT vF 74 f74x) 0 g205) 4 f456) 6 f656) 2 f2J) 3 f3J) 5 (upd f53 (nI (2 * k5 + hq)).toNatClampNeg (nI ((cc + 1) + (2 * k5 + hq))))) (fT vG 1 gsJ)) H ∧ va_D A (WR a k h0 (fT (fT (fT vi 5 (nI (cc + 1))) 6 (nI ((2 * k5 + hq) + 1))) 7 0) vj (fT (fT (fT (fT (fT (fT (fT vF 74 f74x) 0 g205) 4 f456) 6 f656) 2 f2J) 3 f3J) 5 (upd f53 (nI (2 * k5 + hq)).toNatClampNeg (nI ((cc + 1) + (2 * k5 + hq))))) (fT vG 1 gsJ)) ∧ va_S A s.heap H locs ∧ lv_has ls 6 [(0, .ref h0), (2, .int (nI k5)), (3, .int hw), (4, .int (nI (2 * k5 + hq)))]) (fun join5 => ?_) ?_
                      · refine lv_if_ne (tgt := 232) hx hb dX12_addsUp_213 (by decide) (fun c_213 => ?_) (fun c_213 => ?_)
                        · have t_213 : ((vi 118)).toInt ≠ 0 := toI_ne c_213 rfl (by decide)
                          refine lv_iconst (v := 1) hx hb dX12_addsUp_232 (by decide) ?_
                          refine lv_goto (tgt := 237) hx hb dX12_addsUp_233 (by decide) ?_
                          have hl : lv_has _ _ ([(0, .ref h0), (2, .int (nI k5)), (3, .int hw), (4, .int (nI (2 * k5 + hq)))]) := lv_sub hl [0, 1, 2, 3] rfl
                          exact join5 _ _ _ _ ⟨1, rfl, hP, hD, hS, hl⟩
                        · have t_213 : ((vi 118)).toInt = 0 := toI_nne c_213 rfl (by decide)
                          refine lv_aload_n hx hb dX12_addsUp_216 rfl (lv_at hl 0 rfl) ?_
                          refine va_get (D := (dC, dI)) (ci := 12) (v := .int (vi 93)) (C := RX12) (T := TX12) (N := 163) (fs := fM (vS a (fT (fT (fT vi 5 (nI (cc + 1))) 6 (nI ((2 * k5 + hq) + 1))) 7 0) vj)) hx hb hts iwsRX12_addsUp_in12 hown hK hP 0 rfl rfl 93 (by decide) (hts (.fieldLink RX12 805 "OptimaWorksModel" "modelGoals" "I") (by decide +kernel)) (fun _ h9 => h9) rfl dX12_addsUp_217 ?_
                          refine lv_topi (fun y15 hy15 => ?_)
                          obtain rfl : (nI gq) = y15 := (hy15.trans (hmg)).symm
                          refine lv_if_eq (tgt := 232) hx hb dX12_addsUp_220 (by decide) (fun c_220 => ?_) (fun c_220 => ?_)
                          · have t_220 : ((gq : Nat) : Int) = 0 := toI_eq c_220 (nI_toInt (by omega)) (by decide)
                            refine lv_iconst (v := 1) hx hb dX12_addsUp_232 (by decide) ?_
                            refine lv_goto (tgt := 237) hx hb dX12_addsUp_233 (by decide) ?_
                            have hl : lv_has _ _ ([(0, .ref h0), (2, .int (nI k5)), (3, .int hw), (4, .int (nI (2 * k5 + hq)))]) := lv_sub hl [0, 1, 2, 3] rfl
                            exact join5 _ _ _ _ ⟨1, rfl, hP, hD, hS, hl⟩
                          · have t_220 : ¬ ((gq : Nat) : Int) = 0 := toI_neq c_220 (nI_toInt (by omega)) (by decide)
                            refine lv_aload_n hx hb dX12_addsUp_223 rfl (lv_at hl 0 rfl) ?_
                            refine va_get (D := (dC, dI)) (ci := 12) (v := .ref (a 65)) (C := RX12) (T := TX12) (N := 163) (fs := fM (vS a (fT (fT (fT vi 5 (nI (cc + 1))) 6 (nI ((2 * k5 + hq) + 1))) 7 0) vj)) hx hb hts iwsRX12_addsUp_in12 hown hK hP 0 rfl rfl 105 (by decide) (hts (.fieldLink RX12 218 "OptimaWorksModel" "goalMax" "[I") (by decide +kernel)) (fun _ h9 => h9) rfl dX12_addsUp_224 ?_
                            refine lv_iconst (v := 0) hx hb dX12_addsUp_227 (by decide) ?_
                            refine va_iald (cA := k 65) (n := 3) (f := (vF 65)) hx hb hK hP 66 65 (WR_get 65 (by decide)) (TR_get 65 (by decide)) (show ¬ ((0 : Int32) < 0 ∨ 3 ≤ (0 : Int32).toNatClampNeg) by decide) dX12_addsUp_228 ?_
                            refine lv_topi (fun y16 hy16 => ?_)
                            obtain rfl : ((vF 65) 0) = y16 := (hy16.trans (rfl)).symm
                            refine lv_if_ne (tgt := 236) hx hb dX12_addsUp_229 (by decide) (fun c_229 => ?_) (fun c_229 => ?_)
                            · have t_229 : (((vF 65) 0)).toInt ≠ 0 := toI_ne c_229 rfl (by decide)
                              refine lv_iconst (v := (-1)) hx hb dX12_addsUp_236 (by decide) ?_
                              have hl : lv_has _ _ ([(0, .ref h0), (2, .int (nI k5)), (3, .int hw), (4, .int (nI (2 * k5 + hq)))]) := lv_sub hl [0, 1, 2, 3] rfl
                              exact join5 _ _ _ _ ⟨(-1), rfl, hP, hD, hS, hl⟩
                            · have t_229 : (((vF 65) 0)).toInt = 0 := toI_nne c_229 rfl (by decide)
                              refine lv_iconst (v := 1) hx hb dX12_addsUp_232 (by decide) ?_
                              refine lv_goto (tgt := 237) hx hb dX12_addsUp_233 (by decide) ?_
                              have hl : lv_has _ _ ([(0, .ref h0), (2, .int (nI k5)), (3, .int hw), (4, .int (nI (2 * k5 + hq)))]) := lv_sub hl [0, 1, 2, 3] rfl
                              exact join5 _ _ _ _ ⟨1, rfl, hP, hD, hS, hl⟩
                      · rintro H locs ls stk ⟨s9, rfl, hP, hD, hS, hl⟩
                        refine lv_imul hx hb dX12_addsUp_237 ?_
                        refine lv_if_ge (tgt := 255) hx hb dX12_addsUp_238 (by decide) (fun c_238 => ?_) (fun c_238 => ?_)
                        · have t_238 : ((hw * s9)).toInt ≥ 0 := toI_ge c_238 rfl (by decide)
                          have hBl9 : BldP (cc + 1) (2 * k5 + hq + 1) (fT mJ (30 + (2 * k5 + hq) * ((cc + 1) + 1) + (cc + 1)) (mJ 17)) (upd f53 (nI (2 * k5 + hq)).toNatClampNeg (nI (cc + 1 + (2 * k5 + hq)))) (bcl (ncS (ncw (vF 61) (vF 71) (vF 72) (vF 73)) z)) Bs := hBl3.more (fun i2 hi2 => by rw [upd_at (by omega), if_neg (by omega)]) (fun p h1 h2 => by (rw [fT_ne _ _ (by omega)]); rw [hfJ _ (by omega), hfr _ (by omega), f115_2 _ (by omega)]) (by omega) (by rw [upd_at (by omega), if_pos rfl]) (fun j hj => by (rw [fT_ne _ _ (by omega)]); rw [hfJ _ (by omega)]; exact hrw j hj) (by (rw [fT_ne _ _ (by omega)]); rw [hfJ _ (by omega), hfr _ (by omega), f115_1 (cc + 1 - 1) (by omega), if_pos rfl]) (by rw [fT_eq]; exact h17b)
                          have h459 : (fT mJ (30 + (2 * k5 + hq) * ((cc + 1) + 1) + (cc + 1)) (mJ 17)) 1045 = mS 19 := by (rw [fT_ne _ _ (by omega)]); rw [hfJ _ (by omega)]; exact e45
                          have h209 : (fT mJ (30 + (2 * k5 + hq) * ((cc + 1) + 1) + (cc + 1)) (mJ 17)) 20 = 1 := by (rw [fT_ne _ _ (by omega)]); rw [hfJ _ (by omega), hfr _ (by omega), f115_2 _ (by omega)]; exact h203
                          have ho9 : ∀ q, 1000 ≤ q → q ≠ 1045 → (fT mJ (30 + (2 * k5 + hq) * ((cc + 1) + 1) + (cc + 1)) (mJ 17)) q = mg q := fun q h1 h2 => by (rw [fT_ne _ _ (by omega)]); rw [hfJ _ (by omega), hfr _ (by omega), f115_2 _ (by omega)]; exact ho3 q h1 h2
                          refine lv_iinc (v := (hw + (-2))) hx hb dX12_addsUp_255 hl (k := 2) rfl rfl (by decide) rfl (fun ls (hl : lv_has ls _ ([(3, .int (hw + (-2))), (0, .ref h0), (2, .int (nI k5)), (4, .int (nI (2 * k5 + hq)))])) => ?_)
                          refine lv_goto (tgt := 109) hx hb dX12_addsUp_258 (by decide) ?_
                          have e9 : fT (fT (fT vi 5 (nI (cc + 1))) 6 (nI (2 * k5 + (hq + 1)))) 7 0 = fT (fT (fT vi 5 (nI (cc + 1))) 6 (nI ((2 * k5 + hq) + 1))) 7 0 := by funext q9; by_cases h9_5 : q9 = 5; (subst h9_5; exact ((fT_ne _ _ (Nat.ne_of_beq_eq_false rfl)).trans ((fT_ne _ _ (Nat.ne_of_beq_eq_false rfl)).trans (fT_eq _ _ _))).trans (Eq.trans (by first | with_reducible rfl | with_reducible assumption | (symm; with_reducible assumption) | rfl | assumption | (symm; assumption) | (subst_vars; rfl)) ((fT_ne _ _ (Nat.ne_of_beq_eq_false rfl)).trans ((fT_ne _ _ (Nat.ne_of_beq_eq_false rfl)).trans (fT_eq _ _ _))).symm)); by_cases h9_6 : q9 = 6; (subst h9_6; exact ((fT_ne _ _ (Nat.ne_of_beq_eq_false rfl)).trans (fT_eq _ _ _)).trans (Eq.trans (by first | with_reducible rfl | with_reducible assumption | (symm; with_reducible assumption) | rfl | assumption | (symm; assumption) | (subst_vars; rfl)) ((fT_ne _ _ (Nat.ne_of_beq_eq_false rfl)).trans (fT_eq _ _ _)).symm)); by_cases h9_7 : q9 = 7; (subst h9_7; exact (fT_eq _ _ _).trans (Eq.trans (by first | with_reducible rfl | with_reducible assumption | (symm; with_reducible assumption) | rfl | assumption | (symm; assumption) | (subst_vars; rfl)) (fT_eq _ _ _).symm)); exact ((fT_ne _ _ h9_7).trans ((fT_ne _ _ h9_6).trans (fT_ne _ _ h9_5))).trans ((fT_ne _ _ h9_7).trans ((fT_ne _ _ h9_6).trans (fT_ne _ _ h9_5))).symm
                          have hP : va_P (dC, dI) vwCl (WR a k h0 (fT (fT (fT vi 5 (nI (cc + 1))) 6 (nI (2 * k5 + (hq + 1)))) 7 0) vj (fT (fT (fT (fT (fT (fT (fT vF 74 f74x) 0 g205) 4 f456) 6 f656) 2 f2J) 3 f3J) 5 (upd f53 (nI (2 * k5 + hq)).toNatClampNeg (nI ((cc + 1) + (2 * k5 + hq))))) (fT vG 1 gsJ)) H := by rw [e9]; exact hP
                          have hD : va_D A (WR a k h0 (fT (fT (fT vi 5 (nI (cc + 1))) 6 (nI (2 * k5 + (hq + 1)))) 7 0) vj (fT (fT (fT (fT (fT (fT (fT vF 74 f74x) 0 g205) 4 f456) 6 f656) 2 f2J) 3 f3J) 5 (upd f53 (nI (2 * k5 + hq)).toNatClampNeg (nI ((cc + 1) + (2 * k5 + hq))))) (fT vG 1 gsJ)) := by rw [e9]; exact hD
                          clear e9
                          have hl : lv_has _ _ ([(0, .ref h0), (2, .int (nI k5)), (3, .int (hw + (-2)))]) := lv_sub hl [1, 2, 0] rfl
                          exact ih109_5 (hw + (-2)) (hq + 1) g205 f2J f3J (upd f53 (nI (2 * k5 + hq)).toNatClampNeg (nI ((cc + 1) + (2 * k5 + hq)))) gsJ (fT mJ (30 + (2 * k5 + hq) * ((cc + 1) + 1) + (cc + 1)) (mJ 17)) _ _ _ (f205_0) (by rcases hh with ⟨h1, h2⟩ | ⟨h1, h2⟩ | ⟨h1, h2⟩; (exact Or.inr (Or.inl ⟨by omega, by rw [h2]; decide⟩)); (exact Or.inr (Or.inr ⟨by omega, by rw [h2]; decide⟩)); (omega)) (hBl9) (h459) (h209) (ho9) (by omega) hP hD hS hl
                        · have t_238 : ¬ ((hw * s9)).toInt ≥ 0 := toI_nge c_238 rfl (by decide)
                          refine lv_aload_n hx hb dX12_addsUp_241 rfl (lv_at hl 0 rfl) ?_
                          refine lv_aload_n hx hb dX12_addsUp_242 rfl (lv_at hl 0 rfl) ?_
                          refine lv_iload hx hb dX12_addsUp_243 (lv_at hl 3 rfl) ?_
                          refine lv_aload_n hx hb dX12_addsUp_245 rfl (lv_at hl 0 rfl) ?_
                          refine va_get (D := (dC, dI)) (ci := 12) (v := .int (nI (cc + 1))) (C := RX12) (T := TX12) (N := 163) (fs := fM (vS a (fT (fT (fT vi 5 (nI (cc + 1))) 6 (nI ((2 * k5 + hq) + 1))) 7 0) vj)) hx hb hts iwsRX12_addsUp_in12 hown hK hP 0 rfl rfl 5 (by decide) (hts (.fieldLink RX12 396 "OptimaWorksModel" "columns" "I") (by decide +kernel)) (fun _ h9 => h9) rfl dX12_addsUp_246 ?_
                          have hFc := allFree hD hS hA
                          refine va_calli (va_runV (As := [.int (nI (2 * k5 + hq)), .int (nI (cc + 1))]) (rest := [.ref h0]) ⟨hx, hb, hml, hown, hts⟩ (r_X12_at l dC dI a k h0 (fT (fT (fT vi 5 (nI (cc + 1))) 6 (nI ((2 * k5 + hq) + 1))) 7 0) vj (fT (fT (fT (fT (fT (fT (fT vF 74 f74x) 0 g205) 4 f456) 6 f656) 2 f2J) 3 f3J) 5 (upd f53 (nI (2 * k5 + hq)).toNatClampNeg (nI ((cc + 1) + (2 * k5 + hq))))) (fT vG 1 gsJ) (2 * k5 + hq) (cc + 1) (cc + 1) (by first | with_reducible assumption | decide | omega | rfl | assumption) H.size) (cwV 2 hts gwsRX12_addsUp_5 rfl rfl rfl hd_yX12_at_RX12 (by decide +kernel)) (fz_pre (va_recv hK hP (ci := 12) (q0 := 0) rfl rfl) hP hK hD) rfl rfl hl.1 rfl (lv_room (Nat.le_of_ble_eq_true rfl)) dX12_addsUp_249 (by decide +kernel)) hS (fun q _ h => hFc q h) hFc (fun r249 u t9_ H locs ht hvm hw9 hB9 hz1 hk1 hS => ?_)
                          have hP : va_P (dC, dI) vwCl (WR a k h0 (fT (fT (fT vi 5 (nI (cc + 1))) 6 (nI ((2 * k5 + hq) + 1))) 7 0) vj (fT (fT (fT (fT (fT (fT (fT vF 74 f74x) 0 g205) 4 f456) 6 f656) 2 f2J) 3 f3J) 5 (upd f53 (nI (2 * k5 + hq)).toNatClampNeg (nI ((cc + 1) + (2 * k5 + hq))))) (fT vG 1 gsJ)) H := fz_P ht hB9.1
                          have hD : va_D A (WR a k h0 (fT (fT (fT vi 5 (nI (cc + 1))) 6 (nI ((2 * k5 + hq) + 1))) 7 0) vj (fT (fT (fT (fT (fT (fT (fT vF 74 f74x) 0 g205) 4 f456) 6 f656) 2 f2J) 3 f3J) 5 (upd f53 (nI (2 * k5 + hq)).toNatClampNeg (nI ((cc + 1) + (2 * k5 + hq))))) (fT vG 1 gsJ)) := hB9.2.weaken (fun _ q _ h => hFc q.1 h)
                          obtain rfl := hw9
                          have hFc := allFree hD hS hA
                          refine va_callv (va_runV (As := [.int (nI (30 + (2 * k5 + hq) * ((cc + 1) + 1) + (cc + 1)))]) (rest := []) ⟨hx, hb, hml, hown, hts⟩ (b_X12_turn l dC dI a k h0 (fT (fT (fT vi 5 (nI (cc + 1))) 6 (nI ((2 * k5 + hq) + 1))) 7 0) vj (fT (fT (fT (fT (fT (fT (fT vF 74 f74x) 0 g205) 4 f456) 6 f656) 2 f2J) 3 f3J) 5 (upd f53 (nI (2 * k5 + hq)).toNatClampNeg (nI ((cc + 1) + (2 * k5 + hq))))) (fT vG 1 gsJ) (30 + (2 * k5 + hq) * ((cc + 1) + 1) + (cc + 1)) (fT mJ (30 + (2 * k5 + hq) * ((cc + 1) + 1) + (cc + 1)) (mJ 17)) f205_0 (mJ 17) (by rw [fT_eq]) (by first | with_reducible assumption | decide | omega | rfl | assumption) H.size) (cwV 1 hts gwsRX12_addsUp_15 rfl rfl rfl hd_yX12_turn_RX12 (by decide +kernel)) (fz_pre (va_recv hK hP (ci := 12) (q0 := 0) rfl rfl) hP hK hD) rfl rfl hl.1 rfl (lv_room (Nat.le_of_ble_eq_true rfl)) dX12_addsUp_252 (by decide +kernel)) hS (fun q _ h => hFc q h) hFc (fun u t9_ H locs ht hvm hw9 hB9 hz1 hk1 hS => ?_)
                          have hP : va_P (dC, dI) vwCl (WR a k h0 (fT (fT (fT vi 5 (nI (cc + 1))) 6 (nI ((2 * k5 + hq) + 1))) 7 0) vj (fT (fT (fT (fT (fT (fT (fT (fT vF 74 f74x) 0 g205) 4 f456) 6 f656) 2 f2J) 3 f3J) 5 (upd f53 (nI (2 * k5 + hq)).toNatClampNeg (nI ((cc + 1) + (2 * k5 + hq))))) 0 (upd g205 (nI (24 * (30 + (2 * k5 + hq) * ((cc + 1) + 1) + (cc + 1)))).toNatClampNeg (-(g205 (24 * (30 + (2 * k5 + hq) * ((cc + 1) + 1) + (cc + 1))))))) (fT vG 1 gsJ)) H := fz_P ht hB9.1
                          have hD : va_D A (WR a k h0 (fT (fT (fT vi 5 (nI (cc + 1))) 6 (nI ((2 * k5 + hq) + 1))) 7 0) vj (fT (fT (fT (fT (fT (fT (fT (fT vF 74 f74x) 0 g205) 4 f456) 6 f656) 2 f2J) 3 f3J) 5 (upd f53 (nI (2 * k5 + hq)).toNatClampNeg (nI ((cc + 1) + (2 * k5 + hq))))) 0 (upd g205 (nI (24 * (30 + (2 * k5 + hq) * ((cc + 1) + 1) + (cc + 1)))).toNatClampNeg (-(g205 (24 * (30 + (2 * k5 + hq) * ((cc + 1) + 1) + (cc + 1))))))) (fT vG 1 gsJ)) := hB9.2.weaken (fun _ q _ h => hFc q.1 h)
                          have e9 : fT (fT (fT (fT (fT (fT (fT vF 74 f74x) 0 (upd g205 (nI (24 * (30 + (2 * k5 + hq) * ((cc + 1) + 1) + (cc + 1)))).toNatClampNeg (-(g205 (24 * (30 + (2 * k5 + hq) * ((cc + 1) + 1) + (cc + 1))))))) 4 f456) 6 f656) 2 f2J) 3 f3J) 5 (upd f53 (nI (2 * k5 + hq)).toNatClampNeg (nI ((cc + 1) + (2 * k5 + hq)))) = fT (fT (fT (fT (fT (fT (fT (fT vF 74 f74x) 0 g205) 4 f456) 6 f656) 2 f2J) 3 f3J) 5 (upd f53 (nI (2 * k5 + hq)).toNatClampNeg (nI ((cc + 1) + (2 * k5 + hq))))) 0 (upd g205 (nI (24 * (30 + (2 * k5 + hq) * ((cc + 1) + 1) + (cc + 1)))).toNatClampNeg (-(g205 (24 * (30 + (2 * k5 + hq) * ((cc + 1) + 1) + (cc + 1)))))) := ((fT_sw _ _ _ (Nat.ne_of_beq_eq_false rfl)).trans (congrArg (fun g9 => fT g9 5 (upd f53 (nI (2 * k5 + hq)).toNatClampNeg (nI ((cc + 1) + (2 * k5 + hq))))) ((fT_sw _ _ _ (Nat.ne_of_beq_eq_false rfl)).trans (congrArg (fun g9 => fT g9 3 f3J) ((fT_sw _ _ _ (Nat.ne_of_beq_eq_false rfl)).trans (congrArg (fun g9 => fT g9 2 f2J) ((fT_sw _ _ _ (Nat.ne_of_beq_eq_false rfl)).trans (congrArg (fun g9 => fT g9 6 f656) ((fT_sw _ _ _ (Nat.ne_of_beq_eq_false rfl)).trans (congrArg (fun g9 => fT g9 4 f456) (fT_sm _ _ _ _))))))))))).symm
                          rw [← e9] at hP hD
                          clear e9
                          have hP : va_P (dC, dI) vwCl (WR a k h0 (fT (fT (fT vi 5 (nI (cc + 1))) 6 (nI ((2 * k5 + hq) + 1))) 7 0) vj (fT (fT (fT (fT (fT (fT (fT vF 74 f74x) 0 (upd g205 (nI (24 * (30 + (2 * k5 + hq) * ((cc + 1) + 1) + (cc + 1)))).toNatClampNeg (-(g205 (24 * (30 + (2 * k5 + hq) * ((cc + 1) + 1) + (cc + 1))))))) 4 f456) 6 f656) 2 f2J) 3 f3J) 5 (upd f53 (nI (2 * k5 + hq)).toNatClampNeg (nI ((cc + 1) + (2 * k5 + hq))))) (fT vG 1 gsJ)) H := hP
                          have hD : va_D A (WR a k h0 (fT (fT (fT vi 5 (nI (cc + 1))) 6 (nI ((2 * k5 + hq) + 1))) 7 0) vj (fT (fT (fT (fT (fT (fT (fT vF 74 f74x) 0 (upd g205 (nI (24 * (30 + (2 * k5 + hq) * ((cc + 1) + 1) + (cc + 1)))).toNatClampNeg (-(g205 (24 * (30 + (2 * k5 + hq) * ((cc + 1) + 1) + (cc + 1))))))) 4 f456) 6 f656) 2 f2J) 3 f3J) 5 (upd f53 (nI (2 * k5 + hq)).toNatClampNeg (nI ((cc + 1) + (2 * k5 + hq))))) (fT vG 1 gsJ)) := hD
                          have f252_0 := hw9
                          try dsimp only at f252_0
                          have f252_0 : Bg (upd g205 (nI (24 * (30 + (2 * k5 + hq) * ((cc + 1) + 1) + (cc + 1)))).toNatClampNeg (-(g205 (24 * (30 + (2 * k5 + hq) * ((cc + 1) + 1) + (cc + 1)))))) (fT (fT mJ (30 + (2 * k5 + hq) * ((cc + 1) + 1) + (cc + 1)) (mJ 17)) (30 + (2 * k5 + hq) * ((cc + 1) + 1) + (cc + 1)) (-(mJ 17))) := f252_0
                          have hBl9 : BldP (cc + 1) (2 * k5 + hq + 1) (fT (fT mJ (30 + (2 * k5 + hq) * ((cc + 1) + 1) + (cc + 1)) (mJ 17)) (30 + (2 * k5 + hq) * ((cc + 1) + 1) + (cc + 1)) (-(mJ 17))) (upd f53 (nI (2 * k5 + hq)).toNatClampNeg (nI (cc + 1 + (2 * k5 + hq)))) (bcl (ncS (ncw (vF 61) (vF 71) (vF 72) (vF 73)) z)) Bs := hBl3.more (fun i2 hi2 => by rw [upd_at (by omega), if_neg (by omega)]) (fun p h1 h2 => by (rw [fT_ne _ _ (by omega), fT_ne _ _ (by omega)]); rw [hfJ _ (by omega), hfr _ (by omega), f115_2 _ (by omega)]) (by omega) (by rw [upd_at (by omega), if_pos rfl]) (fun j hj => by (rw [fT_ne _ _ (by omega), fT_ne _ _ (by omega)]); rw [hfJ _ (by omega)]; exact hrw j hj) (by (rw [fT_ne _ _ (by omega), fT_ne _ _ (by omega)]); rw [hfJ _ (by omega), hfr _ (by omega), f115_1 (cc + 1 - 1) (by omega), if_pos rfl]) (by rw [fT_eq]; rw [Int.natAbs_neg]; exact h17b)
                          have h459 : (fT (fT mJ (30 + (2 * k5 + hq) * ((cc + 1) + 1) + (cc + 1)) (mJ 17)) (30 + (2 * k5 + hq) * ((cc + 1) + 1) + (cc + 1)) (-(mJ 17))) 1045 = mS 19 := by (rw [fT_ne _ _ (by omega), fT_ne _ _ (by omega)]); rw [hfJ _ (by omega)]; exact e45
                          have h209 : (fT (fT mJ (30 + (2 * k5 + hq) * ((cc + 1) + 1) + (cc + 1)) (mJ 17)) (30 + (2 * k5 + hq) * ((cc + 1) + 1) + (cc + 1)) (-(mJ 17))) 20 = 1 := by (rw [fT_ne _ _ (by omega), fT_ne _ _ (by omega)]); rw [hfJ _ (by omega), hfr _ (by omega), f115_2 _ (by omega)]; exact h203
                          have ho9 : ∀ q, 1000 ≤ q → q ≠ 1045 → (fT (fT mJ (30 + (2 * k5 + hq) * ((cc + 1) + 1) + (cc + 1)) (mJ 17)) (30 + (2 * k5 + hq) * ((cc + 1) + 1) + (cc + 1)) (-(mJ 17))) q = mg q := fun q h1 h2 => by (rw [fT_ne _ _ (by omega), fT_ne _ _ (by omega)]); rw [hfJ _ (by omega), hfr _ (by omega), f115_2 _ (by omega)]; exact ho3 q h1 h2
                          refine lv_iinc (v := (hw + (-2))) hx hb dX12_addsUp_255 hl (k := 2) rfl rfl (by decide) rfl (fun ls (hl : lv_has ls _ ([(3, .int (hw + (-2))), (0, .ref h0), (2, .int (nI k5)), (4, .int (nI (2 * k5 + hq)))])) => ?_)
                          refine lv_goto (tgt := 109) hx hb dX12_addsUp_258 (by decide) ?_
                          have e9 : fT (fT (fT vi 5 (nI (cc + 1))) 6 (nI (2 * k5 + (hq + 1)))) 7 0 = fT (fT (fT vi 5 (nI (cc + 1))) 6 (nI ((2 * k5 + hq) + 1))) 7 0 := by funext q9; by_cases h9_5 : q9 = 5; (subst h9_5; exact ((fT_ne _ _ (Nat.ne_of_beq_eq_false rfl)).trans ((fT_ne _ _ (Nat.ne_of_beq_eq_false rfl)).trans (fT_eq _ _ _))).trans (Eq.trans (by first | with_reducible rfl | with_reducible assumption | (symm; with_reducible assumption) | rfl | assumption | (symm; assumption) | (subst_vars; rfl)) ((fT_ne _ _ (Nat.ne_of_beq_eq_false rfl)).trans ((fT_ne _ _ (Nat.ne_of_beq_eq_false rfl)).trans (fT_eq _ _ _))).symm)); by_cases h9_6 : q9 = 6; (subst h9_6; exact ((fT_ne _ _ (Nat.ne_of_beq_eq_false rfl)).trans (fT_eq _ _ _)).trans (Eq.trans (by first | with_reducible rfl | with_reducible assumption | (symm; with_reducible assumption) | rfl | assumption | (symm; assumption) | (subst_vars; rfl)) ((fT_ne _ _ (Nat.ne_of_beq_eq_false rfl)).trans (fT_eq _ _ _)).symm)); by_cases h9_7 : q9 = 7; (subst h9_7; exact (fT_eq _ _ _).trans (Eq.trans (by first | with_reducible rfl | with_reducible assumption | (symm; with_reducible assumption) | rfl | assumption | (symm; assumption) | (subst_vars; rfl)) (fT_eq _ _ _).symm)); exact ((fT_ne _ _ h9_7).trans ((fT_ne _ _ h9_6).trans (fT_ne _ _ h9_5))).trans ((fT_ne _ _ h9_7).trans ((fT_ne _ _ h9_6).trans (fT_ne _ _ h9_5))).symm
                          have hP : va_P (dC, dI) vwCl (WR a k h0 (fT (fT (fT vi 5 (nI (cc + 1))) 6 (nI (2 * k5 + (hq + 1)))) 7 0) vj (fT (fT (fT (fT (fT (fT (fT vF 74 f74x) 0 (upd g205 (nI (24 * (30 + (2 * k5 + hq) * ((cc + 1) + 1) + (cc + 1)))).toNatClampNeg (-(g205 (24 * (30 + (2 * k5 + hq) * ((cc + 1) + 1) + (cc + 1))))))) 4 f456) 6 f656) 2 f2J) 3 f3J) 5 (upd f53 (nI (2 * k5 + hq)).toNatClampNeg (nI ((cc + 1) + (2 * k5 + hq))))) (fT vG 1 gsJ)) H := by rw [e9]; exact hP
                          have hD : va_D A (WR a k h0 (fT (fT (fT vi 5 (nI (cc + 1))) 6 (nI (2 * k5 + (hq + 1)))) 7 0) vj (fT (fT (fT (fT (fT (fT (fT vF 74 f74x) 0 (upd g205 (nI (24 * (30 + (2 * k5 + hq) * ((cc + 1) + 1) + (cc + 1)))).toNatClampNeg (-(g205 (24 * (30 + (2 * k5 + hq) * ((cc + 1) + 1) + (cc + 1))))))) 4 f456) 6 f656) 2 f2J) 3 f3J) 5 (upd f53 (nI (2 * k5 + hq)).toNatClampNeg (nI ((cc + 1) + (2 * k5 + hq))))) (fT vG 1 gsJ)) := by rw [e9]; exact hD
                          clear e9
                          have hl : lv_has _ _ ([(0, .ref h0), (2, .int (nI k5)), (3, .int (hw + (-2)))]) := lv_sub hl [1, 2, 0] rfl
                          exact ih109_5 (hw + (-2)) (hq + 1) (upd g205 (nI (24 * (30 + (2 * k5 + hq) * ((cc + 1) + 1) + (cc + 1)))).toNatClampNeg (-(g205 (24 * (30 + (2 * k5 + hq) * ((cc + 1) + 1) + (cc + 1)))))) f2J f3J (upd f53 (nI (2 * k5 + hq)).toNatClampNeg (nI ((cc + 1) + (2 * k5 + hq)))) gsJ (fT (fT mJ (30 + (2 * k5 + hq) * ((cc + 1) + 1) + (cc + 1)) (mJ 17)) (30 + (2 * k5 + hq) * ((cc + 1) + 1) + (cc + 1)) (-(mJ 17))) _ _ _ (f252_0) (by rcases hh with ⟨h1, h2⟩ | ⟨h1, h2⟩ | ⟨h1, h2⟩; (exact Or.inr (Or.inl ⟨by omega, by rw [h2]; decide⟩)); (exact Or.inr (Or.inr ⟨by omega, by rw [h2]; decide⟩)); (omega)) (hBl9) (h459) (h209) (ho9) (by omega) hP hD hS hl
                  · have t_129 : ¬ ((i6 : Nat) : Int) ≥ ((nd : Nat) : Int) := toI_nge c_129 (nI_toInt (by omega)) (nI_toInt (by omega))
                    refine lv_aload_n hx hb dX12_addsUp_132 rfl (lv_at hl 0 rfl) ?_
                    refine lv_iload hx hb dX12_addsUp_133 (lv_at hl 3 rfl) ?_
                    refine lv_iload hx hb dX12_addsUp_135 (lv_at hl 4 rfl) ?_
                    refine lv_aload_n hx hb dX12_addsUp_137 rfl (lv_at hl 0 rfl) ?_
                    refine lv_iload hx hb dX12_addsUp_138 (lv_at hl 4 rfl) ?_
                    refine lv_iload_n hx hb dX12_addsUp_140 rfl (lv_at hl 1 rfl) ?_
                    have hFc := allFree hD hS hA
                    refine va_calli (va_runV (As := [.int (nI i6), .int (nI k5)]) (rest := [.int (nI i6), .int (nI (2 * k5 + hq)), .ref h0]) ⟨hx, hb, hml, hown, hts⟩ (r_X12_needNumbera l dC dI a k h0 (fT (fT (fT vi 5 (nI (cc + 1))) 6 (nI ((2 * k5 + hq) + 1))) 7 0) vj (fT (fT (fT (fT (fT (fT (fT vF 74 f74x) 0 g4) 4 f456) 6 f656) 2 f23) 3 f33) 5 (upd f53 (nI (2 * k5 + hq)).toNatClampNeg (nI ((cc + 1) + (2 * k5 + hq))))) (fT vG 1 gs3) i6 vn mr z nd k5 gq (by first | with_reducible assumption | decide | omega | rfl | assumption) (by first | with_reducible assumption | decide | omega | rfl | assumption) (by first | with_reducible assumption | decide | omega | rfl | assumption) (by first | with_reducible assumption | decide | omega | rfl | assumption) (by first | with_reducible assumption | decide | omega | rfl | assumption) (by omega) H.size) (cwV 2 hts gwsRX12_addsUp_16 rfl rfl rfl hd_yX12_needNumber_RX12 (by decide +kernel)) (fz_pre (va_recv hK hP (ci := 12) (q0 := 0) rfl rfl) hP hK hD) rfl rfl hl.1 rfl (lv_room (Nat.le_of_ble_eq_true rfl)) dX12_addsUp_141 (by decide +kernel)) hS (fun q _ h => hFc q h) hFc (fun r141 u t9_ H locs ht hvm hw9 hB9 hz1 hk1 hS => ?_)
                    have hP : va_P (dC, dI) vwCl (WR a k h0 (fT (fT (fT vi 5 (nI (cc + 1))) 6 (nI ((2 * k5 + hq) + 1))) 7 0) vj (fT (fT (fT (fT (fT (fT (fT vF 74 f74x) 0 g4) 4 f456) 6 f656) 2 f23) 3 f33) 5 (upd f53 (nI (2 * k5 + hq)).toNatClampNeg (nI ((cc + 1) + (2 * k5 + hq))))) (fT vG 1 gs3)) H := fz_P ht hB9.1
                    have hD : va_D A (WR a k h0 (fT (fT (fT vi 5 (nI (cc + 1))) 6 (nI ((2 * k5 + hq) + 1))) 7 0) vj (fT (fT (fT (fT (fT (fT (fT vF 74 f74x) 0 g4) 4 f456) 6 f656) 2 f23) 3 f33) 5 (upd f53 (nI (2 * k5 + hq)).toNatClampNeg (nI ((cc + 1) + (2 * k5 + hq))))) (fT vG 1 gs3)) := hB9.2.weaken (fun _ q _ h => hFc q.1 h)
                    have f141_0 := hw9
                    try dsimp only at f141_0
                    have f141_0 : ((vF 71) i6 = 0 ∧ (r141).toInt.natAbs ≤ 99) ∨ (¬ (vF 71) i6 = 0 ∧ (r141).toInt.natAbs ≤ 1) := f141_0
                    refine lv_iload_n hx hb dX12_addsUp_144 rfl (lv_at hl 2 rfl) ?_
                    have hFc := allFree hD hS hA
                    refine va_callv (va_runV (As := [.int (nI (2 * k5 + hq)), .int (nI i6), .int r141, .int hw]) (rest := []) ⟨hx, hb, hml, hown, hts⟩ (r_X12_spread l dC dI a k h0 (fT (fT (fT vi 5 (nI (cc + 1))) 6 (nI ((2 * k5 + hq) + 1))) 7 0) vj (fT (fT (fT (fT (fT (fT (fT vF 74 f74x) 0 g4) 4 f456) 6 f656) 2 f23) 3 f33) 5 (upd f53 (nI (2 * k5 + hq)).toNatClampNeg (nI ((cc + 1) + (2 * k5 + hq))))) (fT vG 1 gs3) (2 * k5 + hq) r141 hw hI (cc + 1) (bcl (ncS (ncw (vF 61) (vF 71) (vF 72) (vF 73)) z)) i6 vn mr z nd m4 hB4 (by first | with_reducible assumption | decide | omega | rfl | assumption) (by first | with_reducible assumption | decide | omega | rfl | assumption) (by first | with_reducible assumption | decide | omega | rfl | assumption) (by first | with_reducible assumption | decide | omega | rfl | assumption) (by first | with_reducible assumption | decide | omega | rfl | assumption) (by first | with_reducible assumption | decide | omega | rfl | assumption) (by first | with_reducible assumption | decide | omega | rfl | assumption) (h74 _ (by omega)) (hin i6 (by omega)) (hhI) (by first | with_reducible assumption | decide | omega | rfl | assumption) (by rcases f141_0 with h9 | h9 <;> omega) (hN.cap (by omega) f141_0) (hrw) H.size) (cwV 4 hts gwsRX12_addsUp_13 rfl rfl rfl hd_yX12_spread_RX12 (by decide +kernel)) (fz_pre (va_recv hK hP (ci := 12) (q0 := 0) rfl rfl) hP hK hD) rfl rfl hl.1 rfl (lv_room (Nat.le_of_ble_eq_true rfl)) dX12_addsUp_145 (by decide +kernel)) hS (fun q _ h => hFc q h) hFc (fun u t9_ H locs ht hvm hw9 hB9 hz1 hk1 hS => ?_)
                    revert u
                    refine fz_p2 ?_
                    intro g145 m2145 hw9 hB9
                    try dsimp only at hw9 hB9
                    have hP : va_P (dC, dI) vwCl (WR a k h0 (fT (fT (fT vi 5 (nI (cc + 1))) 6 (nI ((2 * k5 + hq) + 1))) 7 0) vj (fT (fT (fT (fT (fT (fT (fT (fT vF 74 f74x) 0 g4) 4 f456) 6 f656) 2 f23) 3 f33) 5 (upd f53 (nI (2 * k5 + hq)).toNatClampNeg (nI ((cc + 1) + (2 * k5 + hq))))) 0 g145) (fT vG 1 gs3)) H := fz_P ht hB9.1
                    have hD : va_D A (WR a k h0 (fT (fT (fT vi 5 (nI (cc + 1))) 6 (nI ((2 * k5 + hq) + 1))) 7 0) vj (fT (fT (fT (fT (fT (fT (fT (fT vF 74 f74x) 0 g4) 4 f456) 6 f656) 2 f23) 3 f33) 5 (upd f53 (nI (2 * k5 + hq)).toNatClampNeg (nI ((cc + 1) + (2 * k5 + hq))))) 0 g145) (fT vG 1 gs3)) := hB9.2.weaken (fun _ q _ h => hFc q.1 h)
                    have e9 : fT (fT (fT (fT (fT (fT (fT vF 74 f74x) 0 g145) 4 f456) 6 f656) 2 f23) 3 f33) 5 (upd f53 (nI (2 * k5 + hq)).toNatClampNeg (nI ((cc + 1) + (2 * k5 + hq)))) = fT (fT (fT (fT (fT (fT (fT (fT vF 74 f74x) 0 g4) 4 f456) 6 f656) 2 f23) 3 f33) 5 (upd f53 (nI (2 * k5 + hq)).toNatClampNeg (nI ((cc + 1) + (2 * k5 + hq))))) 0 g145 := ((fT_sw _ _ _ (Nat.ne_of_beq_eq_false rfl)).trans (congrArg (fun g9 => fT g9 5 (upd f53 (nI (2 * k5 + hq)).toNatClampNeg (nI ((cc + 1) + (2 * k5 + hq))))) ((fT_sw _ _ _ (Nat.ne_of_beq_eq_false rfl)).trans (congrArg (fun g9 => fT g9 3 f33) ((fT_sw _ _ _ (Nat.ne_of_beq_eq_false rfl)).trans (congrArg (fun g9 => fT g9 2 f23) ((fT_sw _ _ _ (Nat.ne_of_beq_eq_false rfl)).trans (congrArg (fun g9 => fT g9 6 f656) ((fT_sw _ _ _ (Nat.ne_of_beq_eq_false rfl)).trans (congrArg (fun g9 => fT g9 4 f456) (fT_sm _ _ _ _))))))))))).symm
                    rw [← e9] at hP hD
                    clear e9
                    have hP : va_P (dC, dI) vwCl (WR a k h0 (fT (fT (fT vi 5 (nI (cc + 1))) 6 (nI ((2 * k5 + hq) + 1))) 7 0) vj (fT (fT (fT (fT (fT (fT (fT vF 74 f74x) 0 g145) 4 f456) 6 f656) 2 f23) 3 f33) 5 (upd f53 (nI (2 * k5 + hq)).toNatClampNeg (nI ((cc + 1) + (2 * k5 + hq))))) (fT vG 1 gs3)) H := hP
                    have hD : va_D A (WR a k h0 (fT (fT (fT vi 5 (nI (cc + 1))) 6 (nI ((2 * k5 + hq) + 1))) 7 0) vj (fT (fT (fT (fT (fT (fT (fT vF 74 f74x) 0 g145) 4 f456) 6 f656) 2 f23) 3 f33) 5 (upd f53 (nI (2 * k5 + hq)).toNatClampNeg (nI ((cc + 1) + (2 * k5 + hq))))) (fT vG 1 gs3)) := hD
                    revert hw9
                    refine fz_a3 ?_
                    intro f145_0 f145_1 f145_2
                    refine lv_iinc (v := (nI (i6 + 1))) hx hb dX12_addsUp_148 hl (k := 4) rfl (nI_add i6 1) (by decide) rfl (fun ls (hl : lv_has ls _ ([(5, .int (nI (i6 + 1))), (0, .ref h0), (2, .int (nI k5)), (3, .int hw), (4, .int (nI (2 * k5 + hq)))])) => ?_)
                    refine lv_goto (tgt := 123) hx hb dX12_addsUp_151 (by decide) ?_
                    have hl : lv_has _ _ ([(0, .ref h0), (2, .int (nI k5)), (3, .int hw), (4, .int (nI (2 * k5 + hq))), (5, .int (nI (i6 + 1)))]) := lv_sub hl [1, 2, 3, 4, 0] rfl
                    exact ih123_6 (i6 + 1) g145 m2145 _ _ _ (f145_0) (by omega) (f145_1) (fun q hq => by (rw [f145_2 _ (by omega)]); exact hfr q hq) (by omega) hP hD hS hl
    · have t_9 : ¬ ((i5 : Nat) : Int) ≥ ((nd : Nat) : Int) := toI_nge c_9 (nI_toInt (by omega)) (nI_toInt (by omega))
      refine lv_aload_n hx hb dX12_addsUp_12 rfl (lv_at hl 0 rfl) ?_
      refine va_get (D := (dC, dI)) (ci := 12) (v := .ref (a 74)) (C := RX12) (T := TX12) (N := 163) (fs := fM (vS a vi vj)) hx hb hts iwsRX12_addsUp_in12 hown hK hP 0 rfl rfl 123 (by decide) (hts (.fieldLink RX12 245 "OptimaWorksModel" "needColumn" "[I") (by decide +kernel)) (fun _ h9 => h9) rfl dX12_addsUp_13 ?_
      refine lv_iload_n hx hb dX12_addsUp_16 rfl (lv_at hl 2 rfl) ?_
      refine lv_iload_n hx hb dX12_addsUp_17 rfl (lv_at hl 1 rfl) ?_
      refine va_iast (cA := k 74) (n := 28) (f := f74x) hx hb hK hP hD hS 75 74 (WR_get 74 (by decide)) (TR_get 74 (by decide)) (vp_in_nI (show i5 < 28 by omega) (by omega)) dX12_addsUp_18 (fun H locs hP hD hS => ?_)
      have e9 : fT vF 74 (upd f74x ((nI i5)).toNatClampNeg (nI cc)) = fT (fT vF 74 f74x) 74 (upd f74x ((nI i5)).toNatClampNeg (nI cc)) := (fT_sm _ _ _ _).symm
      have hP : va_P (dC, dI) vwCl (WR a k h0 vi vj (fT vF 74 (upd f74x ((nI i5)).toNatClampNeg (nI cc))) vG) H := by rw [e9, ← WR_F 74 (by decide) _ rfl]; exact hP
      have hD : va_D A (WR a k h0 vi vj (fT vF 74 (upd f74x ((nI i5)).toNatClampNeg (nI cc))) vG) := by rw [e9, ← WR_F 74 (by decide) _ rfl]; exact hD
      clear e9
      refine lv_iload_n hx hb dX12_addsUp_19 rfl (lv_at hl 1 rfl) ?_
      refine lv_aload_n hx hb dX12_addsUp_20 rfl (lv_at hl 0 rfl) ?_
      refine va_get (D := (dC, dI)) (ci := 12) (v := .ref (a 73)) (C := RX12) (T := TX12) (N := 163) (fs := fM (vS a vi vj)) hx hb hts iwsRX12_addsUp_in12 hown hK hP 0 rfl rfl 122 (by decide) (hts (.fieldLink RX12 242 "OptimaWorksModel" "needKept" "[I") (by decide +kernel)) (fun _ h9 => h9) rfl dX12_addsUp_21 ?_
      refine lv_iload_n hx hb dX12_addsUp_24 rfl (lv_at hl 2 rfl) ?_
      refine va_iald (cA := k 73) (n := 28) (f := (vF 73)) hx hb hK hP 74 73 (WR_get 73 (by decide)) (TR_get 73 (by decide)) (vp_in_nI (show i5 < 28 by omega) (by omega)) dX12_addsUp_25 ?_
      refine lv_topi (fun y17 hy17 => ?_)
      obtain rfl : ((vF 73) i5) = y17 := (hy17.trans (by rw [nI_clamp (by omega)])).symm
      refine W.cut (pc := 46) (fun H locs ls stk => ∃ (b9 : Nat), (b9 = (ncw (vF 61) (vF 71) (vF 72) (vF 73)) i5) ∧  stk = [.int (nI b9), .int (nI cc)] ∧ va_P (dC, dI) vwCl (WR a k h0 vi vj (fT vF 74 (upd f74x ((nI i5)).toNatClampNeg (nI cc))) vG) H ∧ va_D A (WR a k h0 vi vj (fT vF 74 (upd f74x ((nI i5)).toNatClampNeg (nI cc))) vG) ∧ va_S A s.heap H locs ∧ lv_has ls 6 [(0, .ref h0), (1, .int (nI cc)), (2, .int (nI i5))]) (fun join6 => ?_) ?_
      · refine lv_if_ne (tgt := 33) hx hb dX12_addsUp_26 (by decide) (fun c_26 => ?_) (fun c_26 => ?_)
        · have t_26 : (((vF 73) i5)).toInt ≠ 0 := toI_ne c_26 rfl (by decide)
          refine lv_aload_n hx hb dX12_addsUp_33 rfl (lv_at hl 0 rfl) ?_
          refine lv_iload_n hx hb dX12_addsUp_34 rfl (lv_at hl 2 rfl) ?_
          have hFc := allFree hD hS hA
          refine va_calli (va_runV (As := [.int (nI i5)]) (rest := [.int (nI cc)]) ⟨hx, hb, hml, hown, hts⟩ (r_X12_isEqual l dC dI a k h0 vi vj (fT vF 74 (upd f74x ((nI i5)).toNatClampNeg (nI cc))) vG i5 vn mr z nd (hN) (by first | with_reducible assumption | decide | omega | rfl | assumption) (by first | with_reducible assumption | decide | omega | rfl | assumption) (by first | with_reducible assumption | decide | omega | rfl | assumption) H.size) (cwV 1 hts gwsRX12_addsUp_6 rfl rfl rfl hd_yX12_isEqual_RX12 (by decide +kernel)) (fz_pre (va_recv hK hP (ci := 12) (q0 := 0) rfl rfl) hP hK hD) rfl rfl hl.1 rfl (lv_room (Nat.le_of_ble_eq_true rfl)) dX12_addsUp_35 (by decide +kernel)) hS (fun q _ h => hFc q h) hFc (fun r35 u t9_ H locs ht hvm hw9 hB9 hz1 hk1 hS => ?_)
          have hP : va_P (dC, dI) vwCl (WR a k h0 vi vj (fT vF 74 (upd f74x ((nI i5)).toNatClampNeg (nI cc))) vG) H := fz_P ht hB9.1
          have hD : va_D A (WR a k h0 vi vj (fT vF 74 (upd f74x ((nI i5)).toNatClampNeg (nI cc))) vG) := hB9.2.weaken (fun _ q _ h => hFc q.1 h)
          rcases hw9 with ⟨rfl, f35_0⟩ | ⟨rfl, f35_0⟩
          · have f35_0 : EqP (vF 61) (vF 71) (vF 72) i5 := f35_0
            refine lv_if_eq (tgt := 45) hx hb dX12_addsUp_38 (by decide) (fun c9 => absurd c9 (by decide)) (fun _ => ?_)
            refine lv_iconst (v := 2) hx hb dX12_addsUp_41 (by decide) ?_
            refine lv_goto (tgt := 46) hx hb dX12_addsUp_42 (by decide) ?_
            have hl : lv_has _ _ ([(0, .ref h0), (1, .int (nI cc)), (2, .int (nI i5))]) := lv_sub hl [0, 1, 2] rfl
            exact join6 _ _ _ _ ⟨2, by unfold ncw; rw [if_neg c_26, if_pos f35_0], rfl, hP, hD, hS, hl⟩
          · have f35_0 : ¬ EqP (vF 61) (vF 71) (vF 72) i5 := f35_0
            refine lv_if_eq (tgt := 45) hx hb dX12_addsUp_38 (by decide) (fun _ => ?_) (fun c9 => absurd (by decide) c9)
            refine lv_iconst (v := 1) hx hb dX12_addsUp_45 (by decide) ?_
            have hl : lv_has _ _ ([(0, .ref h0), (1, .int (nI cc)), (2, .int (nI i5))]) := lv_sub hl [0, 1, 2] rfl
            exact join6 _ _ _ _ ⟨1, by unfold ncw; rw [if_neg c_26, if_neg f35_0], rfl, hP, hD, hS, hl⟩
        · have t_26 : (((vF 73) i5)).toInt = 0 := toI_nne c_26 rfl (by decide)
          refine lv_iconst (v := 0) hx hb dX12_addsUp_29 (by decide) ?_
          refine lv_goto (tgt := 46) hx hb dX12_addsUp_30 (by decide) ?_
          have hl : lv_has _ _ ([(0, .ref h0), (1, .int (nI cc)), (2, .int (nI i5))]) := lv_sub hl [0, 1, 2] rfl
          exact join6 _ _ _ _ ⟨0, by unfold ncw; rw [if_pos c_26], rfl, hP, hD, hS, hl⟩
      · rintro H locs ls stk ⟨b9, hb9, rfl, hP, hD, hS, hl⟩
        refine lv_iadd hx hb dX12_addsUp_46 ?_
        refine lv_topi (fun y18 hy18 => ?_)
        obtain rfl : (nI (cc + b9)) = y18 := (hy18.trans (nI_add cc b9)).symm
        refine lv_istore_n hx hb dX12_addsUp_47 rfl hl (by decide) rfl (fun ls (hl : lv_has ls _ ([(1, .int (nI (cc + b9))), (0, .ref h0), (2, .int (nI i5))])) => ?_)
        refine lv_iinc (v := (nI (i5 + 1))) hx hb dX12_addsUp_48 hl (k := 2) rfl (nI_add i5 1) (by decide) rfl (fun ls (hl : lv_has ls _ ([(2, .int (nI (i5 + 1))), (1, .int (nI (cc + b9))), (0, .ref h0)])) => ?_)
        refine lv_goto (tgt := 4) hx hb dX12_addsUp_51 (by decide) ?_
        have hl : lv_has _ _ ([(0, .ref h0), (1, .int (nI (cc + b9))), (2, .int (nI (i5 + 1)))]) := lv_sub hl [2, 1, 0] rfl
        exact ih4 (i5 + 1) (cc + b9) (upd f74x ((nI i5)).toNatClampNeg (nI cc)) _ _ _ (by omega) (by show cc + b9 = ncS (ncw (vF 61) (vF 71) (vF 72) (vF 73)) i5 + (ncw (vF 61) (vF 71) (vF 72) (vF 73)) i5; rw [hcc, hb9]) (fun q hq => by rw [upd_at (by omega)]; by_cases e9 : q = i5; (rw [if_pos e9, e9, hcc]); (rw [if_neg e9]; exact h74 q (by omega))) (by omega) hP hD hS hl

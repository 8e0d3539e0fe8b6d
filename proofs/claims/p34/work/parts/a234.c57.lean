theorem dX12_workCompare_0 : decode cX12_workCompare 0 = .ok (.aload_n 0, 1) := dk_42 (by decide +kernel)
theorem dX12_workCompare_1 : decode cX12_workCompare 1 = .ok (.getfield 182, 3) := dk_180 (by decide +kernel)
theorem dX12_workCompare_4 : decode cX12_workCompare 4 = .ok (.iload_n 1, 1) := dk_27 (by decide +kernel)
theorem dX12_workCompare_5 : decode cX12_workCompare 5 = .ok (.dup2, 1) := dk_92 (by decide +kernel)
theorem dX12_workCompare_6 : decode cX12_workCompare 6 = .ok (.iaload, 1) := dk_46 (by decide +kernel)
theorem dX12_workCompare_7 : decode cX12_workCompare 7 = .ok (.iconst 1, 1) := dk_4 (by decide +kernel)
theorem dX12_workCompare_8 : decode cX12_workCompare 8 = .ok (.iadd, 1) := dk_96 (by decide +kernel)
theorem dX12_workCompare_9 : decode cX12_workCompare 9 = .ok (.iastore, 1) := dk_79 (by decide +kernel)
theorem dX12_workCompare_10 : decode cX12_workCompare 10 = .ok (.aload_n 0, 1) := dk_42 (by decide +kernel)
theorem dX12_workCompare_11 : decode cX12_workCompare 11 = .ok (.getfield 182, 3) := dk_180 (by decide +kernel)
theorem dX12_workCompare_14 : decode cX12_workCompare 14 = .ok (.iload_n 1, 1) := dk_27 (by decide +kernel)
theorem dX12_workCompare_15 : decode cX12_workCompare 15 = .ok (.iaload, 1) := dk_46 (by decide +kernel)
theorem dX12_workCompare_16 : decode cX12_workCompare 16 = .ok (.iconst 1, 1) := dk_4 (by decide +kernel)
theorem dX12_workCompare_17 : decode cX12_workCompare 17 = .ok (.if_icmp .ne 16, 3) := dk_160 (by decide +kernel)
theorem dX12_workCompare_20 : decode cX12_workCompare 20 = .ok (.aload_n 0, 1) := dk_42 (by decide +kernel)
theorem dX12_workCompare_21 : decode cX12_workCompare 21 = .ok (.aload_n 0, 1) := dk_42 (by decide +kernel)
theorem dX12_workCompare_22 : decode cX12_workCompare 22 = .ok (.getfield 113, 3) := dk_180 (by decide +kernel)
theorem dX12_workCompare_25 : decode cX12_workCompare 25 = .ok (.iload_n 2, 1) := dk_28 (by decide +kernel)
theorem dX12_workCompare_26 : decode cX12_workCompare 26 = .ok (.iaload, 1) := dk_46 (by decide +kernel)
theorem dX12_workCompare_27 : decode cX12_workCompare 27 = .ok (.invokevirtual 650, 3) := dk_182 (by decide +kernel)
theorem dX12_workCompare_30 : decode cX12_workCompare 30 = .ok (.goto 297, 3) := dk_167 (by decide +kernel)
theorem dX12_workCompare_33 : decode cX12_workCompare 33 = .ok (.aload_n 0, 1) := dk_42 (by decide +kernel)
theorem dX12_workCompare_34 : decode cX12_workCompare 34 = .ok (.getfield 182, 3) := dk_180 (by decide +kernel)
theorem dX12_workCompare_37 : decode cX12_workCompare 37 = .ok (.iload_n 1, 1) := dk_27 (by decide +kernel)
theorem dX12_workCompare_38 : decode cX12_workCompare 38 = .ok (.iaload, 1) := dk_46 (by decide +kernel)
theorem dX12_workCompare_39 : decode cX12_workCompare 39 = .ok (.iconst 2, 1) := dk_5 (by decide +kernel)
theorem dX12_workCompare_40 : decode cX12_workCompare 40 = .ok (.if_icmp .ne 44, 3) := dk_160 (by decide +kernel)
theorem dX12_workCompare_43 : decode cX12_workCompare 43 = .ok (.aload_n 0, 1) := dk_42 (by decide +kernel)
theorem dX12_workCompare_44 : decode cX12_workCompare 44 = .ok (.aload_n 0, 1) := dk_42 (by decide +kernel)
theorem dX12_workCompare_45 : decode cX12_workCompare 45 = .ok (.getfield 659, 3) := dk_180 (by decide +kernel)
theorem dX12_workCompare_48 : decode cX12_workCompare 48 = .ok (.iconst 1, 1) := dk_4 (by decide +kernel)
theorem dX12_workCompare_49 : decode cX12_workCompare 49 = .ok (.isub, 1) := dk_100 (by decide +kernel)
theorem dX12_workCompare_50 : decode cX12_workCompare 50 = .ok (.invokevirtual 638, 3) := dk_182 (by decide +kernel)
theorem dX12_workCompare_53 : decode cX12_workCompare 53 = .ok (.ifCond .eq 18, 3) := dk_153 (by decide +kernel)
theorem dX12_workCompare_56 : decode cX12_workCompare 56 = .ok (.aload_n 0, 1) := dk_42 (by decide +kernel)
theorem dX12_workCompare_57 : decode cX12_workCompare 57 = .ok (.bipush 7, 2) := dk_16 (by decide +kernel)
theorem dX12_workCompare_59 : decode cX12_workCompare 59 = .ok (.aload_n 0, 1) := dk_42 (by decide +kernel)
theorem dX12_workCompare_60 : decode cX12_workCompare 60 = .ok (.getfield 125, 3) := dk_180 (by decide +kernel)
theorem dX12_workCompare_63 : decode cX12_workCompare 63 = .ok (.iload_n 2, 1) := dk_28 (by decide +kernel)
theorem dX12_workCompare_64 : decode cX12_workCompare 64 = .ok (.iaload, 1) := dk_46 (by decide +kernel)
theorem dX12_workCompare_65 : decode cX12_workCompare 65 = .ok (.invokevirtual 518, 3) := dk_182 (by decide +kernel)
theorem dX12_workCompare_68 : decode cX12_workCompare 68 = .ok (.goto 259, 3) := dk_167 (by decide +kernel)
theorem dX12_workCompare_71 : decode cX12_workCompare 71 = .ok (.aload_n 0, 1) := dk_42 (by decide +kernel)
theorem dX12_workCompare_72 : decode cX12_workCompare 72 = .ok (.aload_n 0, 1) := dk_42 (by decide +kernel)
theorem dX12_workCompare_73 : decode cX12_workCompare 73 = .ok (.getfield 116, 3) := dk_180 (by decide +kernel)
theorem dX12_workCompare_76 : decode cX12_workCompare 76 = .ok (.iload_n 2, 1) := dk_28 (by decide +kernel)
theorem dX12_workCompare_77 : decode cX12_workCompare 77 = .ok (.iaload, 1) := dk_46 (by decide +kernel)
theorem dX12_workCompare_78 : decode cX12_workCompare 78 = .ok (.invokevirtual 650, 3) := dk_182 (by decide +kernel)
theorem dX12_workCompare_81 : decode cX12_workCompare 81 = .ok (.goto 246, 3) := dk_167 (by decide +kernel)
theorem dX12_workCompare_84 : decode cX12_workCompare 84 = .ok (.aload_n 0, 1) := dk_42 (by decide +kernel)
theorem dX12_workCompare_85 : decode cX12_workCompare 85 = .ok (.getfield 659, 3) := dk_180 (by decide +kernel)
theorem dX12_workCompare_88 : decode cX12_workCompare 88 = .ok (.iconst 1, 1) := dk_4 (by decide +kernel)
theorem dX12_workCompare_89 : decode cX12_workCompare 89 = .ok (.isub, 1) := dk_100 (by decide +kernel)
theorem dX12_workCompare_90 : decode cX12_workCompare 90 = .ok (.istore_n 3, 1) := dk_62 (by decide +kernel)
theorem dX12_workCompare_91 : decode cX12_workCompare 91 = .ok (.aload_n 0, 1) := dk_42 (by decide +kernel)
theorem dX12_workCompare_92 : decode cX12_workCompare 92 = .ok (.getfield 659, 3) := dk_180 (by decide +kernel)
theorem dX12_workCompare_95 : decode cX12_workCompare 95 = .ok (.iconst 2, 1) := dk_5 (by decide +kernel)
theorem dX12_workCompare_96 : decode cX12_workCompare 96 = .ok (.isub, 1) := dk_100 (by decide +kernel)
theorem dX12_workCompare_97 : decode cX12_workCompare 97 = .ok (.istore 4, 2) := dk_54 (by decide +kernel)
theorem dX12_workCompare_99 : decode cX12_workCompare 99 = .ok (.aload_n 0, 1) := dk_42 (by decide +kernel)
theorem dX12_workCompare_100 : decode cX12_workCompare 100 = .ok (.iload_n 3, 1) := dk_29 (by decide +kernel)
theorem dX12_workCompare_101 : decode cX12_workCompare 101 = .ok (.invokevirtual 638, 3) := dk_182 (by decide +kernel)
theorem dX12_workCompare_104 : decode cX12_workCompare 104 = .ok (.ifCond .eq 15, 3) := dk_153 (by decide +kernel)
theorem dX12_workCompare_107 : decode cX12_workCompare 107 = .ok (.aload_n 0, 1) := dk_42 (by decide +kernel)
theorem dX12_workCompare_108 : decode cX12_workCompare 108 = .ok (.bipush 7, 2) := dk_16 (by decide +kernel)
theorem dX12_workCompare_110 : decode cX12_workCompare 110 = .ok (.aload_n 0, 1) := dk_42 (by decide +kernel)
theorem dX12_workCompare_111 : decode cX12_workCompare 111 = .ok (.getfield 128, 3) := dk_180 (by decide +kernel)
theorem dX12_workCompare_114 : decode cX12_workCompare 114 = .ok (.iload_n 2, 1) := dk_28 (by decide +kernel)
theorem dX12_workCompare_115 : decode cX12_workCompare 115 = .ok (.iaload, 1) := dk_46 (by decide +kernel)
theorem dX12_workCompare_116 : decode cX12_workCompare 116 = .ok (.invokevirtual 518, 3) := dk_182 (by decide +kernel)
theorem dX12_workCompare_119 : decode cX12_workCompare 119 = .ok (.aload_n 0, 1) := dk_42 (by decide +kernel)
theorem dX12_workCompare_120 : decode cX12_workCompare 120 = .ok (.getfield 170, 3) := dk_180 (by decide +kernel)
theorem dX12_workCompare_123 : decode cX12_workCompare 123 = .ok (.bipush 9, 2) := dk_16 (by decide +kernel)
theorem dX12_workCompare_125 : decode cX12_workCompare 125 = .ok (.iload 4, 2) := dk_21 (by decide +kernel)
theorem dX12_workCompare_127 : decode cX12_workCompare 127 = .ok (.imul, 1) := dk_104 (by decide +kernel)
theorem dX12_workCompare_128 : decode cX12_workCompare 128 = .ok (.iaload, 1) := dk_46 (by decide +kernel)
theorem dX12_workCompare_129 : decode cX12_workCompare 129 = .ok (.i2l, 1) := dk_133 (by decide +kernel)
theorem dX12_workCompare_130 : decode cX12_workCompare 130 = .ok (.aload_n 0, 1) := dk_42 (by decide +kernel)
theorem dX12_workCompare_131 : decode cX12_workCompare 131 = .ok (.getfield 173, 3) := dk_180 (by decide +kernel)
theorem dX12_workCompare_134 : decode cX12_workCompare 134 = .ok (.bipush 9, 2) := dk_16 (by decide +kernel)
theorem dX12_workCompare_136 : decode cX12_workCompare 136 = .ok (.iload_n 3, 1) := dk_29 (by decide +kernel)
theorem dX12_workCompare_137 : decode cX12_workCompare 137 = .ok (.imul, 1) := dk_104 (by decide +kernel)
theorem dX12_workCompare_138 : decode cX12_workCompare 138 = .ok (.iaload, 1) := dk_46 (by decide +kernel)
theorem dX12_workCompare_139 : decode cX12_workCompare 139 = .ok (.i2l, 1) := dk_133 (by decide +kernel)
theorem dX12_workCompare_140 : decode cX12_workCompare 140 = .ok (.lmul, 1) := dk_105 (by decide +kernel)
theorem dX12_workCompare_141 : decode cX12_workCompare 141 = .ok (.lstore 5, 2) := dk_55 (by decide +kernel)
theorem dX12_workCompare_143 : decode cX12_workCompare 143 = .ok (.aload_n 0, 1) := dk_42 (by decide +kernel)
theorem dX12_workCompare_144 : decode cX12_workCompare 144 = .ok (.getfield 170, 3) := dk_180 (by decide +kernel)
theorem dX12_workCompare_147 : decode cX12_workCompare 147 = .ok (.bipush 9, 2) := dk_16 (by decide +kernel)
theorem dX12_workCompare_149 : decode cX12_workCompare 149 = .ok (.iload_n 3, 1) := dk_29 (by decide +kernel)
theorem dX12_workCompare_150 : decode cX12_workCompare 150 = .ok (.imul, 1) := dk_104 (by decide +kernel)
theorem dX12_workCompare_151 : decode cX12_workCompare 151 = .ok (.iaload, 1) := dk_46 (by decide +kernel)
theorem dX12_workCompare_152 : decode cX12_workCompare 152 = .ok (.i2l, 1) := dk_133 (by decide +kernel)
theorem dX12_workCompare_153 : decode cX12_workCompare 153 = .ok (.aload_n 0, 1) := dk_42 (by decide +kernel)
theorem dX12_workCompare_154 : decode cX12_workCompare 154 = .ok (.getfield 173, 3) := dk_180 (by decide +kernel)
theorem dX12_workCompare_157 : decode cX12_workCompare 157 = .ok (.bipush 9, 2) := dk_16 (by decide +kernel)
theorem dX12_workCompare_159 : decode cX12_workCompare 159 = .ok (.iload 4, 2) := dk_21 (by decide +kernel)
theorem dX12_workCompare_161 : decode cX12_workCompare 161 = .ok (.imul, 1) := dk_104 (by decide +kernel)
theorem dX12_workCompare_162 : decode cX12_workCompare 162 = .ok (.iaload, 1) := dk_46 (by decide +kernel)
theorem dX12_workCompare_163 : decode cX12_workCompare 163 = .ok (.i2l, 1) := dk_133 (by decide +kernel)
theorem dX12_workCompare_164 : decode cX12_workCompare 164 = .ok (.lmul, 1) := dk_105 (by decide +kernel)
theorem dX12_workCompare_165 : decode cX12_workCompare 165 = .ok (.lstore 7, 2) := dk_55 (by decide +kernel)
theorem dX12_workCompare_167 : decode cX12_workCompare 167 = .ok (.aload_n 0, 1) := dk_42 (by decide +kernel)
theorem dX12_workCompare_168 : decode cX12_workCompare 168 = .ok (.getfield 119, 3) := dk_180 (by decide +kernel)
theorem dX12_workCompare_171 : decode cX12_workCompare 171 = .ok (.iload_n 2, 1) := dk_28 (by decide +kernel)
theorem dX12_workCompare_172 : decode cX12_workCompare 172 = .ok (.iaload, 1) := dk_46 (by decide +kernel)
theorem dX12_workCompare_173 : decode cX12_workCompare 173 = .ok (.istore 9, 2) := dk_54 (by decide +kernel)
theorem dX12_workCompare_175 : decode cX12_workCompare 175 = .ok (.aload_n 0, 1) := dk_42 (by decide +kernel)
theorem dX12_workCompare_176 : decode cX12_workCompare 176 = .ok (.iload 9, 2) := dk_21 (by decide +kernel)
theorem dX12_workCompare_178 : decode cX12_workCompare 178 = .ok (.bipush 76, 2) := dk_16 (by decide +kernel)
theorem dX12_workCompare_180 : decode cX12_workCompare 180 = .ok (.if_icmp .ne 19, 3) := dk_160 (by decide +kernel)
theorem dX12_workCompare_183 : decode cX12_workCompare 183 = .ok (.lload 5, 2) := dk_22 (by decide +kernel)
theorem dX12_workCompare_185 : decode cX12_workCompare 185 = .ok (.lload 7, 2) := dk_22 (by decide +kernel)
theorem dX12_workCompare_187 : decode cX12_workCompare 187 = .ok (.lcmp, 1) := dk_148 (by decide +kernel)
theorem dX12_workCompare_188 : decode cX12_workCompare 188 = .ok (.ifCond .gt 7, 3) := dk_157 (by decide +kernel)
theorem dX12_workCompare_191 : decode cX12_workCompare 191 = .ok (.iconst 1, 1) := dk_4 (by decide +kernel)
theorem dX12_workCompare_192 : decode cX12_workCompare 192 = .ok (.goto 112, 3) := dk_167 (by decide +kernel)
theorem dX12_workCompare_195 : decode cX12_workCompare 195 = .ok (.iconst 0, 1) := dk_3 (by decide +kernel)
theorem dX12_workCompare_196 : decode cX12_workCompare 196 = .ok (.goto 108, 3) := dk_167 (by decide +kernel)
theorem dX12_workCompare_199 : decode cX12_workCompare 199 = .ok (.iload 9, 2) := dk_21 (by decide +kernel)
theorem dX12_workCompare_201 : decode cX12_workCompare 201 = .ok (.bipush 71, 2) := dk_16 (by decide +kernel)
theorem dX12_workCompare_203 : decode cX12_workCompare 203 = .ok (.if_icmp .ne 19, 3) := dk_160 (by decide +kernel)
theorem dX12_workCompare_206 : decode cX12_workCompare 206 = .ok (.lload 5, 2) := dk_22 (by decide +kernel)
theorem dX12_workCompare_208 : decode cX12_workCompare 208 = .ok (.lload 7, 2) := dk_22 (by decide +kernel)
theorem dX12_workCompare_210 : decode cX12_workCompare 210 = .ok (.lcmp, 1) := dk_148 (by decide +kernel)
theorem dX12_workCompare_211 : decode cX12_workCompare 211 = .ok (.ifCond .lt 7, 3) := dk_155 (by decide +kernel)
theorem dX12_workCompare_214 : decode cX12_workCompare 214 = .ok (.iconst 1, 1) := dk_4 (by decide +kernel)
theorem dX12_workCompare_215 : decode cX12_workCompare 215 = .ok (.goto 89, 3) := dk_167 (by decide +kernel)
theorem dX12_workCompare_218 : decode cX12_workCompare 218 = .ok (.iconst 0, 1) := dk_3 (by decide +kernel)
theorem dX12_workCompare_219 : decode cX12_workCompare 219 = .ok (.goto 85, 3) := dk_167 (by decide +kernel)
theorem dX12_workCompare_222 : decode cX12_workCompare 222 = .ok (.iload 9, 2) := dk_21 (by decide +kernel)
theorem dX12_workCompare_224 : decode cX12_workCompare 224 = .ok (.bipush 60, 2) := dk_16 (by decide +kernel)
theorem dX12_workCompare_226 : decode cX12_workCompare 226 = .ok (.if_icmp .ne 19, 3) := dk_160 (by decide +kernel)
theorem dX12_workCompare_229 : decode cX12_workCompare 229 = .ok (.lload 5, 2) := dk_22 (by decide +kernel)
theorem dX12_workCompare_231 : decode cX12_workCompare 231 = .ok (.lload 7, 2) := dk_22 (by decide +kernel)
theorem dX12_workCompare_233 : decode cX12_workCompare 233 = .ok (.lcmp, 1) := dk_148 (by decide +kernel)
theorem dX12_workCompare_234 : decode cX12_workCompare 234 = .ok (.ifCond .ge 7, 3) := dk_156 (by decide +kernel)
theorem dX12_workCompare_237 : decode cX12_workCompare 237 = .ok (.iconst 1, 1) := dk_4 (by decide +kernel)
theorem dX12_workCompare_238 : decode cX12_workCompare 238 = .ok (.goto 66, 3) := dk_167 (by decide +kernel)
theorem dX12_workCompare_241 : decode cX12_workCompare 241 = .ok (.iconst 0, 1) := dk_3 (by decide +kernel)
theorem dX12_workCompare_242 : decode cX12_workCompare 242 = .ok (.goto 62, 3) := dk_167 (by decide +kernel)
theorem dX12_workCompare_245 : decode cX12_workCompare 245 = .ok (.iload 9, 2) := dk_21 (by decide +kernel)
theorem dX12_workCompare_247 : decode cX12_workCompare 247 = .ok (.bipush 62, 2) := dk_16 (by decide +kernel)
theorem dX12_workCompare_249 : decode cX12_workCompare 249 = .ok (.if_icmp .ne 19, 3) := dk_160 (by decide +kernel)
theorem dX12_workCompare_252 : decode cX12_workCompare 252 = .ok (.lload 5, 2) := dk_22 (by decide +kernel)
theorem dX12_workCompare_254 : decode cX12_workCompare 254 = .ok (.lload 7, 2) := dk_22 (by decide +kernel)
theorem dX12_workCompare_256 : decode cX12_workCompare 256 = .ok (.lcmp, 1) := dk_148 (by decide +kernel)
theorem dX12_workCompare_257 : decode cX12_workCompare 257 = .ok (.ifCond .le 7, 3) := dk_158 (by decide +kernel)
theorem dX12_workCompare_260 : decode cX12_workCompare 260 = .ok (.iconst 1, 1) := dk_4 (by decide +kernel)
theorem dX12_workCompare_261 : decode cX12_workCompare 261 = .ok (.goto 43, 3) := dk_167 (by decide +kernel)
theorem dX12_workCompare_264 : decode cX12_workCompare 264 = .ok (.iconst 0, 1) := dk_3 (by decide +kernel)
theorem dX12_workCompare_265 : decode cX12_workCompare 265 = .ok (.goto 39, 3) := dk_167 (by decide +kernel)
theorem dX12_workCompare_268 : decode cX12_workCompare 268 = .ok (.iload 9, 2) := dk_21 (by decide +kernel)
theorem dX12_workCompare_270 : decode cX12_workCompare 270 = .ok (.bipush 61, 2) := dk_16 (by decide +kernel)
theorem dX12_workCompare_272 : decode cX12_workCompare 272 = .ok (.if_icmp .ne 19, 3) := dk_160 (by decide +kernel)
theorem dX12_workCompare_275 : decode cX12_workCompare 275 = .ok (.lload 5, 2) := dk_22 (by decide +kernel)
theorem dX12_workCompare_277 : decode cX12_workCompare 277 = .ok (.lload 7, 2) := dk_22 (by decide +kernel)
theorem dX12_workCompare_279 : decode cX12_workCompare 279 = .ok (.lcmp, 1) := dk_148 (by decide +kernel)
theorem dX12_workCompare_280 : decode cX12_workCompare 280 = .ok (.ifCond .ne 7, 3) := dk_154 (by decide +kernel)
theorem dX12_workCompare_283 : decode cX12_workCompare 283 = .ok (.iconst 1, 1) := dk_4 (by decide +kernel)
theorem dX12_workCompare_284 : decode cX12_workCompare 284 = .ok (.goto 20, 3) := dk_167 (by decide +kernel)
theorem dX12_workCompare_287 : decode cX12_workCompare 287 = .ok (.iconst 0, 1) := dk_3 (by decide +kernel)
theorem dX12_workCompare_288 : decode cX12_workCompare 288 = .ok (.goto 16, 3) := dk_167 (by decide +kernel)
theorem dX12_workCompare_291 : decode cX12_workCompare 291 = .ok (.lload 5, 2) := dk_22 (by decide +kernel)
theorem dX12_workCompare_293 : decode cX12_workCompare 293 = .ok (.lload 7, 2) := dk_22 (by decide +kernel)
theorem dX12_workCompare_295 : decode cX12_workCompare 295 = .ok (.lcmp, 1) := dk_148 (by decide +kernel)
theorem dX12_workCompare_296 : decode cX12_workCompare 296 = .ok (.ifCond .eq 7, 3) := dk_153 (by decide +kernel)
theorem dX12_workCompare_299 : decode cX12_workCompare 299 = .ok (.iconst 1, 1) := dk_4 (by decide +kernel)
theorem dX12_workCompare_300 : decode cX12_workCompare 300 = .ok (.goto 4, 3) := dk_167 (by decide +kernel)
theorem dX12_workCompare_303 : decode cX12_workCompare 303 = .ok (.iconst 0, 1) := dk_3 (by decide +kernel)
theorem dX12_workCompare_304 : decode cX12_workCompare 304 = .ok (.putfield 674, 3) := dk_181 (by decide +kernel)
theorem dX12_workCompare_307 : decode cX12_workCompare 307 = .ok (.aload_n 0, 1) := dk_42 (by decide +kernel)
theorem dX12_workCompare_308 : decode cX12_workCompare 308 = .ok (.dup, 1) := dk_89 (by decide +kernel)
theorem dX12_workCompare_309 : decode cX12_workCompare 309 = .ok (.getfield 659, 3) := dk_180 (by decide +kernel)
theorem dX12_workCompare_312 : decode cX12_workCompare 312 = .ok (.iconst 2, 1) := dk_5 (by decide +kernel)
theorem dX12_workCompare_313 : decode cX12_workCompare 313 = .ok (.isub, 1) := dk_100 (by decide +kernel)
theorem dX12_workCompare_314 : decode cX12_workCompare 314 = .ok (.putfield 659, 3) := dk_181 (by decide +kernel)
theorem dX12_workCompare_317 : decode cX12_workCompare 317 = .ok (.aload_n 0, 1) := dk_42 (by decide +kernel)
theorem dX12_workCompare_318 : decode cX12_workCompare 318 = .ok (.dup, 1) := dk_89 (by decide +kernel)
theorem dX12_workCompare_319 : decode cX12_workCompare 319 = .ok (.getfield 647, 3) := dk_180 (by decide +kernel)
theorem dX12_workCompare_322 : decode cX12_workCompare 322 = .ok (.iconst 1, 1) := dk_4 (by decide +kernel)
theorem dX12_workCompare_323 : decode cX12_workCompare 323 = .ok (.isub, 1) := dk_100 (by decide +kernel)
theorem dX12_workCompare_324 : decode cX12_workCompare 324 = .ok (.putfield 647, 3) := dk_181 (by decide +kernel)
theorem dX12_workCompare_327 : decode cX12_workCompare 327 = .ok (.return_, 1) := dk_177 (by decide +kernel)
def wsRX12_workCompare : List Cond := .code yX12_workCompare cX12_workCompare 10 none :: ([.fieldLink RX12 182 "OptimaWorksModel" "stage" "[I", .fieldLink RX12 659 "OptimaWorksModel" "piled" "I", .fieldLink RX12 170 "OptimaWorksModel" "top" "[I", .fieldLink RX12 173 "OptimaWorksModel" "under" "[I", .fieldLink RX12 119 "OptimaWorksModel" "partC" "[I", .fieldLink RX12 674 "OptimaWorksModel" "truth" "Z", .fieldLink RX12 647 "OptimaWorksModel" "framed" "I", .fieldLink RX12 128 "OptimaWorksModel" "firstB" "[I", .fieldLink RX12 116 "OptimaWorksModel" "partB" "[I", .fieldLink RX12 125 "OptimaWorksModel" "firstA" "[I", .fieldLink RX12 113 "OptimaWorksModel" "partA" "[I"] ++ wsX120 ++ (wsV RX12 638 RX12 yX12_hasVariables wsRX12_hasVariables) ++ (wsV RX12 518 RX12 yX12_faultAt wsRX12_faultAt) ++ (wsV RX12 650 RX12 yX12_call wsRX12_call))
theorem iwsRX12_workCompare_in12 : ∀ w ∈ wsX120, w ∈ wsRX12_workCompare := fun _ h => List.mem_cons_of_mem _ (List.mem_append_left _ (List.mem_append_left _ (List.mem_append_left _ (List.mem_append_right _ h))))
theorem gwsRX12_workCompare_0 : GoodIn wsRX12_workCompare (wsV RX12 638 RX12 yX12_hasVariables wsRX12_hasVariables) := goodIn_sub (fun _ h => List.mem_cons_of_mem _ (List.mem_append_left _ (List.mem_append_left _ (List.mem_append_right _ h)))) (gdV (by decide +kernel) gdwsRX12_hasVariables)
theorem gwsRX12_workCompare_1 : GoodIn wsRX12_workCompare (wsV RX12 518 RX12 yX12_faultAt wsRX12_faultAt) := goodIn_sub (fun _ h => List.mem_cons_of_mem _ (List.mem_append_left _ (List.mem_append_right _ h))) (gdV (by decide +kernel) gdwsRX12_faultAt)
theorem gwsRX12_workCompare_2 : GoodIn wsRX12_workCompare (wsV RX12 650 RX12 yX12_call wsRX12_call) := goodIn_sub (fun _ h => List.mem_cons_of_mem _ (List.mem_append_right _ h)) (gdV (by decide +kernel) gdwsRX12_call)
theorem gdwsRX12_workCompare : wsRX12_workCompare.all goodWord = true := gdC rfl (gdA (gdA (gdA (gdA (by decide +kernel : ([.fieldLink RX12 182 "OptimaWorksModel" "stage" "[I", .fieldLink RX12 659 "OptimaWorksModel" "piled" "I", .fieldLink RX12 170 "OptimaWorksModel" "top" "[I", .fieldLink RX12 173 "OptimaWorksModel" "under" "[I", .fieldLink RX12 119 "OptimaWorksModel" "partC" "[I", .fieldLink RX12 674 "OptimaWorksModel" "truth" "Z", .fieldLink RX12 647 "OptimaWorksModel" "framed" "I", .fieldLink RX12 128 "OptimaWorksModel" "firstB" "[I", .fieldLink RX12 116 "OptimaWorksModel" "partB" "[I", .fieldLink RX12 125 "OptimaWorksModel" "firstA" "[I", .fieldLink RX12 113 "OptimaWorksModel" "partA" "[I"] : List Cond).all goodWord = true) gdwsX120) (gdV (by decide +kernel) gdwsRX12_hasVariables)) (gdV (by decide +kernel) gdwsRX12_faultAt)) (gdV (by decide +kernel) gdwsRX12_call))
set_option maxHeartbeats 4000000 in
set_option maxRecDepth 100000 in
/-- workCompare(f, n) -/
theorem r_X12_workCompare (l : Launch) (dC : Nat → ClassId) (dI : Nat → Nat → Nat) (a : Nat → Nat) (k : Nat → ClassId) (h0 : Nat) (vi : Nat → Int32) (vj : Nat → Int64) (vF : Nat → Nat → Int32) (vG : Nat → Nat → Int64) (nF : Nat → Nat → Int32) (V : Nat → Prop) (wt : Nat → Nat) (dp : Nat → Nat) (pd : Nat → Nat) (nN : Nat) (kN : Nat) (sN : Nat) (la : Nat) (hN : Nat) (pN : Nat) (rN : Nat) (fN : Nat) (fr : Nat) (cN : Nat) (dN : Nat) (hnN : nN < 4000) (hfN : fN < 4299) (hkN : vF 29 nN = nI kN) (hsN : vF 53 fN = nI sN) (hfr9 : vi 89 = nI fr) (hfr1 : fr = fN + 1) (hTo : TopO nF V wt dp pd nN kN sN la hN pN rN) (hcN : vF 30 nN = nI cN) (hdN : vF 31 nN = nI dN) (hcT : KidL nF V dp pd nN 30 0 cN) (hdT : KidL nF V dp pd nN 31 1 dN) (hwN : wt cN + wt dN + 3 ≤ wt nN) (hkk : (5 ≤ kN ∧ kN ≤ 8) ∨ kN = 13) (hk8 : kN = 13) (hpl : vi 81 = nI pN) (hRw : ∀ v9, v9 < pN → RowU (vF 49) (vF 50) v9) (hpp : hN + pd nN ≤ 100) (hpd : 2 ≤ pd nN) (hst0 : 0 ≤ (vi 21).toInt) (sz : Nat) : Met l yX12_workCompare wsRX12_workCompare ({ frames := 1, cells := 0, slots := 0, locals := 23 }) (va_Pc [.ref h0, .int (nI fN), .int (nI nN)] (fun U => U.heap.size = sz ∧ va_P (dC, dI) vwCl (WR a k h0 vi vj vF vG) U.heap ∧ va_K (dC, dI) vwCl (tX12 k) U ∧ va_D (fun _ => True) (WR a k h0 vi vj vF vG))) (va_Qv (fun (u : (Nat → Int32) × (Nat → Int32) × (Nat) × (Nat) × (Int32) × (Int32) × (Int32)) => (0 ≤ ((u.2.2.2.2.1)).toInt) ∧ ((u.2.2.2.2.1) = vi 21 ∨ 0 < ((u.2.2.2.2.1)).toInt) ∧ (0 < ((u.2.2.2.2.1)).toInt ∨ StpO nF V wt dp pd nN kN fN hN rN (vF 52) (vF 53) (vF 54) (u.1) (u.2.1) (vF 54) (u.2.2.1) (u.2.2.2.1)) ∧ ((u.2.2.2.1) ≤ pN) ∧ ((u.2.2.1) ≤ fr + 1)) (fun (u : (Nat → Int32) × (Nat → Int32) × (Nat) × (Nat) × (Int32) × (Int32) × (Int32)) t => va_P (dC, dI) vwCl (WR a k h0 (fT (fT (fT (fT (fT vi 21 (u.2.2.2.2.1)) 22 (u.2.2.2.2.2.1)) 84 (u.2.2.2.2.2.2)) 81 (nI (u.2.2.2.1))) 89 (nI (u.2.2.1))) vj (fT (fT vF 53 (u.2.1)) 52 (u.1)) vG) t.heap ∧ va_D (va_A (WR a k h0 vi vj vF vG) sz) (WR a k h0 (fT (fT (fT (fT (fT vi 21 (u.2.2.2.2.1)) 22 (u.2.2.2.2.2.1)) 84 (u.2.2.2.2.2.2)) 81 (nI (u.2.2.2.1))) 89 (nI (u.2.2.1))) vj (fT (fT vF 53 (u.2.1)) 52 (u.1)) vG)) (va_A (WR a k h0 vi vj vF vG) sz)) 0 0 (va_A (WR a k h0 vi vj vF vG) sz) := by
  refine Met.ofW (cc := cX12_workCompare) (maxL := 10) (ret := none) (by decide) rfl ?_
  intro p e s m args below meth c s₁ B hml hv
  obtain ⟨rfl, hsz, hP, hK, hD0⟩ := hv
  have hx := B.exec
  have hb := B.bytes
  have hr := B.returns
  have hts := atoms_spec (ws := wsRX12_workCompare) B.pre
  have hown : s.vm.findClass RX12 = some m.cls := findClass_of_methodNamed B.named
  have hlocks := B.notSynchronized
  subst hsz
  have hD := hD0.self (sz := s.heap.size)
  generalize hAe : va_A (WR a k h0 vi vj vF vG) s.heap.size = A at hD ⊢
  have hA : ∀ q : Nat, s.heap.size ≤ q → A q := fun q h => by rw [← hAe]; exact Or.inr h
  have hS : va_S A s.heap s.heap [] := va_S.rf
  have hl := lv_entry ([.ref h0, .int (nI fN), .int (nI nN)]) (n := 10) (Nat.le_of_ble_eq_true rfl)
  rw [lg_entry_eq]
  generalize (lg_sl ([.ref h0, .int (nI fN), .int (nI nN)]) ++ List.replicate (10 - (lg_sl ([.ref h0, .int (nI fN), .int (nI nN)])).length) Slot.unset).toArray = ls at hl ⊢
  have hl : lv_has ls 10 [(0, .ref h0), (1, .int (nI fN)), (2, .int (nI nN))] := hl
  have hsd := hTo.pair hkk hdT
  have hq1 := hcT.2.2.2.1
  have hq2 := hdT.2.2.2.1
  refine lv_aload_n hx hb dX12_workCompare_0 rfl (lv_at hl 0 rfl) ?_
  refine va_get (D := (dC, dI)) (ci := 12) (v := .ref (a 53)) (C := RX12) (T := TX12) (N := 163) (fs := fM (vS a vi vj)) hx hb hts iwsRX12_workCompare_in12 hown hK hP 0 rfl rfl 86 (by decide) (hts (.fieldLink RX12 182 "OptimaWorksModel" "stage" "[I") (by decide +kernel)) (fun _ h9 => h9) rfl dX12_workCompare_1 ?_
  refine lv_iload_n hx hb dX12_workCompare_4 rfl (lv_at hl 1 rfl) ?_
  refine lv_dup2_11 hx hb dX12_workCompare_5 rfl rfl ?_
  refine va_iald (cA := k 53) (n := 4300) (f := (vF 53)) hx hb hK hP 54 53 (WR_get 53 (by decide)) (TR_get 53 (by decide)) (vp_in_nI (show fN < 4300 by omega) (by omega)) dX12_workCompare_6 ?_
  refine lv_topi (fun y1 hy1 => ?_)
  obtain rfl : ((vF 53) fN) = y1 := (hy1.trans (by rw [nI_clamp (by omega)])).symm
  refine lv_topi (fun y2 hy2 => ?_)
  obtain rfl : (nI sN) = y2 := (hy2.trans (hsN)).symm
  refine lv_iconst (v := 1) hx hb dX12_workCompare_7 (by decide) ?_
  refine lv_iadd hx hb dX12_workCompare_8 ?_
  refine lv_topi (fun y3 hy3 => ?_)
  obtain rfl : (nI (sN + 1)) = y3 := (hy3.trans (nI_add sN 1)).symm
  refine va_iast (cA := k 53) (n := 4300) (f := (vF 53)) hx hb hK hP hD hS 54 53 (WR_get 53 (by decide)) (TR_get 53 (by decide)) (vp_in_nI (show fN < 4300 by omega) (by omega)) dX12_workCompare_9 (fun H locs hP hD hS => ?_)
  have hP : va_P (dC, dI) vwCl (WR a k h0 vi vj (fT vF 53 (upd (vF 53) ((nI fN)).toNatClampNeg (nI (sN + 1)))) vG) H := by rw [← WR_F 53 (by decide) _ rfl]; exact hP
  have hD : va_D A (WR a k h0 vi vj (fT vF 53 (upd (vF 53) ((nI fN)).toNatClampNeg (nI (sN + 1)))) vG) := by rw [← WR_F 53 (by decide) _ rfl]; exact hD
  refine lv_aload_n hx hb dX12_workCompare_10 rfl (lv_at hl 0 rfl) ?_
  refine va_get (D := (dC, dI)) (ci := 12) (v := .ref (a 53)) (C := RX12) (T := TX12) (N := 163) (fs := fM (vS a vi vj)) hx hb hts iwsRX12_workCompare_in12 hown hK hP 0 rfl rfl 86 (by decide) (hts (.fieldLink RX12 182 "OptimaWorksModel" "stage" "[I") (by decide +kernel)) (fun _ h9 => h9) rfl dX12_workCompare_11 ?_
  refine lv_iload_n hx hb dX12_workCompare_14 rfl (lv_at hl 1 rfl) ?_
  refine va_iald (cA := k 53) (n := 4300) (f := (upd (vF 53) ((nI fN)).toNatClampNeg (nI (sN + 1)))) hx hb hK hP 54 53 (WR_get 53 (by decide)) (TR_get 53 (by decide)) (vp_in_nI (show fN < 4300 by omega) (by omega)) dX12_workCompare_15 ?_
  refine lv_topi (fun y4 hy4 => ?_)
  obtain rfl : ((upd (vF 53) ((nI fN)).toNatClampNeg (nI (sN + 1))) fN) = y4 := (hy4.trans (by rw [nI_clamp (by omega)])).symm
  refine lv_topi (fun y5 hy5 => ?_)
  obtain rfl : (nI (sN + 1)) = y5 := (hy5.trans ((by rw [upd_at (by omega), if_pos rfl]))).symm
  refine lv_iconst (v := 1) hx hb dX12_workCompare_16 (by decide) ?_
  refine lv_icmp_ne (tgt := 33) hx hb dX12_workCompare_17 (by decide) (fun c_17 => ?_) (fun c_17 => ?_)
  · have t_17 : (((sN + 1) : Nat) : Int) ≠ 1 := toI_ne c_17 (nI_toInt (by omega)) (by decide)
    refine lv_aload_n hx hb dX12_workCompare_33 rfl (lv_at hl 0 rfl) ?_
    refine va_get (D := (dC, dI)) (ci := 12) (v := .ref (a 53)) (C := RX12) (T := TX12) (N := 163) (fs := fM (vS a vi vj)) hx hb hts iwsRX12_workCompare_in12 hown hK hP 0 rfl rfl 86 (by decide) (hts (.fieldLink RX12 182 "OptimaWorksModel" "stage" "[I") (by decide +kernel)) (fun _ h9 => h9) rfl dX12_workCompare_34 ?_
    refine lv_iload_n hx hb dX12_workCompare_37 rfl (lv_at hl 1 rfl) ?_
    refine va_iald (cA := k 53) (n := 4300) (f := (upd (vF 53) ((nI fN)).toNatClampNeg (nI (sN + 1)))) hx hb hK hP 54 53 (WR_get 53 (by decide)) (TR_get 53 (by decide)) (vp_in_nI (show fN < 4300 by omega) (by omega)) dX12_workCompare_38 ?_
    refine lv_topi (fun y6 hy6 => ?_)
    obtain rfl : ((upd (vF 53) ((nI fN)).toNatClampNeg (nI (sN + 1))) fN) = y6 := (hy6.trans (by rw [nI_clamp (by omega)])).symm
    refine lv_topi (fun y7 hy7 => ?_)
    obtain rfl : (nI (sN + 1)) = y7 := (hy7.trans ((by rw [upd_at (by omega), if_pos rfl]))).symm
    refine lv_iconst (v := 2) hx hb dX12_workCompare_39 (by decide) ?_
    refine lv_icmp_ne (tgt := 84) hx hb dX12_workCompare_40 (by decide) (fun c_40 => ?_) (fun c_40 => ?_)
    · have t_40 : (((sN + 1) : Nat) : Int) ≠ 2 := toI_ne c_40 (nI_toInt (by omega)) (by decide)
      refine lv_aload_n hx hb dX12_workCompare_84 rfl (lv_at hl 0 rfl) ?_
      refine va_get (D := (dC, dI)) (ci := 12) (v := .int (vi 81)) (C := RX12) (T := TX12) (N := 163) (fs := fM (vS a vi vj)) hx hb hts iwsRX12_workCompare_in12 hown hK hP 0 rfl rfl 81 (by decide) (hts (.fieldLink RX12 659 "OptimaWorksModel" "piled" "I") (by decide +kernel)) (fun _ h9 => h9) rfl dX12_workCompare_85 ?_
      refine lv_topi (fun y8 hy8 => ?_)
      obtain rfl : (nI pN) = y8 := (hy8.trans (hpl)).symm
      refine lv_iconst (v := 1) hx hb dX12_workCompare_88 (by decide) ?_
      refine lv_isub hx hb dX12_workCompare_89 ?_
      refine lv_topi (fun y9 hy9 => ?_)
      obtain rfl : (nI (pN - 1)) = y9 := (hy9.trans (pk_sub (a := pN) (b := 1) (by omega))).symm
      refine lv_istore_n hx hb dX12_workCompare_90 rfl hl (by decide) rfl (fun ls (hl : lv_has ls _ ([(3, .int (nI (pN - 1))), (0, .ref h0), (1, .int (nI fN)), (2, .int (nI nN))])) => ?_)
      refine lv_aload_n hx hb dX12_workCompare_91 rfl (lv_at hl 1 rfl) ?_
      refine va_get (D := (dC, dI)) (ci := 12) (v := .int (vi 81)) (C := RX12) (T := TX12) (N := 163) (fs := fM (vS a vi vj)) hx hb hts iwsRX12_workCompare_in12 hown hK hP 0 rfl rfl 81 (by decide) (hts (.fieldLink RX12 659 "OptimaWorksModel" "piled" "I") (by decide +kernel)) (fun _ h9 => h9) rfl dX12_workCompare_92 ?_
      refine lv_topi (fun y10 hy10 => ?_)
      obtain rfl : (nI pN) = y10 := (hy10.trans (hpl)).symm
      refine lv_iconst (v := 2) hx hb dX12_workCompare_95 (by decide) ?_
      refine lv_isub hx hb dX12_workCompare_96 ?_
      refine lv_topi (fun y11 hy11 => ?_)
      obtain rfl : (nI (pN - 2)) = y11 := (hy11.trans (pk_sub (a := pN) (b := 2) (by omega))).symm
      refine lv_istore hx hb dX12_workCompare_97 hl (by decide) rfl (fun ls (hl : lv_has ls _ ([(4, .int (nI (pN - 2))), (3, .int (nI (pN - 1))), (0, .ref h0), (1, .int (nI fN)), (2, .int (nI nN))])) => ?_)
      refine lv_aload_n hx hb dX12_workCompare_99 rfl (lv_at hl 2 rfl) ?_
      refine lv_iload_n hx hb dX12_workCompare_100 rfl (lv_at hl 1 rfl) ?_
      have hFc := allFree hD hS hA
      refine va_calli (va_runV (As := [.int (nI (pN - 1))]) (rest := []) ⟨hx, hb, hml, hown, hts⟩ (r_X12_hasVariables l dC dI a k h0 vi vj (fT vF 53 (upd (vF 53) ((nI fN)).toNatClampNeg (nI (sN + 1)))) vG (pN - 1) (by first | assumption | decide | omega | rfl) H.size) (cwV 1 hts gwsRX12_workCompare_0 rfl rfl rfl hd_yX12_hasVariables_RX12 (by decide +kernel)) (fz_pre (va_recv hK hP (ci := 12) (q0 := 0) rfl rfl) hP hK hD) rfl rfl hl.1 rfl (lv_room (Nat.le_of_ble_eq_true rfl)) dX12_workCompare_101 (by decide +kernel)) hS (fun q _ h => hFc q h) hFc (fun r101 u t9_ H locs ht hvm hw9 hB9 hz1 hk1 hS => ?_)
      have hP : va_P (dC, dI) vwCl (WR a k h0 vi vj (fT vF 53 (upd (vF 53) ((nI fN)).toNatClampNeg (nI (sN + 1)))) vG) H := fz_P ht hB9.1
      have hD : va_D A (WR a k h0 vi vj (fT vF 53 (upd (vF 53) ((nI fN)).toNatClampNeg (nI (sN + 1)))) vG) := hB9.2.weaken (fun _ q _ h => hFc q.1 h)
      have f101_0 := hw9
      try dsimp only at f101_0
      have f101_0 : ((r101) = 0 ∧ ∀ q, 1 ≤ q → q < 9 → (vF 49) (9 * (pN - 1) + q) = 0) ∨ ((r101) = 1 ∧ ∃ q, 1 ≤ q ∧ q < 9 ∧ (vF 49) (9 * (pN - 1) + q) ≠ 0) := f101_0
      refine lv_if_eq (tgt := 119) hx hb dX12_workCompare_104 (by decide) (fun c_104 => ?_) (fun c_104 => ?_)
      · have t_104 : (r101).toInt = 0 := toI_eq c_104 rfl (by decide)
        refine lv_aload_n hx hb dX12_workCompare_119 rfl (lv_at hl 2 rfl) ?_
        refine va_get (D := (dC, dI)) (ci := 12) (v := .ref (a 49)) (C := RX12) (T := TX12) (N := 163) (fs := fM (vS a vi vj)) hx hb hts iwsRX12_workCompare_in12 hown hK hP 0 rfl rfl 78 (by decide) (hts (.fieldLink RX12 170 "OptimaWorksModel" "top" "[I") (by decide +kernel)) (fun _ h9 => h9) rfl dX12_workCompare_120 ?_
        refine lv_bipush (v := 9) hx hb dX12_workCompare_123 (by decide) ?_
        refine lv_iload hx hb dX12_workCompare_125 (lv_at hl 0 rfl) ?_
        refine lv_imul hx hb dX12_workCompare_127 ?_
        refine lv_topi (fun y12 hy12 => ?_)
        obtain rfl : (nI (9 * (pN - 2))) = y12 := (hy12.trans (pk_mul 9 (pN - 2))).symm
        refine va_iald (cA := k 49) (n := 900) (f := (vF 49)) hx hb hK hP 50 49 (WR_get 49 (by decide)) (TR_get 49 (by decide)) (vp_in_nI (show (9 * (pN - 2)) < 900 by omega) (by omega)) dX12_workCompare_128 ?_
        refine lv_topi (fun y13 hy13 => ?_)
        obtain rfl : ((vF 49) (9 * (pN - 2))) = y13 := (hy13.trans (by rw [nI_clamp (by omega)])).symm
        refine lv_i2l hx hb dX12_workCompare_129 rfl ?_
        refine lv_aload_n hx hb dX12_workCompare_130 rfl (lv_at hl 2 rfl) ?_
        refine va_get (D := (dC, dI)) (ci := 12) (v := .ref (a 50)) (C := RX12) (T := TX12) (N := 163) (fs := fM (vS a vi vj)) hx hb hts iwsRX12_workCompare_in12 hown hK hP 0 rfl rfl 79 (by decide) (hts (.fieldLink RX12 173 "OptimaWorksModel" "under" "[I") (by decide +kernel)) (fun _ h9 => h9) rfl dX12_workCompare_131 ?_
        refine lv_bipush (v := 9) hx hb dX12_workCompare_134 (by decide) ?_
        refine lv_iload_n hx hb dX12_workCompare_136 rfl (lv_at hl 1 rfl) ?_
        refine lv_imul hx hb dX12_workCompare_137 ?_
        refine lv_topi (fun y14 hy14 => ?_)
        obtain rfl : (nI (9 * (pN - 1))) = y14 := (hy14.trans (pk_mul 9 (pN - 1))).symm
        refine va_iald (cA := k 50) (n := 900) (f := (vF 50)) hx hb hK hP 51 50 (WR_get 50 (by decide)) (TR_get 50 (by decide)) (vp_in_nI (show (9 * (pN - 1)) < 900 by omega) (by omega)) dX12_workCompare_138 ?_
        refine lv_topi (fun y15 hy15 => ?_)
        obtain rfl : ((vF 50) (9 * (pN - 1))) = y15 := (hy15.trans (by rw [nI_clamp (by omega)])).symm
        refine lv_i2l hx hb dX12_workCompare_139 rfl ?_
        refine lv_lmul hx hb dX12_workCompare_140 ?_
        refine lv_lstore hx hb dX12_workCompare_141 hl (by decide) rfl (fun ls (hl : lv_has ls _ ([(5, .long ((((vF 49) (9 * (pN - 2)))).toInt64 * (((vF 50) (9 * (pN - 1)))).toInt64)), (4, .int (nI (pN - 2))), (3, .int (nI (pN - 1))), (0, .ref h0), (1, .int (nI fN)), (2, .int (nI nN))])) => ?_)
        refine lv_aload_n hx hb dX12_workCompare_143 rfl (lv_at hl 3 rfl) ?_
        refine va_get (D := (dC, dI)) (ci := 12) (v := .ref (a 49)) (C := RX12) (T := TX12) (N := 163) (fs := fM (vS a vi vj)) hx hb hts iwsRX12_workCompare_in12 hown hK hP 0 rfl rfl 78 (by decide) (hts (.fieldLink RX12 170 "OptimaWorksModel" "top" "[I") (by decide +kernel)) (fun _ h9 => h9) rfl dX12_workCompare_144 ?_
        refine lv_bipush (v := 9) hx hb dX12_workCompare_147 (by decide) ?_
        refine lv_iload_n hx hb dX12_workCompare_149 rfl (lv_at hl 2 rfl) ?_
        refine lv_imul hx hb dX12_workCompare_150 ?_
        refine lv_topi (fun y16 hy16 => ?_)
        obtain rfl : (nI (9 * (pN - 1))) = y16 := (hy16.trans (pk_mul 9 (pN - 1))).symm
        refine va_iald (cA := k 49) (n := 900) (f := (vF 49)) hx hb hK hP 50 49 (WR_get 49 (by decide)) (TR_get 49 (by decide)) (vp_in_nI (show (9 * (pN - 1)) < 900 by omega) (by omega)) dX12_workCompare_151 ?_
        refine lv_topi (fun y17 hy17 => ?_)
        obtain rfl : ((vF 49) (9 * (pN - 1))) = y17 := (hy17.trans (by rw [nI_clamp (by omega)])).symm
        refine lv_i2l hx hb dX12_workCompare_152 rfl ?_
        refine lv_aload_n hx hb dX12_workCompare_153 rfl (lv_at hl 3 rfl) ?_
        refine va_get (D := (dC, dI)) (ci := 12) (v := .ref (a 50)) (C := RX12) (T := TX12) (N := 163) (fs := fM (vS a vi vj)) hx hb hts iwsRX12_workCompare_in12 hown hK hP 0 rfl rfl 79 (by decide) (hts (.fieldLink RX12 173 "OptimaWorksModel" "under" "[I") (by decide +kernel)) (fun _ h9 => h9) rfl dX12_workCompare_154 ?_
        refine lv_bipush (v := 9) hx hb dX12_workCompare_157 (by decide) ?_
        refine lv_iload hx hb dX12_workCompare_159 (lv_at hl 1 rfl) ?_
        refine lv_imul hx hb dX12_workCompare_161 ?_
        refine lv_topi (fun y18 hy18 => ?_)
        obtain rfl : (nI (9 * (pN - 2))) = y18 := (hy18.trans (pk_mul 9 (pN - 2))).symm
        refine va_iald (cA := k 50) (n := 900) (f := (vF 50)) hx hb hK hP 51 50 (WR_get 50 (by decide)) (TR_get 50 (by decide)) (vp_in_nI (show (9 * (pN - 2)) < 900 by omega) (by omega)) dX12_workCompare_162 ?_
        refine lv_topi (fun y19 hy19 => ?_)
        obtain rfl : ((vF 50) (9 * (pN - 2))) = y19 := (hy19.trans (by rw [nI_clamp (by omega)])).symm
        refine lv_i2l hx hb dX12_workCompare_163 rfl ?_
        refine lv_lmul hx hb dX12_workCompare_164 ?_
        refine lv_lstore hx hb dX12_workCompare_165 hl (by decide) rfl (fun ls (hl : lv_has ls _ ([(7, .long ((((vF 49) (9 * (pN - 1)))).toInt64 * (((vF 50) (9 * (pN - 2)))).toInt64)), (5, .long ((((vF 49) (9 * (pN - 2)))).toInt64 * (((vF 50) (9 * (pN - 1)))).toInt64)), (4, .int (nI (pN - 2))), (3, .int (nI (pN - 1))), (0, .ref h0), (1, .int (nI fN)), (2, .int (nI nN))])) => ?_)
        refine lv_aload_n hx hb dX12_workCompare_167 rfl (lv_at hl 4 rfl) ?_
        refine va_get (D := (dC, dI)) (ci := 12) (v := .ref (a 32)) (C := RX12) (T := TX12) (N := 163) (fs := fM (vS a vi vj)) hx hb hts iwsRX12_workCompare_in12 hown hK hP 0 rfl rfl 56 (by decide) (hts (.fieldLink RX12 119 "OptimaWorksModel" "partC" "[I") (by decide +kernel)) (fun _ h9 => h9) rfl dX12_workCompare_168 ?_
        refine lv_iload_n hx hb dX12_workCompare_171 rfl (lv_at hl 6 rfl) ?_
        refine va_iald (cA := k 32) (n := 4200) (f := (vF 32)) hx hb hK hP 33 32 (WR_get 32 (by decide)) (TR_get 32 (by decide)) (vp_in_nI (show nN < 4200 by omega) (by omega)) dX12_workCompare_172 ?_
        refine lv_topi (fun y20 hy20 => ?_)
        obtain rfl : ((vF 32) nN) = y20 := (hy20.trans (by rw [nI_clamp (by omega)])).symm
        refine lv_istore hx hb dX12_workCompare_173 hl (by decide) rfl (fun ls (hl : lv_has ls _ ([(9, .int ((vF 32) nN)), (7, .long ((((vF 49) (9 * (pN - 1)))).toInt64 * (((vF 50) (9 * (pN - 2)))).toInt64)), (5, .long ((((vF 49) (9 * (pN - 2)))).toInt64 * (((vF 50) (9 * (pN - 1)))).toInt64)), (4, .int (nI (pN - 2))), (3, .int (nI (pN - 1))), (0, .ref h0), (1, .int (nI fN)), (2, .int (nI nN))])) => ?_)
        refine lv_aload_n hx hb dX12_workCompare_175 rfl (lv_at hl 5 rfl) ?_
        refine lv_iload hx hb dX12_workCompare_176 (lv_at hl 0 rfl) ?_
        refine lv_bipush (v := 76) hx hb dX12_workCompare_178 (by decide) ?_
        refine W.cut (pc := 304) (fun H locs ls stk => ∃ (tv : Int32), (tv = 0 ∨ tv = 1) ∧  stk = [.int tv, .ref h0] ∧ va_P (dC, dI) vwCl (WR a k h0 vi vj (fT vF 53 (upd (vF 53) ((nI fN)).toNatClampNeg (nI (sN + 1)))) vG) H ∧ va_D A (WR a k h0 vi vj (fT vF 53 (upd (vF 53) ((nI fN)).toNatClampNeg (nI (sN + 1)))) vG) ∧ va_S A s.heap H locs ∧ lv_has ls 10 [(9, .int ((vF 32) nN)), (7, .long ((((vF 49) (9 * (pN - 1)))).toInt64 * (((vF 50) (9 * (pN - 2)))).toInt64)), (5, .long ((((vF 49) (9 * (pN - 2)))).toInt64 * (((vF 50) (9 * (pN - 1)))).toInt64)), (4, .int (nI (pN - 2))), (3, .int (nI (pN - 1))), (0, .ref h0), (1, .int (nI fN)), (2, .int (nI nN))]) (fun join1 => ?_) ?_
        · refine lv_icmp_ne (tgt := 199) hx hb dX12_workCompare_180 (by decide) (fun c_180 => ?_) (fun c_180 => ?_)
          · have t_180 : (((vF 32) nN)).toInt ≠ 76 := toI_ne c_180 rfl (by decide)
            refine lv_iload hx hb dX12_workCompare_199 (lv_at hl 0 rfl) ?_
            refine lv_bipush (v := 71) hx hb dX12_workCompare_201 (by decide) ?_
            refine lv_icmp_ne (tgt := 222) hx hb dX12_workCompare_203 (by decide) (fun c_203 => ?_) (fun c_203 => ?_)
            · have t_203 : (((vF 32) nN)).toInt ≠ 71 := toI_ne c_203 rfl (by decide)
              refine lv_iload hx hb dX12_workCompare_222 (lv_at hl 0 rfl) ?_
              refine lv_bipush (v := 60) hx hb dX12_workCompare_224 (by decide) ?_
              refine lv_icmp_ne (tgt := 245) hx hb dX12_workCompare_226 (by decide) (fun c_226 => ?_) (fun c_226 => ?_)
              · have t_226 : (((vF 32) nN)).toInt ≠ 60 := toI_ne c_226 rfl (by decide)
                refine lv_iload hx hb dX12_workCompare_245 (lv_at hl 0 rfl) ?_
                refine lv_bipush (v := 62) hx hb dX12_workCompare_247 (by decide) ?_
                refine lv_icmp_ne (tgt := 268) hx hb dX12_workCompare_249 (by decide) (fun c_249 => ?_) (fun c_249 => ?_)
                · have t_249 : (((vF 32) nN)).toInt ≠ 62 := toI_ne c_249 rfl (by decide)
                  refine lv_iload hx hb dX12_workCompare_268 (lv_at hl 0 rfl) ?_
                  refine lv_bipush (v := 61) hx hb dX12_workCompare_270 (by decide) ?_
                  refine lv_icmp_ne (tgt := 291) hx hb dX12_workCompare_272 (by decide) (fun c_272 => ?_) (fun c_272 => ?_)
                  · have t_272 : (((vF 32) nN)).toInt ≠ 61 := toI_ne c_272 rfl (by decide)
                    refine lv_lload hx hb dX12_workCompare_291 (lv_at hl 2 rfl) ?_
                    refine lv_lload hx hb dX12_workCompare_293 (lv_at hl 1 rfl) ?_
                    refine W.lcmp hx hb dX12_workCompare_295 ?_
                    refine lv_if_eq (tgt := 303) hx hb dX12_workCompare_296 (by decide) (fun c_296 => ?_) (fun c_296 => ?_)
                    · have t_296 : (((((vF 49) (9 * (pN - 2)))).toInt64 * (((vF 50) (9 * (pN - 1)))).toInt64)).toInt = (((((vF 49) (9 * (pN - 1)))).toInt64 * (((vF 50) (9 * (pN - 2)))).toInt64)).toInt := toL_eq c_296 rfl rfl
                      refine lv_iconst (v := 0) hx hb dX12_workCompare_303 (by decide) ?_
                      have hl : lv_has _ _ ([(9, .int ((vF 32) nN)), (7, .long ((((vF 49) (9 * (pN - 1)))).toInt64 * (((vF 50) (9 * (pN - 2)))).toInt64)), (5, .long ((((vF 49) (9 * (pN - 2)))).toInt64 * (((vF 50) (9 * (pN - 1)))).toInt64)), (4, .int (nI (pN - 2))), (3, .int (nI (pN - 1))), (0, .ref h0), (1, .int (nI fN)), (2, .int (nI nN))]) := lv_sub hl [0, 1, 2, 3, 4, 5, 6, 7] rfl
                      exact join1 _ _ _ _ ⟨0, by decide, rfl, hP, hD, hS, hl⟩
                    · have t_296 : ¬ (((((vF 49) (9 * (pN - 2)))).toInt64 * (((vF 50) (9 * (pN - 1)))).toInt64)).toInt = (((((vF 49) (9 * (pN - 1)))).toInt64 * (((vF 50) (9 * (pN - 2)))).toInt64)).toInt := toL_neq c_296 rfl rfl
                      refine lv_iconst (v := 1) hx hb dX12_workCompare_299 (by decide) ?_
                      refine lv_goto (tgt := 304) hx hb dX12_workCompare_300 (by decide) ?_
                      have hl : lv_has _ _ ([(9, .int ((vF 32) nN)), (7, .long ((((vF 49) (9 * (pN - 1)))).toInt64 * (((vF 50) (9 * (pN - 2)))).toInt64)), (5, .long ((((vF 49) (9 * (pN - 2)))).toInt64 * (((vF 50) (9 * (pN - 1)))).toInt64)), (4, .int (nI (pN - 2))), (3, .int (nI (pN - 1))), (0, .ref h0), (1, .int (nI fN)), (2, .int (nI nN))]) := lv_sub hl [0, 1, 2, 3, 4, 5, 6, 7] rfl
                      exact join1 _ _ _ _ ⟨1, by decide, rfl, hP, hD, hS, hl⟩
                  · have t_272 : (((vF 32) nN)).toInt = 61 := toI_nne c_272 rfl (by decide)
                    refine lv_lload hx hb dX12_workCompare_275 (lv_at hl 2 rfl) ?_
                    refine lv_lload hx hb dX12_workCompare_277 (lv_at hl 1 rfl) ?_
                    refine W.lcmp hx hb dX12_workCompare_279 ?_
                    refine lv_if_ne (tgt := 287) hx hb dX12_workCompare_280 (by decide) (fun c_280 => ?_) (fun c_280 => ?_)
                    · have t_280 : (((((vF 49) (9 * (pN - 2)))).toInt64 * (((vF 50) (9 * (pN - 1)))).toInt64)).toInt ≠ (((((vF 49) (9 * (pN - 1)))).toInt64 * (((vF 50) (9 * (pN - 2)))).toInt64)).toInt := toL_ne c_280 rfl rfl
                      refine lv_iconst (v := 0) hx hb dX12_workCompare_287 (by decide) ?_
                      refine lv_goto (tgt := 304) hx hb dX12_workCompare_288 (by decide) ?_
                      have hl : lv_has _ _ ([(9, .int ((vF 32) nN)), (7, .long ((((vF 49) (9 * (pN - 1)))).toInt64 * (((vF 50) (9 * (pN - 2)))).toInt64)), (5, .long ((((vF 49) (9 * (pN - 2)))).toInt64 * (((vF 50) (9 * (pN - 1)))).toInt64)), (4, .int (nI (pN - 2))), (3, .int (nI (pN - 1))), (0, .ref h0), (1, .int (nI fN)), (2, .int (nI nN))]) := lv_sub hl [0, 1, 2, 3, 4, 5, 6, 7] rfl
                      exact join1 _ _ _ _ ⟨0, by decide, rfl, hP, hD, hS, hl⟩
                    · have t_280 : (((((vF 49) (9 * (pN - 2)))).toInt64 * (((vF 50) (9 * (pN - 1)))).toInt64)).toInt = (((((vF 49) (9 * (pN - 1)))).toInt64 * (((vF 50) (9 * (pN - 2)))).toInt64)).toInt := toL_nne c_280 rfl rfl
                      refine lv_iconst (v := 1) hx hb dX12_workCompare_283 (by decide) ?_
                      refine lv_goto (tgt := 304) hx hb dX12_workCompare_284 (by decide) ?_
                      have hl : lv_has _ _ ([(9, .int ((vF 32) nN)), (7, .long ((((vF 49) (9 * (pN - 1)))).toInt64 * (((vF 50) (9 * (pN - 2)))).toInt64)), (5, .long ((((vF 49) (9 * (pN - 2)))).toInt64 * (((vF 50) (9 * (pN - 1)))).toInt64)), (4, .int (nI (pN - 2))), (3, .int (nI (pN - 1))), (0, .ref h0), (1, .int (nI fN)), (2, .int (nI nN))]) := lv_sub hl [0, 1, 2, 3, 4, 5, 6, 7] rfl
                      exact join1 _ _ _ _ ⟨1, by decide, rfl, hP, hD, hS, hl⟩
                · have t_249 : (((vF 32) nN)).toInt = 62 := toI_nne c_249 rfl (by decide)
                  refine lv_lload hx hb dX12_workCompare_252 (lv_at hl 2 rfl) ?_
                  refine lv_lload hx hb dX12_workCompare_254 (lv_at hl 1 rfl) ?_
                  refine W.lcmp hx hb dX12_workCompare_256 ?_
                  refine lv_if_le (tgt := 264) hx hb dX12_workCompare_257 (by decide) (fun c_257 => ?_) (fun c_257 => ?_)
                  · have t_257 : (((((vF 49) (9 * (pN - 2)))).toInt64 * (((vF 50) (9 * (pN - 1)))).toInt64)).toInt ≤ (((((vF 49) (9 * (pN - 1)))).toInt64 * (((vF 50) (9 * (pN - 2)))).toInt64)).toInt := toL_le c_257 rfl rfl
                    refine lv_iconst (v := 0) hx hb dX12_workCompare_264 (by decide) ?_
                    refine lv_goto (tgt := 304) hx hb dX12_workCompare_265 (by decide) ?_
                    have hl : lv_has _ _ ([(9, .int ((vF 32) nN)), (7, .long ((((vF 49) (9 * (pN - 1)))).toInt64 * (((vF 50) (9 * (pN - 2)))).toInt64)), (5, .long ((((vF 49) (9 * (pN - 2)))).toInt64 * (((vF 50) (9 * (pN - 1)))).toInt64)), (4, .int (nI (pN - 2))), (3, .int (nI (pN - 1))), (0, .ref h0), (1, .int (nI fN)), (2, .int (nI nN))]) := lv_sub hl [0, 1, 2, 3, 4, 5, 6, 7] rfl
                    exact join1 _ _ _ _ ⟨0, by decide, rfl, hP, hD, hS, hl⟩
                  · have t_257 : ¬ (((((vF 49) (9 * (pN - 2)))).toInt64 * (((vF 50) (9 * (pN - 1)))).toInt64)).toInt ≤ (((((vF 49) (9 * (pN - 1)))).toInt64 * (((vF 50) (9 * (pN - 2)))).toInt64)).toInt := toL_nle c_257 rfl rfl
                    refine lv_iconst (v := 1) hx hb dX12_workCompare_260 (by decide) ?_
                    refine lv_goto (tgt := 304) hx hb dX12_workCompare_261 (by decide) ?_
                    have hl : lv_has _ _ ([(9, .int ((vF 32) nN)), (7, .long ((((vF 49) (9 * (pN - 1)))).toInt64 * (((vF 50) (9 * (pN - 2)))).toInt64)), (5, .long ((((vF 49) (9 * (pN - 2)))).toInt64 * (((vF 50) (9 * (pN - 1)))).toInt64)), (4, .int (nI (pN - 2))), (3, .int (nI (pN - 1))), (0, .ref h0), (1, .int (nI fN)), (2, .int (nI nN))]) := lv_sub hl [0, 1, 2, 3, 4, 5, 6, 7] rfl
                    exact join1 _ _ _ _ ⟨1, by decide, rfl, hP, hD, hS, hl⟩
              · have t_226 : (((vF 32) nN)).toInt = 60 := toI_nne c_226 rfl (by decide)
                refine lv_lload hx hb dX12_workCompare_229 (lv_at hl 2 rfl) ?_
                refine lv_lload hx hb dX12_workCompare_231 (lv_at hl 1 rfl) ?_
                refine W.lcmp hx hb dX12_workCompare_233 ?_
                refine lv_if_ge (tgt := 241) hx hb dX12_workCompare_234 (by decide) (fun c_234 => ?_) (fun c_234 => ?_)
                · have t_234 : (((((vF 49) (9 * (pN - 2)))).toInt64 * (((vF 50) (9 * (pN - 1)))).toInt64)).toInt ≥ (((((vF 49) (9 * (pN - 1)))).toInt64 * (((vF 50) (9 * (pN - 2)))).toInt64)).toInt := toL_ge c_234 rfl rfl
                  refine lv_iconst (v := 0) hx hb dX12_workCompare_241 (by decide) ?_
                  refine lv_goto (tgt := 304) hx hb dX12_workCompare_242 (by decide) ?_
                  have hl : lv_has _ _ ([(9, .int ((vF 32) nN)), (7, .long ((((vF 49) (9 * (pN - 1)))).toInt64 * (((vF 50) (9 * (pN - 2)))).toInt64)), (5, .long ((((vF 49) (9 * (pN - 2)))).toInt64 * (((vF 50) (9 * (pN - 1)))).toInt64)), (4, .int (nI (pN - 2))), (3, .int (nI (pN - 1))), (0, .ref h0), (1, .int (nI fN)), (2, .int (nI nN))]) := lv_sub hl [0, 1, 2, 3, 4, 5, 6, 7] rfl
                  exact join1 _ _ _ _ ⟨0, by decide, rfl, hP, hD, hS, hl⟩
                · have t_234 : ¬ (((((vF 49) (9 * (pN - 2)))).toInt64 * (((vF 50) (9 * (pN - 1)))).toInt64)).toInt ≥ (((((vF 49) (9 * (pN - 1)))).toInt64 * (((vF 50) (9 * (pN - 2)))).toInt64)).toInt := toL_nge c_234 rfl rfl
                  refine lv_iconst (v := 1) hx hb dX12_workCompare_237 (by decide) ?_
                  refine lv_goto (tgt := 304) hx hb dX12_workCompare_238 (by decide) ?_
                  have hl : lv_has _ _ ([(9, .int ((vF 32) nN)), (7, .long ((((vF 49) (9 * (pN - 1)))).toInt64 * (((vF 50) (9 * (pN - 2)))).toInt64)), (5, .long ((((vF 49) (9 * (pN - 2)))).toInt64 * (((vF 50) (9 * (pN - 1)))).toInt64)), (4, .int (nI (pN - 2))), (3, .int (nI (pN - 1))), (0, .ref h0), (1, .int (nI fN)), (2, .int (nI nN))]) := lv_sub hl [0, 1, 2, 3, 4, 5, 6, 7] rfl
                  exact join1 _ _ _ _ ⟨1, by decide, rfl, hP, hD, hS, hl⟩
            · have t_203 : (((vF 32) nN)).toInt = 71 := toI_nne c_203 rfl (by decide)
              refine lv_lload hx hb dX12_workCompare_206 (lv_at hl 2 rfl) ?_
              refine lv_lload hx hb dX12_workCompare_208 (lv_at hl 1 rfl) ?_
              refine W.lcmp hx hb dX12_workCompare_210 ?_
              refine lv_if_lt (tgt := 218) hx hb dX12_workCompare_211 (by decide) (fun c_211 => ?_) (fun c_211 => ?_)
              · have t_211 : (((((vF 49) (9 * (pN - 2)))).toInt64 * (((vF 50) (9 * (pN - 1)))).toInt64)).toInt < (((((vF 49) (9 * (pN - 1)))).toInt64 * (((vF 50) (9 * (pN - 2)))).toInt64)).toInt := toL_lt c_211 rfl rfl
                refine lv_iconst (v := 0) hx hb dX12_workCompare_218 (by decide) ?_
                refine lv_goto (tgt := 304) hx hb dX12_workCompare_219 (by decide) ?_
                have hl : lv_has _ _ ([(9, .int ((vF 32) nN)), (7, .long ((((vF 49) (9 * (pN - 1)))).toInt64 * (((vF 50) (9 * (pN - 2)))).toInt64)), (5, .long ((((vF 49) (9 * (pN - 2)))).toInt64 * (((vF 50) (9 * (pN - 1)))).toInt64)), (4, .int (nI (pN - 2))), (3, .int (nI (pN - 1))), (0, .ref h0), (1, .int (nI fN)), (2, .int (nI nN))]) := lv_sub hl [0, 1, 2, 3, 4, 5, 6, 7] rfl
                exact join1 _ _ _ _ ⟨0, by decide, rfl, hP, hD, hS, hl⟩
              · have t_211 : ¬ (((((vF 49) (9 * (pN - 2)))).toInt64 * (((vF 50) (9 * (pN - 1)))).toInt64)).toInt < (((((vF 49) (9 * (pN - 1)))).toInt64 * (((vF 50) (9 * (pN - 2)))).toInt64)).toInt := toL_nlt c_211 rfl rfl
                refine lv_iconst (v := 1) hx hb dX12_workCompare_214 (by decide) ?_
                refine lv_goto (tgt := 304) hx hb dX12_workCompare_215 (by decide) ?_
                have hl : lv_has _ _ ([(9, .int ((vF 32) nN)), (7, .long ((((vF 49) (9 * (pN - 1)))).toInt64 * (((vF 50) (9 * (pN - 2)))).toInt64)), (5, .long ((((vF 49) (9 * (pN - 2)))).toInt64 * (((vF 50) (9 * (pN - 1)))).toInt64)), (4, .int (nI (pN - 2))), (3, .int (nI (pN - 1))), (0, .ref h0), (1, .int (nI fN)), (2, .int (nI nN))]) := lv_sub hl [0, 1, 2, 3, 4, 5, 6, 7] rfl
                exact join1 _ _ _ _ ⟨1, by decide, rfl, hP, hD, hS, hl⟩
          · have t_180 : (((vF 32) nN)).toInt = 76 := toI_nne c_180 rfl (by decide)
            refine lv_lload hx hb dX12_workCompare_183 (lv_at hl 2 rfl) ?_
            refine lv_lload hx hb dX12_workCompare_185 (lv_at hl 1 rfl) ?_
            refine W.lcmp hx hb dX12_workCompare_187 ?_
            refine lv_if_gt (tgt := 195) hx hb dX12_workCompare_188 (by decide) (fun c_188 => ?_) (fun c_188 => ?_)
            · have t_188 : (((((vF 49) (9 * (pN - 2)))).toInt64 * (((vF 50) (9 * (pN - 1)))).toInt64)).toInt > (((((vF 49) (9 * (pN - 1)))).toInt64 * (((vF 50) (9 * (pN - 2)))).toInt64)).toInt := toL_gt c_188 rfl rfl
              refine lv_iconst (v := 0) hx hb dX12_workCompare_195 (by decide) ?_
              refine lv_goto (tgt := 304) hx hb dX12_workCompare_196 (by decide) ?_
              have hl : lv_has _ _ ([(9, .int ((vF 32) nN)), (7, .long ((((vF 49) (9 * (pN - 1)))).toInt64 * (((vF 50) (9 * (pN - 2)))).toInt64)), (5, .long ((((vF 49) (9 * (pN - 2)))).toInt64 * (((vF 50) (9 * (pN - 1)))).toInt64)), (4, .int (nI (pN - 2))), (3, .int (nI (pN - 1))), (0, .ref h0), (1, .int (nI fN)), (2, .int (nI nN))]) := lv_sub hl [0, 1, 2, 3, 4, 5, 6, 7] rfl
              exact join1 _ _ _ _ ⟨0, by decide, rfl, hP, hD, hS, hl⟩
            · have t_188 : ¬ (((((vF 49) (9 * (pN - 2)))).toInt64 * (((vF 50) (9 * (pN - 1)))).toInt64)).toInt > (((((vF 49) (9 * (pN - 1)))).toInt64 * (((vF 50) (9 * (pN - 2)))).toInt64)).toInt := toL_ngt c_188 rfl rfl
              refine lv_iconst (v := 1) hx hb dX12_workCompare_191 (by decide) ?_
              refine lv_goto (tgt := 304) hx hb dX12_workCompare_192 (by decide) ?_
              have hl : lv_has _ _ ([(9, .int ((vF 32) nN)), (7, .long ((((vF 49) (9 * (pN - 1)))).toInt64 * (((vF 50) (9 * (pN - 2)))).toInt64)), (5, .long ((((vF 49) (9 * (pN - 2)))).toInt64 * (((vF 50) (9 * (pN - 1)))).toInt64)), (4, .int (nI (pN - 2))), (3, .int (nI (pN - 1))), (0, .ref h0), (1, .int (nI fN)), (2, .int (nI nN))]) := lv_sub hl [0, 1, 2, 3, 4, 5, 6, 7] rfl
              exact join1 _ _ _ _ ⟨1, by decide, rfl, hP, hD, hS, hl⟩
        · rintro H locs ls stk ⟨tv, htv, rfl, hP, hD, hS, hl⟩
          refine va_put (D := (dC, dI)) (ci := 12) (v := .int tv) (ty := .boolean) (C := RX12) (T := TX12) (N := 163) (fs := fM (vS a vi vj)) hx hb hts iwsRX12_workCompare_in12 tyX12 tyX12_ok nmX12 hown hK hP hD hS 0 rfl rfl 84 (by decide) (hts (.fieldLink RX12 674 "OptimaWorksModel" "truth" "Z") (by decide +kernel)) (fun _ h9 => h9) rfl (by decide +kernel) (by rcases htv with h9 | h9 <;> (rw [h9]; rfl)) (by rcases htv with h9 | h9 <;> (rw [h9]; rfl)) (Nat.le_of_ble_eq_true rfl) dX12_workCompare_304 (fun H locs hP hD hS => ?_)
          have hP : va_P (dC, dI) vwCl (WR a k h0 (fT vi 84 tv) vj (fT vF 53 (upd (vF 53) ((nI fN)).toNatClampNeg (nI (sN + 1)))) vG) H := by rw [← WR_i 84 _ rfl]; exact hP
          have hD : va_D A (WR a k h0 (fT vi 84 tv) vj (fT vF 53 (upd (vF 53) ((nI fN)).toNatClampNeg (nI (sN + 1)))) vG) := by rw [← WR_i 84 _ rfl]; exact hD
          refine lv_aload_n hx hb dX12_workCompare_307 rfl (lv_at hl 5 rfl) ?_
          refine lv_dup hx hb dX12_workCompare_308 rfl ?_
          refine va_get (D := (dC, dI)) (ci := 12) (v := .int (vi 81)) (C := RX12) (T := TX12) (N := 163) (fs := fM (vS a (fT vi 84 tv) vj)) hx hb hts iwsRX12_workCompare_in12 hown hK hP 0 rfl rfl 81 (by decide) (hts (.fieldLink RX12 659 "OptimaWorksModel" "piled" "I") (by decide +kernel)) (fun _ h9 => h9) rfl dX12_workCompare_309 ?_
          refine lv_topi (fun y21 hy21 => ?_)
          obtain rfl : (nI pN) = y21 := (hy21.trans (hpl)).symm
          refine lv_iconst (v := 2) hx hb dX12_workCompare_312 (by decide) ?_
          refine lv_isub hx hb dX12_workCompare_313 ?_
          refine lv_topi (fun y22 hy22 => ?_)
          obtain rfl : (nI (pN - 2)) = y22 := (hy22.trans (pk_sub (a := pN) (b := 2) (by omega))).symm
          refine va_put (D := (dC, dI)) (ci := 12) (v := .int (nI (pN - 2))) (ty := .int) (C := RX12) (T := TX12) (N := 163) (fs := fM (vS a (fT vi 84 tv) vj)) hx hb hts iwsRX12_workCompare_in12 tyX12 tyX12_ok nmX12 hown hK hP hD hS 0 rfl rfl 81 (by decide) (hts (.fieldLink RX12 659 "OptimaWorksModel" "piled" "I") (by decide +kernel)) (fun _ h9 => h9) rfl (by decide +kernel) rfl rfl (Nat.le_of_ble_eq_true rfl) dX12_workCompare_314 (fun H locs hP hD hS => ?_)
          have hP : va_P (dC, dI) vwCl (WR a k h0 (fT (fT vi 84 tv) 81 (nI (pN - 2))) vj (fT vF 53 (upd (vF 53) ((nI fN)).toNatClampNeg (nI (sN + 1)))) vG) H := by rw [← WR_i 81 _ rfl]; exact hP
          have hD : va_D A (WR a k h0 (fT (fT vi 84 tv) 81 (nI (pN - 2))) vj (fT vF 53 (upd (vF 53) ((nI fN)).toNatClampNeg (nI (sN + 1)))) vG) := by rw [← WR_i 81 _ rfl]; exact hD
          refine lv_aload_n hx hb dX12_workCompare_317 rfl (lv_at hl 5 rfl) ?_
          refine lv_dup hx hb dX12_workCompare_318 rfl ?_
          refine va_get (D := (dC, dI)) (ci := 12) (v := .int (vi 89)) (C := RX12) (T := TX12) (N := 163) (fs := fM (vS a (fT (fT vi 84 tv) 81 (nI (pN - 2))) vj)) hx hb hts iwsRX12_workCompare_in12 hown hK hP 0 rfl rfl 89 (by decide) (hts (.fieldLink RX12 647 "OptimaWorksModel" "framed" "I") (by decide +kernel)) (fun _ h9 => h9) rfl dX12_workCompare_319 ?_
          refine lv_topi (fun y23 hy23 => ?_)
          obtain rfl : (nI fr) = y23 := (hy23.trans (hfr9)).symm
          refine lv_iconst (v := 1) hx hb dX12_workCompare_322 (by decide) ?_
          refine lv_isub hx hb dX12_workCompare_323 ?_
          refine lv_topi (fun y24 hy24 => ?_)
          obtain rfl : (nI (fr - 1)) = y24 := (hy24.trans (pk_sub (a := fr) (b := 1) (by omega))).symm
          refine va_put (D := (dC, dI)) (ci := 12) (v := .int (nI (fr - 1))) (ty := .int) (C := RX12) (T := TX12) (N := 163) (fs := fM (vS a (fT (fT vi 84 tv) 81 (nI (pN - 2))) vj)) hx hb hts iwsRX12_workCompare_in12 tyX12 tyX12_ok nmX12 hown hK hP hD hS 0 rfl rfl 89 (by decide) (hts (.fieldLink RX12 647 "OptimaWorksModel" "framed" "I") (by decide +kernel)) (fun _ h9 => h9) rfl (by decide +kernel) rfl rfl (Nat.le_of_ble_eq_true rfl) dX12_workCompare_324 (fun H locs hP hD hS => ?_)
          have hP : va_P (dC, dI) vwCl (WR a k h0 (fT (fT (fT vi 84 tv) 81 (nI (pN - 2))) 89 (nI (fr - 1))) vj (fT vF 53 (upd (vF 53) ((nI fN)).toNatClampNeg (nI (sN + 1)))) vG) H := by rw [← WR_i 89 _ rfl]; exact hP
          have hD : va_D A (WR a k h0 (fT (fT (fT vi 84 tv) 81 (nI (pN - 2))) 89 (nI (fr - 1))) vj (fT vF 53 (upd (vF 53) ((nI fN)).toNatClampNeg (nI (sN + 1)))) vG) := by rw [← WR_i 89 _ rfl]; exact hD
          refine W.widen (k := 0) (n := 0) (by decide +kernel) (by decide +kernel) ?_
          have e9 : fT (fT (fT (fT (fT vi 21 (vi 21)) 22 (vi 22)) 84 tv) 81 (nI (pN - 2))) 89 (nI (fr - 1)) = fT (fT (fT vi 84 tv) 81 (nI (pN - 2))) 89 (nI (fr - 1)) := by funext q9; by_cases h9_21 : q9 = 21; (subst h9_21; exact ((fT_ne _ _ (Nat.ne_of_beq_eq_false rfl)).trans ((fT_ne _ _ (Nat.ne_of_beq_eq_false rfl)).trans ((fT_ne _ _ (Nat.ne_of_beq_eq_false rfl)).trans ((fT_ne _ _ (Nat.ne_of_beq_eq_false rfl)).trans (fT_eq _ _ _))))).trans (Eq.trans (by first | rfl | assumption | (symm; assumption) | (subst_vars; rfl)) ((fT_ne _ _ (Nat.ne_of_beq_eq_false rfl)).trans ((fT_ne _ _ (Nat.ne_of_beq_eq_false rfl)).trans (fT_ne _ _ (Nat.ne_of_beq_eq_false rfl)))).symm)); by_cases h9_22 : q9 = 22; (subst h9_22; exact ((fT_ne _ _ (Nat.ne_of_beq_eq_false rfl)).trans ((fT_ne _ _ (Nat.ne_of_beq_eq_false rfl)).trans ((fT_ne _ _ (Nat.ne_of_beq_eq_false rfl)).trans (fT_eq _ _ _)))).trans (Eq.trans (by first | rfl | assumption | (symm; assumption) | (subst_vars; rfl)) ((fT_ne _ _ (Nat.ne_of_beq_eq_false rfl)).trans ((fT_ne _ _ (Nat.ne_of_beq_eq_false rfl)).trans (fT_ne _ _ (Nat.ne_of_beq_eq_false rfl)))).symm)); by_cases h9_84 : q9 = 84; (subst h9_84; exact ((fT_ne _ _ (Nat.ne_of_beq_eq_false rfl)).trans ((fT_ne _ _ (Nat.ne_of_beq_eq_false rfl)).trans (fT_eq _ _ _))).trans (Eq.trans (by first | rfl | assumption | (symm; assumption) | (subst_vars; rfl)) ((fT_ne _ _ (Nat.ne_of_beq_eq_false rfl)).trans ((fT_ne _ _ (Nat.ne_of_beq_eq_false rfl)).trans (fT_eq _ _ _))).symm)); by_cases h9_81 : q9 = 81; (subst h9_81; exact ((fT_ne _ _ (Nat.ne_of_beq_eq_false rfl)).trans (fT_eq _ _ _)).trans (Eq.trans (by first | rfl | assumption | (symm; assumption) | (subst_vars; rfl)) ((fT_ne _ _ (Nat.ne_of_beq_eq_false rfl)).trans (fT_eq _ _ _)).symm)); by_cases h9_89 : q9 = 89; (subst h9_89; exact (fT_eq _ _ _).trans (Eq.trans (by first | rfl | assumption | (symm; assumption) | (subst_vars; rfl)) (fT_eq _ _ _).symm)); exact ((fT_ne _ _ h9_89).trans ((fT_ne _ _ h9_81).trans ((fT_ne _ _ h9_84).trans ((fT_ne _ _ h9_22).trans (fT_ne _ _ h9_21))))).trans ((fT_ne _ _ h9_89).trans ((fT_ne _ _ h9_81).trans (fT_ne _ _ h9_84))).symm
          have hP : va_P (dC, dI) vwCl (WR a k h0 (fT (fT (fT (fT (fT vi 21 (vi 21)) 22 (vi 22)) 84 tv) 81 (nI (pN - 2))) 89 (nI (fr - 1))) vj (fT vF 53 (upd (vF 53) ((nI fN)).toNatClampNeg (nI (sN + 1)))) vG) H := by rw [e9]; exact hP
          have hD : va_D A (WR a k h0 (fT (fT (fT (fT (fT vi 21 (vi 21)) 22 (vi 22)) 84 tv) 81 (nI (pN - 2))) 89 (nI (fr - 1))) vj (fT vF 53 (upd (vF 53) ((nI fN)).toNatClampNeg (nI (sN + 1)))) vG) := by rw [e9]; exact hD
          clear e9
          have e9 : fT (fT vF 53 (upd (vF 53) ((nI fN)).toNatClampNeg (nI (sN + 1)))) 52 (vF 52) = fT vF 53 (upd (vF 53) ((nI fN)).toNatClampNeg (nI (sN + 1))) := fT_id _ _ (fT_ne _ _ (Nat.ne_of_beq_eq_false rfl))
          have hP : va_P (dC, dI) vwCl (WR a k h0 (fT (fT (fT (fT (fT vi 21 (vi 21)) 22 (vi 22)) 84 tv) 81 (nI (pN - 2))) 89 (nI (fr - 1))) vj (fT (fT vF 53 (upd (vF 53) ((nI fN)).toNatClampNeg (nI (sN + 1)))) 52 (vF 52)) vG) H := by rw [e9]; exact hP
          have hD : va_D A (WR a k h0 (fT (fT (fT (fT (fT vi 21 (vi 21)) 22 (vi 22)) 84 tv) 81 (nI (pN - 2))) 89 (nI (fr - 1))) vj (fT (fT vF 53 (upd (vF 53) ((nI fN)).toNatClampNeg (nI (sN + 1)))) 52 (vF 52)) vG) := by rw [e9]; exact hD
          clear e9
          exact W.vret hx hb hr (fun t9_ ht hW => ⟨⟨((vF 52), (upd (vF 53) ((nI fN)).toNatClampNeg (nI (sN + 1))), (fr - 1), (pN - 2), (vi 21), (vi 22), tv), rfl, by (try dsimp only); exact ⟨hst0, Or.inl rfl, Or.inr (StpO.pop hfN hfr1 (fun _ _ => rfl) (by rw [if_neg (by omega)]; omega)), by omega, by omega⟩, by rw [ht]; exact hP, hD⟩, hS.F ht⟩) hS.2.2 dX12_workCompare_327
      · have t_104 : ¬ (r101).toInt = 0 := toI_neq c_104 rfl (by decide)
        refine lv_aload_n hx hb dX12_workCompare_107 rfl (lv_at hl 2 rfl) ?_
        refine lv_bipush (v := 7) hx hb dX12_workCompare_108 (by decide) ?_
        refine lv_aload_n hx hb dX12_workCompare_110 rfl (lv_at hl 2 rfl) ?_
        refine va_get (D := (dC, dI)) (ci := 12) (v := .ref (a 35)) (C := RX12) (T := TX12) (N := 163) (fs := fM (vS a vi vj)) hx hb hts iwsRX12_workCompare_in12 hown hK hP 0 rfl rfl 59 (by decide) (hts (.fieldLink RX12 128 "OptimaWorksModel" "firstB" "[I") (by decide +kernel)) (fun _ h9 => h9) rfl dX12_workCompare_111 ?_
        refine lv_iload_n hx hb dX12_workCompare_114 rfl (lv_at hl 4 rfl) ?_
        refine va_iald (cA := k 35) (n := 4200) (f := (vF 35)) hx hb hK hP 36 35 (WR_get 35 (by decide)) (TR_get 35 (by decide)) (vp_in_nI (show nN < 4200 by omega) (by omega)) dX12_workCompare_115 ?_
        refine lv_topi (fun y25 hy25 => ?_)
        obtain rfl : ((vF 35) nN) = y25 := (hy25.trans (by rw [nI_clamp (by omega)])).symm
        have hFc := allFree hD hS hA
        refine va_callv (va_runV (As := [.int 7, .int ((vF 35) nN)]) (rest := []) ⟨hx, hb, hml, hown, hts⟩ (r_X12_faultAt l dC dI a k h0 vi vj (fT vF 53 (upd (vF 53) ((nI fN)).toNatClampNeg (nI (sN + 1)))) vG 7 ((vF 35) nN) (by first | assumption | decide | omega | rfl) H.size) (cwV 2 hts gwsRX12_workCompare_1 rfl rfl rfl hd_yX12_faultAt_RX12 (by decide +kernel)) (fz_pre (va_recv hK hP (ci := 12) (q0 := 0) rfl rfl) hP hK hD) rfl rfl hl.1 rfl (lv_room (Nat.le_of_ble_eq_true rfl)) dX12_workCompare_116 (by decide +kernel)) hS (fun q _ h => hFc q h) hFc (fun u t9_ H locs ht hvm hw9 hB9 hz1 hk1 hS => ?_)
        obtain ⟨s2116, p2116⟩ := u
        try dsimp only at hw9 hB9
        have hP : va_P (dC, dI) vwCl (WR a k h0 (fT (fT vi 21 s2116) 22 p2116) vj (fT vF 53 (upd (vF 53) ((nI fN)).toNatClampNeg (nI (sN + 1)))) vG) H := fz_P ht hB9.1
        have hD : va_D A (WR a k h0 (fT (fT vi 21 s2116) 22 p2116) vj (fT vF 53 (upd (vF 53) ((nI fN)).toNatClampNeg (nI (sN + 1)))) vG) := hB9.2.weaken (fun _ q _ h => hFc q.1 h)
        obtain ⟨f116_0, f116_1⟩ := hw9
        have f116_0 : (0 < (vi 21).toInt ∧ s2116 = (vi 21) ∧ p2116 = (vi 22)) ∨ (¬ 0 < (vi 21).toInt ∧ s2116 = 7 ∧ p2116 = ((vF 35) nN)) := f116_0
        refine lv_aload_n hx hb dX12_workCompare_119 rfl (lv_at hl 2 rfl) ?_
        refine va_get (D := (dC, dI)) (ci := 12) (v := .ref (a 49)) (C := RX12) (T := TX12) (N := 163) (fs := fM (vS a (fT (fT vi 21 s2116) 22 p2116) vj)) hx hb hts iwsRX12_workCompare_in12 hown hK hP 0 rfl rfl 78 (by decide) (hts (.fieldLink RX12 170 "OptimaWorksModel" "top" "[I") (by decide +kernel)) (fun _ h9 => h9) rfl dX12_workCompare_120 ?_
        refine lv_bipush (v := 9) hx hb dX12_workCompare_123 (by decide) ?_
        refine lv_iload hx hb dX12_workCompare_125 (lv_at hl 0 rfl) ?_
        refine lv_imul hx hb dX12_workCompare_127 ?_
        refine lv_topi (fun y26 hy26 => ?_)
        obtain rfl : (nI (9 * (pN - 2))) = y26 := (hy26.trans (pk_mul 9 (pN - 2))).symm
        refine va_iald (cA := k 49) (n := 900) (f := (vF 49)) hx hb hK hP 50 49 (WR_get 49 (by decide)) (TR_get 49 (by decide)) (vp_in_nI (show (9 * (pN - 2)) < 900 by omega) (by omega)) dX12_workCompare_128 ?_
        refine lv_topi (fun y27 hy27 => ?_)
        obtain rfl : ((vF 49) (9 * (pN - 2))) = y27 := (hy27.trans (by rw [nI_clamp (by omega)])).symm
        refine lv_i2l hx hb dX12_workCompare_129 rfl ?_
        refine lv_aload_n hx hb dX12_workCompare_130 rfl (lv_at hl 2 rfl) ?_
        refine va_get (D := (dC, dI)) (ci := 12) (v := .ref (a 50)) (C := RX12) (T := TX12) (N := 163) (fs := fM (vS a (fT (fT vi 21 s2116) 22 p2116) vj)) hx hb hts iwsRX12_workCompare_in12 hown hK hP 0 rfl rfl 79 (by decide) (hts (.fieldLink RX12 173 "OptimaWorksModel" "under" "[I") (by decide +kernel)) (fun _ h9 => h9) rfl dX12_workCompare_131 ?_
        refine lv_bipush (v := 9) hx hb dX12_workCompare_134 (by decide) ?_
        refine lv_iload_n hx hb dX12_workCompare_136 rfl (lv_at hl 1 rfl) ?_
        refine lv_imul hx hb dX12_workCompare_137 ?_
        refine lv_topi (fun y28 hy28 => ?_)
        obtain rfl : (nI (9 * (pN - 1))) = y28 := (hy28.trans (pk_mul 9 (pN - 1))).symm
        refine va_iald (cA := k 50) (n := 900) (f := (vF 50)) hx hb hK hP 51 50 (WR_get 50 (by decide)) (TR_get 50 (by decide)) (vp_in_nI (show (9 * (pN - 1)) < 900 by omega) (by omega)) dX12_workCompare_138 ?_
        refine lv_topi (fun y29 hy29 => ?_)
        obtain rfl : ((vF 50) (9 * (pN - 1))) = y29 := (hy29.trans (by rw [nI_clamp (by omega)])).symm
        refine lv_i2l hx hb dX12_workCompare_139 rfl ?_
        refine lv_lmul hx hb dX12_workCompare_140 ?_
        refine lv_lstore hx hb dX12_workCompare_141 hl (by decide) rfl (fun ls (hl : lv_has ls _ ([(5, .long ((((vF 49) (9 * (pN - 2)))).toInt64 * (((vF 50) (9 * (pN - 1)))).toInt64)), (4, .int (nI (pN - 2))), (3, .int (nI (pN - 1))), (0, .ref h0), (1, .int (nI fN)), (2, .int (nI nN))])) => ?_)
        refine lv_aload_n hx hb dX12_workCompare_143 rfl (lv_at hl 3 rfl) ?_
        refine va_get (D := (dC, dI)) (ci := 12) (v := .ref (a 49)) (C := RX12) (T := TX12) (N := 163) (fs := fM (vS a (fT (fT vi 21 s2116) 22 p2116) vj)) hx hb hts iwsRX12_workCompare_in12 hown hK hP 0 rfl rfl 78 (by decide) (hts (.fieldLink RX12 170 "OptimaWorksModel" "top" "[I") (by decide +kernel)) (fun _ h9 => h9) rfl dX12_workCompare_144 ?_
        refine lv_bipush (v := 9) hx hb dX12_workCompare_147 (by decide) ?_
        refine lv_iload_n hx hb dX12_workCompare_149 rfl (lv_at hl 2 rfl) ?_
        refine lv_imul hx hb dX12_workCompare_150 ?_
        refine lv_topi (fun y30 hy30 => ?_)
        obtain rfl : (nI (9 * (pN - 1))) = y30 := (hy30.trans (pk_mul 9 (pN - 1))).symm
        refine va_iald (cA := k 49) (n := 900) (f := (vF 49)) hx hb hK hP 50 49 (WR_get 49 (by decide)) (TR_get 49 (by decide)) (vp_in_nI (show (9 * (pN - 1)) < 900 by omega) (by omega)) dX12_workCompare_151 ?_
        refine lv_topi (fun y31 hy31 => ?_)
        obtain rfl : ((vF 49) (9 * (pN - 1))) = y31 := (hy31.trans (by rw [nI_clamp (by omega)])).symm
        refine lv_i2l hx hb dX12_workCompare_152 rfl ?_
        refine lv_aload_n hx hb dX12_workCompare_153 rfl (lv_at hl 3 rfl) ?_
        refine va_get (D := (dC, dI)) (ci := 12) (v := .ref (a 50)) (C := RX12) (T := TX12) (N := 163) (fs := fM (vS a (fT (fT vi 21 s2116) 22 p2116) vj)) hx hb hts iwsRX12_workCompare_in12 hown hK hP 0 rfl rfl 79 (by decide) (hts (.fieldLink RX12 173 "OptimaWorksModel" "under" "[I") (by decide +kernel)) (fun _ h9 => h9) rfl dX12_workCompare_154 ?_
        refine lv_bipush (v := 9) hx hb dX12_workCompare_157 (by decide) ?_
        refine lv_iload hx hb dX12_workCompare_159 (lv_at hl 1 rfl) ?_
        refine lv_imul hx hb dX12_workCompare_161 ?_
        refine lv_topi (fun y32 hy32 => ?_)
        obtain rfl : (nI (9 * (pN - 2))) = y32 := (hy32.trans (pk_mul 9 (pN - 2))).symm
        refine va_iald (cA := k 50) (n := 900) (f := (vF 50)) hx hb hK hP 51 50 (WR_get 50 (by decide)) (TR_get 50 (by decide)) (vp_in_nI (show (9 * (pN - 2)) < 900 by omega) (by omega)) dX12_workCompare_162 ?_
        refine lv_topi (fun y33 hy33 => ?_)
        obtain rfl : ((vF 50) (9 * (pN - 2))) = y33 := (hy33.trans (by rw [nI_clamp (by omega)])).symm
        refine lv_i2l hx hb dX12_workCompare_163 rfl ?_
        refine lv_lmul hx hb dX12_workCompare_164 ?_
        refine lv_lstore hx hb dX12_workCompare_165 hl (by decide) rfl (fun ls (hl : lv_has ls _ ([(7, .long ((((vF 49) (9 * (pN - 1)))).toInt64 * (((vF 50) (9 * (pN - 2)))).toInt64)), (5, .long ((((vF 49) (9 * (pN - 2)))).toInt64 * (((vF 50) (9 * (pN - 1)))).toInt64)), (4, .int (nI (pN - 2))), (3, .int (nI (pN - 1))), (0, .ref h0), (1, .int (nI fN)), (2, .int (nI nN))])) => ?_)
        refine lv_aload_n hx hb dX12_workCompare_167 rfl (lv_at hl 4 rfl) ?_
        refine va_get (D := (dC, dI)) (ci := 12) (v := .ref (a 32)) (C := RX12) (T := TX12) (N := 163) (fs := fM (vS a (fT (fT vi 21 s2116) 22 p2116) vj)) hx hb hts iwsRX12_workCompare_in12 hown hK hP 0 rfl rfl 56 (by decide) (hts (.fieldLink RX12 119 "OptimaWorksModel" "partC" "[I") (by decide +kernel)) (fun _ h9 => h9) rfl dX12_workCompare_168 ?_
        refine lv_iload_n hx hb dX12_workCompare_171 rfl (lv_at hl 6 rfl) ?_
        refine va_iald (cA := k 32) (n := 4200) (f := (vF 32)) hx hb hK hP 33 32 (WR_get 32 (by decide)) (TR_get 32 (by decide)) (vp_in_nI (show nN < 4200 by omega) (by omega)) dX12_workCompare_172 ?_
        refine lv_topi (fun y34 hy34 => ?_)
        obtain rfl : ((vF 32) nN) = y34 := (hy34.trans (by rw [nI_clamp (by omega)])).symm
        refine lv_istore hx hb dX12_workCompare_173 hl (by decide) rfl (fun ls (hl : lv_has ls _ ([(9, .int ((vF 32) nN)), (7, .long ((((vF 49) (9 * (pN - 1)))).toInt64 * (((vF 50) (9 * (pN - 2)))).toInt64)), (5, .long ((((vF 49) (9 * (pN - 2)))).toInt64 * (((vF 50) (9 * (pN - 1)))).toInt64)), (4, .int (nI (pN - 2))), (3, .int (nI (pN - 1))), (0, .ref h0), (1, .int (nI fN)), (2, .int (nI nN))])) => ?_)
        refine lv_aload_n hx hb dX12_workCompare_175 rfl (lv_at hl 5 rfl) ?_
        refine lv_iload hx hb dX12_workCompare_176 (lv_at hl 0 rfl) ?_
        refine lv_bipush (v := 76) hx hb dX12_workCompare_178 (by decide) ?_
        refine W.cut (pc := 304) (fun H locs ls stk => ∃ (tv : Int32), (tv = 0 ∨ tv = 1) ∧  stk = [.int tv, .ref h0] ∧ va_P (dC, dI) vwCl (WR a k h0 (fT (fT vi 21 s2116) 22 p2116) vj (fT vF 53 (upd (vF 53) ((nI fN)).toNatClampNeg (nI (sN + 1)))) vG) H ∧ va_D A (WR a k h0 (fT (fT vi 21 s2116) 22 p2116) vj (fT vF 53 (upd (vF 53) ((nI fN)).toNatClampNeg (nI (sN + 1)))) vG) ∧ va_S A s.heap H locs ∧ lv_has ls 10 [(9, .int ((vF 32) nN)), (7, .long ((((vF 49) (9 * (pN - 1)))).toInt64 * (((vF 50) (9 * (pN - 2)))).toInt64)), (5, .long ((((vF 49) (9 * (pN - 2)))).toInt64 * (((vF 50) (9 * (pN - 1)))).toInt64)), (4, .int (nI (pN - 2))), (3, .int (nI (pN - 1))), (0, .ref h0), (1, .int (nI fN)), (2, .int (nI nN))]) (fun join2 => ?_) ?_
        · refine lv_icmp_ne (tgt := 199) hx hb dX12_workCompare_180 (by decide) (fun c_180 => ?_) (fun c_180 => ?_)
          · have t_180 : (((vF 32) nN)).toInt ≠ 76 := toI_ne c_180 rfl (by decide)
            refine lv_iload hx hb dX12_workCompare_199 (lv_at hl 0 rfl) ?_
            refine lv_bipush (v := 71) hx hb dX12_workCompare_201 (by decide) ?_
            refine lv_icmp_ne (tgt := 222) hx hb dX12_workCompare_203 (by decide) (fun c_203 => ?_) (fun c_203 => ?_)
            · have t_203 : (((vF 32) nN)).toInt ≠ 71 := toI_ne c_203 rfl (by decide)
              refine lv_iload hx hb dX12_workCompare_222 (lv_at hl 0 rfl) ?_
              refine lv_bipush (v := 60) hx hb dX12_workCompare_224 (by decide) ?_
              refine lv_icmp_ne (tgt := 245) hx hb dX12_workCompare_226 (by decide) (fun c_226 => ?_) (fun c_226 => ?_)
              · have t_226 : (((vF 32) nN)).toInt ≠ 60 := toI_ne c_226 rfl (by decide)
                refine lv_iload hx hb dX12_workCompare_245 (lv_at hl 0 rfl) ?_
                refine lv_bipush (v := 62) hx hb dX12_workCompare_247 (by decide) ?_
                refine lv_icmp_ne (tgt := 268) hx hb dX12_workCompare_249 (by decide) (fun c_249 => ?_) (fun c_249 => ?_)
                · have t_249 : (((vF 32) nN)).toInt ≠ 62 := toI_ne c_249 rfl (by decide)
                  refine lv_iload hx hb dX12_workCompare_268 (lv_at hl 0 rfl) ?_
                  refine lv_bipush (v := 61) hx hb dX12_workCompare_270 (by decide) ?_
                  refine lv_icmp_ne (tgt := 291) hx hb dX12_workCompare_272 (by decide) (fun c_272 => ?_) (fun c_272 => ?_)
                  · have t_272 : (((vF 32) nN)).toInt ≠ 61 := toI_ne c_272 rfl (by decide)
                    refine lv_lload hx hb dX12_workCompare_291 (lv_at hl 2 rfl) ?_
                    refine lv_lload hx hb dX12_workCompare_293 (lv_at hl 1 rfl) ?_
                    refine W.lcmp hx hb dX12_workCompare_295 ?_
                    refine lv_if_eq (tgt := 303) hx hb dX12_workCompare_296 (by decide) (fun c_296 => ?_) (fun c_296 => ?_)
                    · have t_296 : (((((vF 49) (9 * (pN - 2)))).toInt64 * (((vF 50) (9 * (pN - 1)))).toInt64)).toInt = (((((vF 49) (9 * (pN - 1)))).toInt64 * (((vF 50) (9 * (pN - 2)))).toInt64)).toInt := toL_eq c_296 rfl rfl
                      refine lv_iconst (v := 0) hx hb dX12_workCompare_303 (by decide) ?_
                      have hl : lv_has _ _ ([(9, .int ((vF 32) nN)), (7, .long ((((vF 49) (9 * (pN - 1)))).toInt64 * (((vF 50) (9 * (pN - 2)))).toInt64)), (5, .long ((((vF 49) (9 * (pN - 2)))).toInt64 * (((vF 50) (9 * (pN - 1)))).toInt64)), (4, .int (nI (pN - 2))), (3, .int (nI (pN - 1))), (0, .ref h0), (1, .int (nI fN)), (2, .int (nI nN))]) := lv_sub hl [0, 1, 2, 3, 4, 5, 6, 7] rfl
                      exact join2 _ _ _ _ ⟨0, by decide, rfl, hP, hD, hS, hl⟩
                    · have t_296 : ¬ (((((vF 49) (9 * (pN - 2)))).toInt64 * (((vF 50) (9 * (pN - 1)))).toInt64)).toInt = (((((vF 49) (9 * (pN - 1)))).toInt64 * (((vF 50) (9 * (pN - 2)))).toInt64)).toInt := toL_neq c_296 rfl rfl
                      refine lv_iconst (v := 1) hx hb dX12_workCompare_299 (by decide) ?_
                      refine lv_goto (tgt := 304) hx hb dX12_workCompare_300 (by decide) ?_
                      have hl : lv_has _ _ ([(9, .int ((vF 32) nN)), (7, .long ((((vF 49) (9 * (pN - 1)))).toInt64 * (((vF 50) (9 * (pN - 2)))).toInt64)), (5, .long ((((vF 49) (9 * (pN - 2)))).toInt64 * (((vF 50) (9 * (pN - 1)))).toInt64)), (4, .int (nI (pN - 2))), (3, .int (nI (pN - 1))), (0, .ref h0), (1, .int (nI fN)), (2, .int (nI nN))]) := lv_sub hl [0, 1, 2, 3, 4, 5, 6, 7] rfl
                      exact join2 _ _ _ _ ⟨1, by decide, rfl, hP, hD, hS, hl⟩
                  · have t_272 : (((vF 32) nN)).toInt = 61 := toI_nne c_272 rfl (by decide)
                    refine lv_lload hx hb dX12_workCompare_275 (lv_at hl 2 rfl) ?_
                    refine lv_lload hx hb dX12_workCompare_277 (lv_at hl 1 rfl) ?_
                    refine W.lcmp hx hb dX12_workCompare_279 ?_
                    refine lv_if_ne (tgt := 287) hx hb dX12_workCompare_280 (by decide) (fun c_280 => ?_) (fun c_280 => ?_)
                    · have t_280 : (((((vF 49) (9 * (pN - 2)))).toInt64 * (((vF 50) (9 * (pN - 1)))).toInt64)).toInt ≠ (((((vF 49) (9 * (pN - 1)))).toInt64 * (((vF 50) (9 * (pN - 2)))).toInt64)).toInt := toL_ne c_280 rfl rfl
                      refine lv_iconst (v := 0) hx hb dX12_workCompare_287 (by decide) ?_
                      refine lv_goto (tgt := 304) hx hb dX12_workCompare_288 (by decide) ?_
                      have hl : lv_has _ _ ([(9, .int ((vF 32) nN)), (7, .long ((((vF 49) (9 * (pN - 1)))).toInt64 * (((vF 50) (9 * (pN - 2)))).toInt64)), (5, .long ((((vF 49) (9 * (pN - 2)))).toInt64 * (((vF 50) (9 * (pN - 1)))).toInt64)), (4, .int (nI (pN - 2))), (3, .int (nI (pN - 1))), (0, .ref h0), (1, .int (nI fN)), (2, .int (nI nN))]) := lv_sub hl [0, 1, 2, 3, 4, 5, 6, 7] rfl
                      exact join2 _ _ _ _ ⟨0, by decide, rfl, hP, hD, hS, hl⟩
                    · have t_280 : (((((vF 49) (9 * (pN - 2)))).toInt64 * (((vF 50) (9 * (pN - 1)))).toInt64)).toInt = (((((vF 49) (9 * (pN - 1)))).toInt64 * (((vF 50) (9 * (pN - 2)))).toInt64)).toInt := toL_nne c_280 rfl rfl
                      refine lv_iconst (v := 1) hx hb dX12_workCompare_283 (by decide) ?_
                      refine lv_goto (tgt := 304) hx hb dX12_workCompare_284 (by decide) ?_
                      have hl : lv_has _ _ ([(9, .int ((vF 32) nN)), (7, .long ((((vF 49) (9 * (pN - 1)))).toInt64 * (((vF 50) (9 * (pN - 2)))).toInt64)), (5, .long ((((vF 49) (9 * (pN - 2)))).toInt64 * (((vF 50) (9 * (pN - 1)))).toInt64)), (4, .int (nI (pN - 2))), (3, .int (nI (pN - 1))), (0, .ref h0), (1, .int (nI fN)), (2, .int (nI nN))]) := lv_sub hl [0, 1, 2, 3, 4, 5, 6, 7] rfl
                      exact join2 _ _ _ _ ⟨1, by decide, rfl, hP, hD, hS, hl⟩
                · have t_249 : (((vF 32) nN)).toInt = 62 := toI_nne c_249 rfl (by decide)
                  refine lv_lload hx hb dX12_workCompare_252 (lv_at hl 2 rfl) ?_
                  refine lv_lload hx hb dX12_workCompare_254 (lv_at hl 1 rfl) ?_
                  refine W.lcmp hx hb dX12_workCompare_256 ?_
                  refine lv_if_le (tgt := 264) hx hb dX12_workCompare_257 (by decide) (fun c_257 => ?_) (fun c_257 => ?_)
                  · have t_257 : (((((vF 49) (9 * (pN - 2)))).toInt64 * (((vF 50) (9 * (pN - 1)))).toInt64)).toInt ≤ (((((vF 49) (9 * (pN - 1)))).toInt64 * (((vF 50) (9 * (pN - 2)))).toInt64)).toInt := toL_le c_257 rfl rfl
                    refine lv_iconst (v := 0) hx hb dX12_workCompare_264 (by decide) ?_
                    refine lv_goto (tgt := 304) hx hb dX12_workCompare_265 (by decide) ?_
                    have hl : lv_has _ _ ([(9, .int ((vF 32) nN)), (7, .long ((((vF 49) (9 * (pN - 1)))).toInt64 * (((vF 50) (9 * (pN - 2)))).toInt64)), (5, .long ((((vF 49) (9 * (pN - 2)))).toInt64 * (((vF 50) (9 * (pN - 1)))).toInt64)), (4, .int (nI (pN - 2))), (3, .int (nI (pN - 1))), (0, .ref h0), (1, .int (nI fN)), (2, .int (nI nN))]) := lv_sub hl [0, 1, 2, 3, 4, 5, 6, 7] rfl
                    exact join2 _ _ _ _ ⟨0, by decide, rfl, hP, hD, hS, hl⟩
                  · have t_257 : ¬ (((((vF 49) (9 * (pN - 2)))).toInt64 * (((vF 50) (9 * (pN - 1)))).toInt64)).toInt ≤ (((((vF 49) (9 * (pN - 1)))).toInt64 * (((vF 50) (9 * (pN - 2)))).toInt64)).toInt := toL_nle c_257 rfl rfl
                    refine lv_iconst (v := 1) hx hb dX12_workCompare_260 (by decide) ?_
                    refine lv_goto (tgt := 304) hx hb dX12_workCompare_261 (by decide) ?_
                    have hl : lv_has _ _ ([(9, .int ((vF 32) nN)), (7, .long ((((vF 49) (9 * (pN - 1)))).toInt64 * (((vF 50) (9 * (pN - 2)))).toInt64)), (5, .long ((((vF 49) (9 * (pN - 2)))).toInt64 * (((vF 50) (9 * (pN - 1)))).toInt64)), (4, .int (nI (pN - 2))), (3, .int (nI (pN - 1))), (0, .ref h0), (1, .int (nI fN)), (2, .int (nI nN))]) := lv_sub hl [0, 1, 2, 3, 4, 5, 6, 7] rfl
                    exact join2 _ _ _ _ ⟨1, by decide, rfl, hP, hD, hS, hl⟩
              · have t_226 : (((vF 32) nN)).toInt = 60 := toI_nne c_226 rfl (by decide)
                refine lv_lload hx hb dX12_workCompare_229 (lv_at hl 2 rfl) ?_
                refine lv_lload hx hb dX12_workCompare_231 (lv_at hl 1 rfl) ?_
                refine W.lcmp hx hb dX12_workCompare_233 ?_
                refine lv_if_ge (tgt := 241) hx hb dX12_workCompare_234 (by decide) (fun c_234 => ?_) (fun c_234 => ?_)
                · have t_234 : (((((vF 49) (9 * (pN - 2)))).toInt64 * (((vF 50) (9 * (pN - 1)))).toInt64)).toInt ≥ (((((vF 49) (9 * (pN - 1)))).toInt64 * (((vF 50) (9 * (pN - 2)))).toInt64)).toInt := toL_ge c_234 rfl rfl
                  refine lv_iconst (v := 0) hx hb dX12_workCompare_241 (by decide) ?_
                  refine lv_goto (tgt := 304) hx hb dX12_workCompare_242 (by decide) ?_
                  have hl : lv_has _ _ ([(9, .int ((vF 32) nN)), (7, .long ((((vF 49) (9 * (pN - 1)))).toInt64 * (((vF 50) (9 * (pN - 2)))).toInt64)), (5, .long ((((vF 49) (9 * (pN - 2)))).toInt64 * (((vF 50) (9 * (pN - 1)))).toInt64)), (4, .int (nI (pN - 2))), (3, .int (nI (pN - 1))), (0, .ref h0), (1, .int (nI fN)), (2, .int (nI nN))]) := lv_sub hl [0, 1, 2, 3, 4, 5, 6, 7] rfl
                  exact join2 _ _ _ _ ⟨0, by decide, rfl, hP, hD, hS, hl⟩
                · have t_234 : ¬ (((((vF 49) (9 * (pN - 2)))).toInt64 * (((vF 50) (9 * (pN - 1)))).toInt64)).toInt ≥ (((((vF 49) (9 * (pN - 1)))).toInt64 * (((vF 50) (9 * (pN - 2)))).toInt64)).toInt := toL_nge c_234 rfl rfl
                  refine lv_iconst (v := 1) hx hb dX12_workCompare_237 (by decide) ?_
                  refine lv_goto (tgt := 304) hx hb dX12_workCompare_238 (by decide) ?_
                  have hl : lv_has _ _ ([(9, .int ((vF 32) nN)), (7, .long ((((vF 49) (9 * (pN - 1)))).toInt64 * (((vF 50) (9 * (pN - 2)))).toInt64)), (5, .long ((((vF 49) (9 * (pN - 2)))).toInt64 * (((vF 50) (9 * (pN - 1)))).toInt64)), (4, .int (nI (pN - 2))), (3, .int (nI (pN - 1))), (0, .ref h0), (1, .int (nI fN)), (2, .int (nI nN))]) := lv_sub hl [0, 1, 2, 3, 4, 5, 6, 7] rfl
                  exact join2 _ _ _ _ ⟨1, by decide, rfl, hP, hD, hS, hl⟩
            · have t_203 : (((vF 32) nN)).toInt = 71 := toI_nne c_203 rfl (by decide)
              refine lv_lload hx hb dX12_workCompare_206 (lv_at hl 2 rfl) ?_
              refine lv_lload hx hb dX12_workCompare_208 (lv_at hl 1 rfl) ?_
              refine W.lcmp hx hb dX12_workCompare_210 ?_
              refine lv_if_lt (tgt := 218) hx hb dX12_workCompare_211 (by decide) (fun c_211 => ?_) (fun c_211 => ?_)
              · have t_211 : (((((vF 49) (9 * (pN - 2)))).toInt64 * (((vF 50) (9 * (pN - 1)))).toInt64)).toInt < (((((vF 49) (9 * (pN - 1)))).toInt64 * (((vF 50) (9 * (pN - 2)))).toInt64)).toInt := toL_lt c_211 rfl rfl
                refine lv_iconst (v := 0) hx hb dX12_workCompare_218 (by decide) ?_
                refine lv_goto (tgt := 304) hx hb dX12_workCompare_219 (by decide) ?_
                have hl : lv_has _ _ ([(9, .int ((vF 32) nN)), (7, .long ((((vF 49) (9 * (pN - 1)))).toInt64 * (((vF 50) (9 * (pN - 2)))).toInt64)), (5, .long ((((vF 49) (9 * (pN - 2)))).toInt64 * (((vF 50) (9 * (pN - 1)))).toInt64)), (4, .int (nI (pN - 2))), (3, .int (nI (pN - 1))), (0, .ref h0), (1, .int (nI fN)), (2, .int (nI nN))]) := lv_sub hl [0, 1, 2, 3, 4, 5, 6, 7] rfl
                exact join2 _ _ _ _ ⟨0, by decide, rfl, hP, hD, hS, hl⟩
              · have t_211 : ¬ (((((vF 49) (9 * (pN - 2)))).toInt64 * (((vF 50) (9 * (pN - 1)))).toInt64)).toInt < (((((vF 49) (9 * (pN - 1)))).toInt64 * (((vF 50) (9 * (pN - 2)))).toInt64)).toInt := toL_nlt c_211 rfl rfl
                refine lv_iconst (v := 1) hx hb dX12_workCompare_214 (by decide) ?_
                refine lv_goto (tgt := 304) hx hb dX12_workCompare_215 (by decide) ?_
                have hl : lv_has _ _ ([(9, .int ((vF 32) nN)), (7, .long ((((vF 49) (9 * (pN - 1)))).toInt64 * (((vF 50) (9 * (pN - 2)))).toInt64)), (5, .long ((((vF 49) (9 * (pN - 2)))).toInt64 * (((vF 50) (9 * (pN - 1)))).toInt64)), (4, .int (nI (pN - 2))), (3, .int (nI (pN - 1))), (0, .ref h0), (1, .int (nI fN)), (2, .int (nI nN))]) := lv_sub hl [0, 1, 2, 3, 4, 5, 6, 7] rfl
                exact join2 _ _ _ _ ⟨1, by decide, rfl, hP, hD, hS, hl⟩
          · have t_180 : (((vF 32) nN)).toInt = 76 := toI_nne c_180 rfl (by decide)
            refine lv_lload hx hb dX12_workCompare_183 (lv_at hl 2 rfl) ?_
            refine lv_lload hx hb dX12_workCompare_185 (lv_at hl 1 rfl) ?_
            refine W.lcmp hx hb dX12_workCompare_187 ?_
            refine lv_if_gt (tgt := 195) hx hb dX12_workCompare_188 (by decide) (fun c_188 => ?_) (fun c_188 => ?_)
            · have t_188 : (((((vF 49) (9 * (pN - 2)))).toInt64 * (((vF 50) (9 * (pN - 1)))).toInt64)).toInt > (((((vF 49) (9 * (pN - 1)))).toInt64 * (((vF 50) (9 * (pN - 2)))).toInt64)).toInt := toL_gt c_188 rfl rfl
              refine lv_iconst (v := 0) hx hb dX12_workCompare_195 (by decide) ?_
              refine lv_goto (tgt := 304) hx hb dX12_workCompare_196 (by decide) ?_
              have hl : lv_has _ _ ([(9, .int ((vF 32) nN)), (7, .long ((((vF 49) (9 * (pN - 1)))).toInt64 * (((vF 50) (9 * (pN - 2)))).toInt64)), (5, .long ((((vF 49) (9 * (pN - 2)))).toInt64 * (((vF 50) (9 * (pN - 1)))).toInt64)), (4, .int (nI (pN - 2))), (3, .int (nI (pN - 1))), (0, .ref h0), (1, .int (nI fN)), (2, .int (nI nN))]) := lv_sub hl [0, 1, 2, 3, 4, 5, 6, 7] rfl
              exact join2 _ _ _ _ ⟨0, by decide, rfl, hP, hD, hS, hl⟩
            · have t_188 : ¬ (((((vF 49) (9 * (pN - 2)))).toInt64 * (((vF 50) (9 * (pN - 1)))).toInt64)).toInt > (((((vF 49) (9 * (pN - 1)))).toInt64 * (((vF 50) (9 * (pN - 2)))).toInt64)).toInt := toL_ngt c_188 rfl rfl
              refine lv_iconst (v := 1) hx hb dX12_workCompare_191 (by decide) ?_
              refine lv_goto (tgt := 304) hx hb dX12_workCompare_192 (by decide) ?_
              have hl : lv_has _ _ ([(9, .int ((vF 32) nN)), (7, .long ((((vF 49) (9 * (pN - 1)))).toInt64 * (((vF 50) (9 * (pN - 2)))).toInt64)), (5, .long ((((vF 49) (9 * (pN - 2)))).toInt64 * (((vF 50) (9 * (pN - 1)))).toInt64)), (4, .int (nI (pN - 2))), (3, .int (nI (pN - 1))), (0, .ref h0), (1, .int (nI fN)), (2, .int (nI nN))]) := lv_sub hl [0, 1, 2, 3, 4, 5, 6, 7] rfl
              exact join2 _ _ _ _ ⟨1, by decide, rfl, hP, hD, hS, hl⟩
        · rintro H locs ls stk ⟨tv, htv, rfl, hP, hD, hS, hl⟩
          refine va_put (D := (dC, dI)) (ci := 12) (v := .int tv) (ty := .boolean) (C := RX12) (T := TX12) (N := 163) (fs := fM (vS a (fT (fT vi 21 s2116) 22 p2116) vj)) hx hb hts iwsRX12_workCompare_in12 tyX12 tyX12_ok nmX12 hown hK hP hD hS 0 rfl rfl 84 (by decide) (hts (.fieldLink RX12 674 "OptimaWorksModel" "truth" "Z") (by decide +kernel)) (fun _ h9 => h9) rfl (by decide +kernel) (by rcases htv with h9 | h9 <;> (rw [h9]; rfl)) (by rcases htv with h9 | h9 <;> (rw [h9]; rfl)) (Nat.le_of_ble_eq_true rfl) dX12_workCompare_304 (fun H locs hP hD hS => ?_)
          have hP : va_P (dC, dI) vwCl (WR a k h0 (fT (fT (fT vi 21 s2116) 22 p2116) 84 tv) vj (fT vF 53 (upd (vF 53) ((nI fN)).toNatClampNeg (nI (sN + 1)))) vG) H := by rw [← WR_i 84 _ rfl]; exact hP
          have hD : va_D A (WR a k h0 (fT (fT (fT vi 21 s2116) 22 p2116) 84 tv) vj (fT vF 53 (upd (vF 53) ((nI fN)).toNatClampNeg (nI (sN + 1)))) vG) := by rw [← WR_i 84 _ rfl]; exact hD
          refine lv_aload_n hx hb dX12_workCompare_307 rfl (lv_at hl 5 rfl) ?_
          refine lv_dup hx hb dX12_workCompare_308 rfl ?_
          refine va_get (D := (dC, dI)) (ci := 12) (v := .int (vi 81)) (C := RX12) (T := TX12) (N := 163) (fs := fM (vS a (fT (fT (fT vi 21 s2116) 22 p2116) 84 tv) vj)) hx hb hts iwsRX12_workCompare_in12 hown hK hP 0 rfl rfl 81 (by decide) (hts (.fieldLink RX12 659 "OptimaWorksModel" "piled" "I") (by decide +kernel)) (fun _ h9 => h9) rfl dX12_workCompare_309 ?_
          refine lv_topi (fun y35 hy35 => ?_)
          obtain rfl : (nI pN) = y35 := (hy35.trans (hpl)).symm
          refine lv_iconst (v := 2) hx hb dX12_workCompare_312 (by decide) ?_
          refine lv_isub hx hb dX12_workCompare_313 ?_
          refine lv_topi (fun y36 hy36 => ?_)
          obtain rfl : (nI (pN - 2)) = y36 := (hy36.trans (pk_sub (a := pN) (b := 2) (by omega))).symm
          refine va_put (D := (dC, dI)) (ci := 12) (v := .int (nI (pN - 2))) (ty := .int) (C := RX12) (T := TX12) (N := 163) (fs := fM (vS a (fT (fT (fT vi 21 s2116) 22 p2116) 84 tv) vj)) hx hb hts iwsRX12_workCompare_in12 tyX12 tyX12_ok nmX12 hown hK hP hD hS 0 rfl rfl 81 (by decide) (hts (.fieldLink RX12 659 "OptimaWorksModel" "piled" "I") (by decide +kernel)) (fun _ h9 => h9) rfl (by decide +kernel) rfl rfl (Nat.le_of_ble_eq_true rfl) dX12_workCompare_314 (fun H locs hP hD hS => ?_)
          have hP : va_P (dC, dI) vwCl (WR a k h0 (fT (fT (fT (fT vi 21 s2116) 22 p2116) 84 tv) 81 (nI (pN - 2))) vj (fT vF 53 (upd (vF 53) ((nI fN)).toNatClampNeg (nI (sN + 1)))) vG) H := by rw [← WR_i 81 _ rfl]; exact hP
          have hD : va_D A (WR a k h0 (fT (fT (fT (fT vi 21 s2116) 22 p2116) 84 tv) 81 (nI (pN - 2))) vj (fT vF 53 (upd (vF 53) ((nI fN)).toNatClampNeg (nI (sN + 1)))) vG) := by rw [← WR_i 81 _ rfl]; exact hD
          refine lv_aload_n hx hb dX12_workCompare_317 rfl (lv_at hl 5 rfl) ?_
          refine lv_dup hx hb dX12_workCompare_318 rfl ?_
          refine va_get (D := (dC, dI)) (ci := 12) (v := .int (vi 89)) (C := RX12) (T := TX12) (N := 163) (fs := fM (vS a (fT (fT (fT (fT vi 21 s2116) 22 p2116) 84 tv) 81 (nI (pN - 2))) vj)) hx hb hts iwsRX12_workCompare_in12 hown hK hP 0 rfl rfl 89 (by decide) (hts (.fieldLink RX12 647 "OptimaWorksModel" "framed" "I") (by decide +kernel)) (fun _ h9 => h9) rfl dX12_workCompare_319 ?_
          refine lv_topi (fun y37 hy37 => ?_)
          obtain rfl : (nI fr) = y37 := (hy37.trans (hfr9)).symm
          refine lv_iconst (v := 1) hx hb dX12_workCompare_322 (by decide) ?_
          refine lv_isub hx hb dX12_workCompare_323 ?_
          refine lv_topi (fun y38 hy38 => ?_)
          obtain rfl : (nI (fr - 1)) = y38 := (hy38.trans (pk_sub (a := fr) (b := 1) (by omega))).symm
          refine va_put (D := (dC, dI)) (ci := 12) (v := .int (nI (fr - 1))) (ty := .int) (C := RX12) (T := TX12) (N := 163) (fs := fM (vS a (fT (fT (fT (fT vi 21 s2116) 22 p2116) 84 tv) 81 (nI (pN - 2))) vj)) hx hb hts iwsRX12_workCompare_in12 tyX12 tyX12_ok nmX12 hown hK hP hD hS 0 rfl rfl 89 (by decide) (hts (.fieldLink RX12 647 "OptimaWorksModel" "framed" "I") (by decide +kernel)) (fun _ h9 => h9) rfl (by decide +kernel) rfl rfl (Nat.le_of_ble_eq_true rfl) dX12_workCompare_324 (fun H locs hP hD hS => ?_)
          have hP : va_P (dC, dI) vwCl (WR a k h0 (fT (fT (fT (fT (fT vi 21 s2116) 22 p2116) 84 tv) 81 (nI (pN - 2))) 89 (nI (fr - 1))) vj (fT vF 53 (upd (vF 53) ((nI fN)).toNatClampNeg (nI (sN + 1)))) vG) H := by rw [← WR_i 89 _ rfl]; exact hP
          have hD : va_D A (WR a k h0 (fT (fT (fT (fT (fT vi 21 s2116) 22 p2116) 84 tv) 81 (nI (pN - 2))) 89 (nI (fr - 1))) vj (fT vF 53 (upd (vF 53) ((nI fN)).toNatClampNeg (nI (sN + 1)))) vG) := by rw [← WR_i 89 _ rfl]; exact hD
          refine W.widen (k := 0) (n := 0) (by decide +kernel) (by decide +kernel) ?_
          have e9 : fT (fT vF 53 (upd (vF 53) ((nI fN)).toNatClampNeg (nI (sN + 1)))) 52 (vF 52) = fT vF 53 (upd (vF 53) ((nI fN)).toNatClampNeg (nI (sN + 1))) := fT_id _ _ (fT_ne _ _ (Nat.ne_of_beq_eq_false rfl))
          have hP : va_P (dC, dI) vwCl (WR a k h0 (fT (fT (fT (fT (fT vi 21 s2116) 22 p2116) 84 tv) 81 (nI (pN - 2))) 89 (nI (fr - 1))) vj (fT (fT vF 53 (upd (vF 53) ((nI fN)).toNatClampNeg (nI (sN + 1)))) 52 (vF 52)) vG) H := by rw [e9]; exact hP
          have hD : va_D A (WR a k h0 (fT (fT (fT (fT (fT vi 21 s2116) 22 p2116) 84 tv) 81 (nI (pN - 2))) 89 (nI (fr - 1))) vj (fT (fT vF 53 (upd (vF 53) ((nI fN)).toNatClampNeg (nI (sN + 1)))) 52 (vF 52)) vG) := by rw [e9]; exact hD
          clear e9
          exact W.vret hx hb hr (fun t9_ ht hW => ⟨⟨((vF 52), (upd (vF 53) ((nI fN)).toNatClampNeg (nI (sN + 1))), (fr - 1), (pN - 2), s2116, p2116, tv), rfl, by (try dsimp only); exact ⟨by (have h9 := f116_1); omega, Or.inr f116_1, Or.inr (StpO.pop hfN hfr1 (fun _ _ => rfl) (by rw [if_neg (by omega)]; omega)), by omega, by omega⟩, by rw [ht]; exact hP, hD⟩, hS.F ht⟩) hS.2.2 dX12_workCompare_327
    · have t_40 : (((sN + 1) : Nat) : Int) = 2 := toI_nne c_40 (nI_toInt (by omega)) (by decide)
      refine lv_aload_n hx hb dX12_workCompare_43 rfl (lv_at hl 0 rfl) ?_
      refine lv_aload_n hx hb dX12_workCompare_44 rfl (lv_at hl 0 rfl) ?_
      refine va_get (D := (dC, dI)) (ci := 12) (v := .int (vi 81)) (C := RX12) (T := TX12) (N := 163) (fs := fM (vS a vi vj)) hx hb hts iwsRX12_workCompare_in12 hown hK hP 0 rfl rfl 81 (by decide) (hts (.fieldLink RX12 659 "OptimaWorksModel" "piled" "I") (by decide +kernel)) (fun _ h9 => h9) rfl dX12_workCompare_45 ?_
      refine lv_topi (fun y39 hy39 => ?_)
      obtain rfl : (nI pN) = y39 := (hy39.trans (hpl)).symm
      refine lv_iconst (v := 1) hx hb dX12_workCompare_48 (by decide) ?_
      refine lv_isub hx hb dX12_workCompare_49 ?_
      refine lv_topi (fun y40 hy40 => ?_)
      obtain rfl : (nI (pN - 1)) = y40 := (hy40.trans (pk_sub (a := pN) (b := 1) (by omega))).symm
      have hFc := allFree hD hS hA
      refine va_calli (va_runV (As := [.int (nI (pN - 1))]) (rest := []) ⟨hx, hb, hml, hown, hts⟩ (r_X12_hasVariables l dC dI a k h0 vi vj (fT vF 53 (upd (vF 53) ((nI fN)).toNatClampNeg (nI (sN + 1)))) vG (pN - 1) (by first | assumption | decide | omega | rfl) H.size) (cwV 1 hts gwsRX12_workCompare_0 rfl rfl rfl hd_yX12_hasVariables_RX12 (by decide +kernel)) (fz_pre (va_recv hK hP (ci := 12) (q0 := 0) rfl rfl) hP hK hD) rfl rfl hl.1 rfl (lv_room (Nat.le_of_ble_eq_true rfl)) dX12_workCompare_50 (by decide +kernel)) hS (fun q _ h => hFc q h) hFc (fun r50 u t9_ H locs ht hvm hw9 hB9 hz1 hk1 hS => ?_)
      have hP : va_P (dC, dI) vwCl (WR a k h0 vi vj (fT vF 53 (upd (vF 53) ((nI fN)).toNatClampNeg (nI (sN + 1)))) vG) H := fz_P ht hB9.1
      have hD : va_D A (WR a k h0 vi vj (fT vF 53 (upd (vF 53) ((nI fN)).toNatClampNeg (nI (sN + 1)))) vG) := hB9.2.weaken (fun _ q _ h => hFc q.1 h)
      have f50_0 := hw9
      try dsimp only at f50_0
      have f50_0 : ((r50) = 0 ∧ ∀ q, 1 ≤ q → q < 9 → (vF 49) (9 * (pN - 1) + q) = 0) ∨ ((r50) = 1 ∧ ∃ q, 1 ≤ q ∧ q < 9 ∧ (vF 49) (9 * (pN - 1) + q) ≠ 0) := f50_0
      refine lv_if_eq (tgt := 71) hx hb dX12_workCompare_53 (by decide) (fun c_53 => ?_) (fun c_53 => ?_)
      · have t_53 : (r50).toInt = 0 := toI_eq c_53 rfl (by decide)
        refine lv_aload_n hx hb dX12_workCompare_71 rfl (lv_at hl 0 rfl) ?_
        refine lv_aload_n hx hb dX12_workCompare_72 rfl (lv_at hl 0 rfl) ?_
        refine va_get (D := (dC, dI)) (ci := 12) (v := .ref (a 31)) (C := RX12) (T := TX12) (N := 163) (fs := fM (vS a vi vj)) hx hb hts iwsRX12_workCompare_in12 hown hK hP 0 rfl rfl 55 (by decide) (hts (.fieldLink RX12 116 "OptimaWorksModel" "partB" "[I") (by decide +kernel)) (fun _ h9 => h9) rfl dX12_workCompare_73 ?_
        refine lv_iload_n hx hb dX12_workCompare_76 rfl (lv_at hl 2 rfl) ?_
        refine va_iald (cA := k 31) (n := 4200) (f := (vF 31)) hx hb hK hP 32 31 (WR_get 31 (by decide)) (TR_get 31 (by decide)) (vp_in_nI (show nN < 4200 by omega) (by omega)) dX12_workCompare_77 ?_
        refine lv_topi (fun y41 hy41 => ?_)
        obtain rfl : ((vF 31) nN) = y41 := (hy41.trans (by rw [nI_clamp (by omega)])).symm
        refine lv_topi (fun y42 hy42 => ?_)
        obtain rfl : (nI dN) = y42 := (hy42.trans (hdN)).symm
        have hFc := allFree hD hS hA
        refine va_callv (va_runV (As := [.int (nI dN)]) (rest := []) ⟨hx, hb, hml, hown, hts⟩ (r_X12_call l dC dI a k h0 vi vj (fT vF 53 (upd (vF 53) ((nI fN)).toNatClampNeg (nI (sN + 1)))) vG (nI dN) fr hfr9 (by first | assumption | decide | omega | rfl) H.size) (cwV 1 hts gwsRX12_workCompare_2 rfl rfl rfl hd_yX12_call_RX12 (by decide +kernel)) (fz_pre (va_recv hK hP (ci := 12) (q0 := 0) rfl rfl) hP hK hD) rfl rfl hl.1 rfl (lv_room (Nat.le_of_ble_eq_true rfl)) dX12_workCompare_78 (by decide +kernel)) hS (fun q _ h => hFc q h) hFc (fun u t9_ H locs ht hvm hw9 hB9 hz1 hk1 hS => ?_)
        have hP : va_P (dC, dI) vwCl (WR a k h0 (fT vi 89 (nI (fr + 1))) vj (fT (fT (fT vF 53 (upd (vF 53) ((nI fN)).toNatClampNeg (nI (sN + 1)))) 52 (upd (vF 52) (nI fr).toNatClampNeg (nI dN))) 53 (upd (upd (vF 53) ((nI fN)).toNatClampNeg (nI (sN + 1))) (nI fr).toNatClampNeg 0)) vG) H := fz_P ht hB9.1
        have hD : va_D A (WR a k h0 (fT vi 89 (nI (fr + 1))) vj (fT (fT (fT vF 53 (upd (vF 53) ((nI fN)).toNatClampNeg (nI (sN + 1)))) 52 (upd (vF 52) (nI fr).toNatClampNeg (nI dN))) 53 (upd (upd (vF 53) ((nI fN)).toNatClampNeg (nI (sN + 1))) (nI fr).toNatClampNeg 0)) vG) := hB9.2.weaken (fun _ q _ h => hFc q.1 h)
        have e9 : fT (fT vF 53 (upd (upd (vF 53) ((nI fN)).toNatClampNeg (nI (sN + 1))) (nI fr).toNatClampNeg 0)) 52 (upd (vF 52) (nI fr).toNatClampNeg (nI dN)) = fT (fT (fT vF 53 (upd (vF 53) ((nI fN)).toNatClampNeg (nI (sN + 1)))) 52 (upd (vF 52) (nI fr).toNatClampNeg (nI dN))) 53 (upd (upd (vF 53) ((nI fN)).toNatClampNeg (nI (sN + 1))) (nI fr).toNatClampNeg 0) := ((fT_sw _ _ _ (Nat.ne_of_beq_eq_false rfl)).trans (congrArg (fun g9 => fT g9 52 (upd (vF 52) (nI fr).toNatClampNeg (nI dN))) (fT_sm _ _ _ _))).symm
        rw [← e9] at hP hD
        clear e9
        have hP : va_P (dC, dI) vwCl (WR a k h0 (fT vi 89 (nI (fr + 1))) vj (fT (fT vF 53 (upd (upd (vF 53) ((nI fN)).toNatClampNeg (nI (sN + 1))) (nI fr).toNatClampNeg 0)) 52 (upd (vF 52) (nI fr).toNatClampNeg (nI dN))) vG) H := hP
        have hD : va_D A (WR a k h0 (fT vi 89 (nI (fr + 1))) vj (fT (fT vF 53 (upd (upd (vF 53) ((nI fN)).toNatClampNeg (nI (sN + 1))) (nI fr).toNatClampNeg 0)) 52 (upd (vF 52) (nI fr).toNatClampNeg (nI dN))) vG) := hD
        refine lv_goto (tgt := 327) hx hb dX12_workCompare_81 (by decide) ?_
        refine W.widen (k := 0) (n := 0) (by decide +kernel) (by decide +kernel) ?_
        have e9 : fT (fT (fT (fT (fT vi 21 (vi 21)) 22 (vi 22)) 84 (vi 84)) 81 (nI pN)) 89 (nI (fr + 1)) = fT vi 89 (nI (fr + 1)) := by funext q9; by_cases h9_21 : q9 = 21; (subst h9_21; exact ((fT_ne _ _ (Nat.ne_of_beq_eq_false rfl)).trans ((fT_ne _ _ (Nat.ne_of_beq_eq_false rfl)).trans ((fT_ne _ _ (Nat.ne_of_beq_eq_false rfl)).trans ((fT_ne _ _ (Nat.ne_of_beq_eq_false rfl)).trans (fT_eq _ _ _))))).trans (Eq.trans (by first | rfl | assumption | (symm; assumption) | (subst_vars; rfl)) (fT_ne _ _ (Nat.ne_of_beq_eq_false rfl)).symm)); by_cases h9_22 : q9 = 22; (subst h9_22; exact ((fT_ne _ _ (Nat.ne_of_beq_eq_false rfl)).trans ((fT_ne _ _ (Nat.ne_of_beq_eq_false rfl)).trans ((fT_ne _ _ (Nat.ne_of_beq_eq_false rfl)).trans (fT_eq _ _ _)))).trans (Eq.trans (by first | rfl | assumption | (symm; assumption) | (subst_vars; rfl)) (fT_ne _ _ (Nat.ne_of_beq_eq_false rfl)).symm)); by_cases h9_84 : q9 = 84; (subst h9_84; exact ((fT_ne _ _ (Nat.ne_of_beq_eq_false rfl)).trans ((fT_ne _ _ (Nat.ne_of_beq_eq_false rfl)).trans (fT_eq _ _ _))).trans (Eq.trans (by first | rfl | assumption | (symm; assumption) | (subst_vars; rfl)) (fT_ne _ _ (Nat.ne_of_beq_eq_false rfl)).symm)); by_cases h9_81 : q9 = 81; (subst h9_81; exact ((fT_ne _ _ (Nat.ne_of_beq_eq_false rfl)).trans (fT_eq _ _ _)).trans (Eq.trans (by first | rfl | assumption | (symm; assumption) | (subst_vars; rfl)) (fT_ne _ _ (Nat.ne_of_beq_eq_false rfl)).symm)); by_cases h9_89 : q9 = 89; (subst h9_89; exact (fT_eq _ _ _).trans (Eq.trans (by first | rfl | assumption | (symm; assumption) | (subst_vars; rfl)) (fT_eq _ _ _).symm)); exact ((fT_ne _ _ h9_89).trans ((fT_ne _ _ h9_81).trans ((fT_ne _ _ h9_84).trans ((fT_ne _ _ h9_22).trans (fT_ne _ _ h9_21))))).trans (fT_ne _ _ h9_89).symm
        have hP : va_P (dC, dI) vwCl (WR a k h0 (fT (fT (fT (fT (fT vi 21 (vi 21)) 22 (vi 22)) 84 (vi 84)) 81 (nI pN)) 89 (nI (fr + 1))) vj (fT (fT vF 53 (upd (upd (vF 53) ((nI fN)).toNatClampNeg (nI (sN + 1))) (nI fr).toNatClampNeg 0)) 52 (upd (vF 52) (nI fr).toNatClampNeg (nI dN))) vG) H := by rw [e9]; exact hP
        have hD : va_D A (WR a k h0 (fT (fT (fT (fT (fT vi 21 (vi 21)) 22 (vi 22)) 84 (vi 84)) 81 (nI pN)) 89 (nI (fr + 1))) vj (fT (fT vF 53 (upd (upd (vF 53) ((nI fN)).toNatClampNeg (nI (sN + 1))) (nI fr).toNatClampNeg 0)) 52 (upd (vF 52) (nI fr).toNatClampNeg (nI dN))) vG) := by rw [e9]; exact hD
        clear e9
        exact W.vret hx hb hr (fun t9_ ht hW => ⟨⟨((upd (vF 52) (nI fr).toNatClampNeg (nI dN)), (upd (upd (vF 53) ((nI fN)).toNatClampNeg (nI (sN + 1))) (nI fr).toNatClampNeg 0), (fr + 1), pN, (vi 21), (vi 22), (vi 84)), rfl, by (try dsimp only); exact ⟨hst0, Or.inl rfl, Or.inr (by (obtain rfl : sN = 1 := by omega); (obtain rfl : pN = hN + 1 := by omega); exact StpO.push 2 la 1 hfN hfr1 (fun _ _ => rfl) (fun h9 => absurd h9 (by omega)) hdT.2.1 hdT.2.2.1 (by omega) (WtO.p2 hkk hdT.2.2.2.2 (Nat.le_refl _)) (by omega)), Nat.le_refl _, by omega⟩, by rw [ht]; exact hP, hD⟩, hS.F ht⟩) hS.2.2 dX12_workCompare_327
      · have t_53 : ¬ (r50).toInt = 0 := toI_neq c_53 rfl (by decide)
        refine lv_aload_n hx hb dX12_workCompare_56 rfl (lv_at hl 0 rfl) ?_
        refine lv_bipush (v := 7) hx hb dX12_workCompare_57 (by decide) ?_
        refine lv_aload_n hx hb dX12_workCompare_59 rfl (lv_at hl 0 rfl) ?_
        refine va_get (D := (dC, dI)) (ci := 12) (v := .ref (a 34)) (C := RX12) (T := TX12) (N := 163) (fs := fM (vS a vi vj)) hx hb hts iwsRX12_workCompare_in12 hown hK hP 0 rfl rfl 58 (by decide) (hts (.fieldLink RX12 125 "OptimaWorksModel" "firstA" "[I") (by decide +kernel)) (fun _ h9 => h9) rfl dX12_workCompare_60 ?_
        refine lv_iload_n hx hb dX12_workCompare_63 rfl (lv_at hl 2 rfl) ?_
        refine va_iald (cA := k 34) (n := 4200) (f := (vF 34)) hx hb hK hP 35 34 (WR_get 34 (by decide)) (TR_get 34 (by decide)) (vp_in_nI (show nN < 4200 by omega) (by omega)) dX12_workCompare_64 ?_
        refine lv_topi (fun y43 hy43 => ?_)
        obtain rfl : ((vF 34) nN) = y43 := (hy43.trans (by rw [nI_clamp (by omega)])).symm
        have hFc := allFree hD hS hA
        refine va_callv (va_runV (As := [.int 7, .int ((vF 34) nN)]) (rest := []) ⟨hx, hb, hml, hown, hts⟩ (r_X12_faultAt l dC dI a k h0 vi vj (fT vF 53 (upd (vF 53) ((nI fN)).toNatClampNeg (nI (sN + 1)))) vG 7 ((vF 34) nN) (by first | assumption | decide | omega | rfl) H.size) (cwV 2 hts gwsRX12_workCompare_1 rfl rfl rfl hd_yX12_faultAt_RX12 (by decide +kernel)) (fz_pre (va_recv hK hP (ci := 12) (q0 := 0) rfl rfl) hP hK hD) rfl rfl hl.1 rfl (lv_room (Nat.le_of_ble_eq_true rfl)) dX12_workCompare_65 (by decide +kernel)) hS (fun q _ h => hFc q h) hFc (fun u t9_ H locs ht hvm hw9 hB9 hz1 hk1 hS => ?_)
        obtain ⟨s265, p265⟩ := u
        try dsimp only at hw9 hB9
        have hP : va_P (dC, dI) vwCl (WR a k h0 (fT (fT vi 21 s265) 22 p265) vj (fT vF 53 (upd (vF 53) ((nI fN)).toNatClampNeg (nI (sN + 1)))) vG) H := fz_P ht hB9.1
        have hD : va_D A (WR a k h0 (fT (fT vi 21 s265) 22 p265) vj (fT vF 53 (upd (vF 53) ((nI fN)).toNatClampNeg (nI (sN + 1)))) vG) := hB9.2.weaken (fun _ q _ h => hFc q.1 h)
        obtain ⟨f65_0, f65_1⟩ := hw9
        have f65_0 : (0 < (vi 21).toInt ∧ s265 = (vi 21) ∧ p265 = (vi 22)) ∨ (¬ 0 < (vi 21).toInt ∧ s265 = 7 ∧ p265 = ((vF 34) nN)) := f65_0
        refine lv_goto (tgt := 327) hx hb dX12_workCompare_68 (by decide) ?_
        refine W.widen (k := 0) (n := 0) (by decide +kernel) (by decide +kernel) ?_
        have e9 : fT (fT (fT (fT (fT vi 21 s265) 22 p265) 84 (vi 84)) 81 (nI pN)) 89 (nI fr) = fT (fT vi 21 s265) 22 p265 := by funext q9; by_cases h9_21 : q9 = 21; (subst h9_21; exact ((fT_ne _ _ (Nat.ne_of_beq_eq_false rfl)).trans ((fT_ne _ _ (Nat.ne_of_beq_eq_false rfl)).trans ((fT_ne _ _ (Nat.ne_of_beq_eq_false rfl)).trans ((fT_ne _ _ (Nat.ne_of_beq_eq_false rfl)).trans (fT_eq _ _ _))))).trans (Eq.trans (by first | rfl | assumption | (symm; assumption) | (subst_vars; rfl)) ((fT_ne _ _ (Nat.ne_of_beq_eq_false rfl)).trans (fT_eq _ _ _)).symm)); by_cases h9_22 : q9 = 22; (subst h9_22; exact ((fT_ne _ _ (Nat.ne_of_beq_eq_false rfl)).trans ((fT_ne _ _ (Nat.ne_of_beq_eq_false rfl)).trans ((fT_ne _ _ (Nat.ne_of_beq_eq_false rfl)).trans (fT_eq _ _ _)))).trans (Eq.trans (by first | rfl | assumption | (symm; assumption) | (subst_vars; rfl)) (fT_eq _ _ _).symm)); by_cases h9_84 : q9 = 84; (subst h9_84; exact ((fT_ne _ _ (Nat.ne_of_beq_eq_false rfl)).trans ((fT_ne _ _ (Nat.ne_of_beq_eq_false rfl)).trans (fT_eq _ _ _))).trans (Eq.trans (by first | rfl | assumption | (symm; assumption) | (subst_vars; rfl)) ((fT_ne _ _ (Nat.ne_of_beq_eq_false rfl)).trans (fT_ne _ _ (Nat.ne_of_beq_eq_false rfl))).symm)); by_cases h9_81 : q9 = 81; (subst h9_81; exact ((fT_ne _ _ (Nat.ne_of_beq_eq_false rfl)).trans (fT_eq _ _ _)).trans (Eq.trans (by first | rfl | assumption | (symm; assumption) | (subst_vars; rfl)) ((fT_ne _ _ (Nat.ne_of_beq_eq_false rfl)).trans (fT_ne _ _ (Nat.ne_of_beq_eq_false rfl))).symm)); by_cases h9_89 : q9 = 89; (subst h9_89; exact (fT_eq _ _ _).trans (Eq.trans (by first | rfl | assumption | (symm; assumption) | (subst_vars; rfl)) ((fT_ne _ _ (Nat.ne_of_beq_eq_false rfl)).trans (fT_ne _ _ (Nat.ne_of_beq_eq_false rfl))).symm)); exact ((fT_ne _ _ h9_89).trans ((fT_ne _ _ h9_81).trans ((fT_ne _ _ h9_84).trans ((fT_ne _ _ h9_22).trans (fT_ne _ _ h9_21))))).trans ((fT_ne _ _ h9_22).trans (fT_ne _ _ h9_21)).symm
        have hP : va_P (dC, dI) vwCl (WR a k h0 (fT (fT (fT (fT (fT vi 21 s265) 22 p265) 84 (vi 84)) 81 (nI pN)) 89 (nI fr)) vj (fT vF 53 (upd (vF 53) ((nI fN)).toNatClampNeg (nI (sN + 1)))) vG) H := by rw [e9]; exact hP
        have hD : va_D A (WR a k h0 (fT (fT (fT (fT (fT vi 21 s265) 22 p265) 84 (vi 84)) 81 (nI pN)) 89 (nI fr)) vj (fT vF 53 (upd (vF 53) ((nI fN)).toNatClampNeg (nI (sN + 1)))) vG) := by rw [e9]; exact hD
        clear e9
        have e9 : fT (fT vF 53 (upd (vF 53) ((nI fN)).toNatClampNeg (nI (sN + 1)))) 52 (vF 52) = fT vF 53 (upd (vF 53) ((nI fN)).toNatClampNeg (nI (sN + 1))) := fT_id _ _ (fT_ne _ _ (Nat.ne_of_beq_eq_false rfl))
        have hP : va_P (dC, dI) vwCl (WR a k h0 (fT (fT (fT (fT (fT vi 21 s265) 22 p265) 84 (vi 84)) 81 (nI pN)) 89 (nI fr)) vj (fT (fT vF 53 (upd (vF 53) ((nI fN)).toNatClampNeg (nI (sN + 1)))) 52 (vF 52)) vG) H := by rw [e9]; exact hP
        have hD : va_D A (WR a k h0 (fT (fT (fT (fT (fT vi 21 s265) 22 p265) 84 (vi 84)) 81 (nI pN)) 89 (nI fr)) vj (fT (fT vF 53 (upd (vF 53) ((nI fN)).toNatClampNeg (nI (sN + 1)))) 52 (vF 52)) vG) := by rw [e9]; exact hD
        clear e9
        exact W.vret hx hb hr (fun t9_ ht hW => ⟨⟨((vF 52), (upd (vF 53) ((nI fN)).toNatClampNeg (nI (sN + 1))), fr, pN, s265, p265, (vi 84)), rfl, by (try dsimp only); exact ⟨by (have h9 := f65_1); omega, Or.inr f65_1, Or.inl f65_1, Nat.le_refl _, by omega⟩, by rw [ht]; exact hP, hD⟩, hS.F ht⟩) hS.2.2 dX12_workCompare_327
  · have t_17 : (((sN + 1) : Nat) : Int) = 1 := toI_nne c_17 (nI_toInt (by omega)) (by decide)
    refine lv_aload_n hx hb dX12_workCompare_20 rfl (lv_at hl 0 rfl) ?_
    refine lv_aload_n hx hb dX12_workCompare_21 rfl (lv_at hl 0 rfl) ?_
    refine va_get (D := (dC, dI)) (ci := 12) (v := .ref (a 30)) (C := RX12) (T := TX12) (N := 163) (fs := fM (vS a vi vj)) hx hb hts iwsRX12_workCompare_in12 hown hK hP 0 rfl rfl 54 (by decide) (hts (.fieldLink RX12 113 "OptimaWorksModel" "partA" "[I") (by decide +kernel)) (fun _ h9 => h9) rfl dX12_workCompare_22 ?_
    refine lv_iload_n hx hb dX12_workCompare_25 rfl (lv_at hl 2 rfl) ?_
    refine va_iald (cA := k 30) (n := 4200) (f := (vF 30)) hx hb hK hP 31 30 (WR_get 30 (by decide)) (TR_get 30 (by decide)) (vp_in_nI (show nN < 4200 by omega) (by omega)) dX12_workCompare_26 ?_
    refine lv_topi (fun y44 hy44 => ?_)
    obtain rfl : ((vF 30) nN) = y44 := (hy44.trans (by rw [nI_clamp (by omega)])).symm
    refine lv_topi (fun y45 hy45 => ?_)
    obtain rfl : (nI cN) = y45 := (hy45.trans (hcN)).symm
    have hFc := allFree hD hS hA
    refine va_callv (va_runV (As := [.int (nI cN)]) (rest := []) ⟨hx, hb, hml, hown, hts⟩ (r_X12_call l dC dI a k h0 vi vj (fT vF 53 (upd (vF 53) ((nI fN)).toNatClampNeg (nI (sN + 1)))) vG (nI cN) fr hfr9 (by first | assumption | decide | omega | rfl) H.size) (cwV 1 hts gwsRX12_workCompare_2 rfl rfl rfl hd_yX12_call_RX12 (by decide +kernel)) (fz_pre (va_recv hK hP (ci := 12) (q0 := 0) rfl rfl) hP hK hD) rfl rfl hl.1 rfl (lv_room (Nat.le_of_ble_eq_true rfl)) dX12_workCompare_27 (by decide +kernel)) hS (fun q _ h => hFc q h) hFc (fun u t9_ H locs ht hvm hw9 hB9 hz1 hk1 hS => ?_)
    have hP : va_P (dC, dI) vwCl (WR a k h0 (fT vi 89 (nI (fr + 1))) vj (fT (fT (fT vF 53 (upd (vF 53) ((nI fN)).toNatClampNeg (nI (sN + 1)))) 52 (upd (vF 52) (nI fr).toNatClampNeg (nI cN))) 53 (upd (upd (vF 53) ((nI fN)).toNatClampNeg (nI (sN + 1))) (nI fr).toNatClampNeg 0)) vG) H := fz_P ht hB9.1
    have hD : va_D A (WR a k h0 (fT vi 89 (nI (fr + 1))) vj (fT (fT (fT vF 53 (upd (vF 53) ((nI fN)).toNatClampNeg (nI (sN + 1)))) 52 (upd (vF 52) (nI fr).toNatClampNeg (nI cN))) 53 (upd (upd (vF 53) ((nI fN)).toNatClampNeg (nI (sN + 1))) (nI fr).toNatClampNeg 0)) vG) := hB9.2.weaken (fun _ q _ h => hFc q.1 h)
    have e9 : fT (fT vF 53 (upd (upd (vF 53) ((nI fN)).toNatClampNeg (nI (sN + 1))) (nI fr).toNatClampNeg 0)) 52 (upd (vF 52) (nI fr).toNatClampNeg (nI cN)) = fT (fT (fT vF 53 (upd (vF 53) ((nI fN)).toNatClampNeg (nI (sN + 1)))) 52 (upd (vF 52) (nI fr).toNatClampNeg (nI cN))) 53 (upd (upd (vF 53) ((nI fN)).toNatClampNeg (nI (sN + 1))) (nI fr).toNatClampNeg 0) := ((fT_sw _ _ _ (Nat.ne_of_beq_eq_false rfl)).trans (congrArg (fun g9 => fT g9 52 (upd (vF 52) (nI fr).toNatClampNeg (nI cN))) (fT_sm _ _ _ _))).symm
    rw [← e9] at hP hD
    clear e9
    have hP : va_P (dC, dI) vwCl (WR a k h0 (fT vi 89 (nI (fr + 1))) vj (fT (fT vF 53 (upd (upd (vF 53) ((nI fN)).toNatClampNeg (nI (sN + 1))) (nI fr).toNatClampNeg 0)) 52 (upd (vF 52) (nI fr).toNatClampNeg (nI cN))) vG) H := hP
    have hD : va_D A (WR a k h0 (fT vi 89 (nI (fr + 1))) vj (fT (fT vF 53 (upd (upd (vF 53) ((nI fN)).toNatClampNeg (nI (sN + 1))) (nI fr).toNatClampNeg 0)) 52 (upd (vF 52) (nI fr).toNatClampNeg (nI cN))) vG) := hD
    refine lv_goto (tgt := 327) hx hb dX12_workCompare_30 (by decide) ?_
    refine W.widen (k := 0) (n := 0) (by decide +kernel) (by decide +kernel) ?_
    have e9 : fT (fT (fT (fT (fT vi 21 (vi 21)) 22 (vi 22)) 84 (vi 84)) 81 (nI pN)) 89 (nI (fr + 1)) = fT vi 89 (nI (fr + 1)) := by funext q9; by_cases h9_21 : q9 = 21; (subst h9_21; exact ((fT_ne _ _ (Nat.ne_of_beq_eq_false rfl)).trans ((fT_ne _ _ (Nat.ne_of_beq_eq_false rfl)).trans ((fT_ne _ _ (Nat.ne_of_beq_eq_false rfl)).trans ((fT_ne _ _ (Nat.ne_of_beq_eq_false rfl)).trans (fT_eq _ _ _))))).trans (Eq.trans (by first | rfl | assumption | (symm; assumption) | (subst_vars; rfl)) (fT_ne _ _ (Nat.ne_of_beq_eq_false rfl)).symm)); by_cases h9_22 : q9 = 22; (subst h9_22; exact ((fT_ne _ _ (Nat.ne_of_beq_eq_false rfl)).trans ((fT_ne _ _ (Nat.ne_of_beq_eq_false rfl)).trans ((fT_ne _ _ (Nat.ne_of_beq_eq_false rfl)).trans (fT_eq _ _ _)))).trans (Eq.trans (by first | rfl | assumption | (symm; assumption) | (subst_vars; rfl)) (fT_ne _ _ (Nat.ne_of_beq_eq_false rfl)).symm)); by_cases h9_84 : q9 = 84; (subst h9_84; exact ((fT_ne _ _ (Nat.ne_of_beq_eq_false rfl)).trans ((fT_ne _ _ (Nat.ne_of_beq_eq_false rfl)).trans (fT_eq _ _ _))).trans (Eq.trans (by first | rfl | assumption | (symm; assumption) | (subst_vars; rfl)) (fT_ne _ _ (Nat.ne_of_beq_eq_false rfl)).symm)); by_cases h9_81 : q9 = 81; (subst h9_81; exact ((fT_ne _ _ (Nat.ne_of_beq_eq_false rfl)).trans (fT_eq _ _ _)).trans (Eq.trans (by first | rfl | assumption | (symm; assumption) | (subst_vars; rfl)) (fT_ne _ _ (Nat.ne_of_beq_eq_false rfl)).symm)); by_cases h9_89 : q9 = 89; (subst h9_89; exact (fT_eq _ _ _).trans (Eq.trans (by first | rfl | assumption | (symm; assumption) | (subst_vars; rfl)) (fT_eq _ _ _).symm)); exact ((fT_ne _ _ h9_89).trans ((fT_ne _ _ h9_81).trans ((fT_ne _ _ h9_84).trans ((fT_ne _ _ h9_22).trans (fT_ne _ _ h9_21))))).trans (fT_ne _ _ h9_89).symm
    have hP : va_P (dC, dI) vwCl (WR a k h0 (fT (fT (fT (fT (fT vi 21 (vi 21)) 22 (vi 22)) 84 (vi 84)) 81 (nI pN)) 89 (nI (fr + 1))) vj (fT (fT vF 53 (upd (upd (vF 53) ((nI fN)).toNatClampNeg (nI (sN + 1))) (nI fr).toNatClampNeg 0)) 52 (upd (vF 52) (nI fr).toNatClampNeg (nI cN))) vG) H := by rw [e9]; exact hP
    have hD : va_D A (WR a k h0 (fT (fT (fT (fT (fT vi 21 (vi 21)) 22 (vi 22)) 84 (vi 84)) 81 (nI pN)) 89 (nI (fr + 1))) vj (fT (fT vF 53 (upd (upd (vF 53) ((nI fN)).toNatClampNeg (nI (sN + 1))) (nI fr).toNatClampNeg 0)) 52 (upd (vF 52) (nI fr).toNatClampNeg (nI cN))) vG) := by rw [e9]; exact hD
    clear e9
    exact W.vret hx hb hr (fun t9_ ht hW => ⟨⟨((upd (vF 52) (nI fr).toNatClampNeg (nI cN)), (upd (upd (vF 53) ((nI fN)).toNatClampNeg (nI (sN + 1))) (nI fr).toNatClampNeg 0), (fr + 1), pN, (vi 21), (vi 22), (vi 84)), rfl, by (try dsimp only); exact ⟨hst0, Or.inl rfl, Or.inr (by (obtain rfl : sN = 0 := by omega); (obtain rfl : pN = hN := by omega); exact StpO.push 1 la (wt dN + 2) hfN hfr1 (fun _ _ => rfl) (fun h9 => absurd h9 (by omega)) hcT.2.1 hcT.2.2.1 (by omega) (WtO.p1 hkk hcT.2.2.2.2 hdT (Nat.le_refl _)) (by omega)), Nat.le_refl _, by omega⟩, by rw [ht]; exact hP, hD⟩, hS.F ht⟩) hS.2.2 dX12_workCompare_327

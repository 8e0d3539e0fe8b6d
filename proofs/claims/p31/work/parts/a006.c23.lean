theorem hd_yX12_begin_RX12 : yX12_begin.cls = RX12 ∧ yX12_begin.cls ≠ "java/lang/invoke/MethodHandle" ∧ yX12_begin.cls ≠ "java/lang/invoke/VarHandle" ∧ (parseMethodDescriptor yX12_begin.desc).map (fun d => d.parameters.length) = some 1 := by decide +kernel
theorem hd_yX12_start_RX12 : yX12_start.cls = RX12 ∧ yX12_start.cls ≠ "java/lang/invoke/MethodHandle" ∧ yX12_start.cls ≠ "java/lang/invoke/VarHandle" ∧ (parseMethodDescriptor yX12_start.desc).map (fun d => d.parameters.length) = some 0 := by decide +kernel
theorem hd_yX12_canKeep_RX12 : yX12_canKeep.cls = RX12 ∧ yX12_canKeep.cls ≠ "java/lang/invoke/MethodHandle" ∧ yX12_canKeep.cls ≠ "java/lang/invoke/VarHandle" ∧ (parseMethodDescriptor yX12_canKeep.desc).map (fun d => d.parameters.length) = some 0 := by decide +kernel
theorem hd_yX12_tryIt_RX12 : yX12_tryIt.cls = RX12 ∧ yX12_tryIt.cls ≠ "java/lang/invoke/MethodHandle" ∧ yX12_tryIt.cls ≠ "java/lang/invoke/VarHandle" ∧ (parseMethodDescriptor yX12_tryIt.desc).map (fun d => d.parameters.length) = some 0 := by decide +kernel
theorem hd_yX12_waysOf_RX12 : yX12_waysOf.cls = RX12 ∧ yX12_waysOf.cls ≠ "java/lang/invoke/MethodHandle" ∧ yX12_waysOf.cls ≠ "java/lang/invoke/VarHandle" ∧ (parseMethodDescriptor yX12_waysOf.desc).map (fun d => d.parameters.length) = some 1 := by decide +kernel
theorem dX12_solves_0 : decode cX12_solves 0 = .ok (.aload_n 0, 1) := dk_42 (by decide +kernel)
theorem dX12_solves_1 : decode cX12_solves 1 = .ok (.iload_n 1, 1) := dk_27 (by decide +kernel)
theorem dX12_solves_2 : decode cX12_solves 2 = .ok (.ifCond .ne 7, 3) := dk_154 (by decide +kernel)
theorem dX12_solves_5 : decode cX12_solves 5 = .ok (.iconst 1, 1) := dk_4 (by decide +kernel)
theorem dX12_solves_6 : decode cX12_solves 6 = .ok (.goto 4, 3) := dk_167 (by decide +kernel)
theorem dX12_solves_9 : decode cX12_solves 9 = .ok (.iconst 0, 1) := dk_3 (by decide +kernel)
theorem dX12_solves_10 : decode cX12_solves 10 = .ok (.putfield 829, 3) := dk_181 (by decide +kernel)
theorem dX12_solves_13 : decode cX12_solves 13 = .ok (.aload_n 0, 1) := dk_42 (by decide +kernel)
theorem dX12_solves_14 : decode cX12_solves 14 = .ok (.aload_n 0, 1) := dk_42 (by decide +kernel)
theorem dX12_solves_15 : decode cX12_solves 15 = .ok (.getfield 774, 3) := dk_180 (by decide +kernel)
theorem dX12_solves_18 : decode cX12_solves 18 = .ok (.invokevirtual 835, 3) := dk_182 (by decide +kernel)
theorem dX12_solves_21 : decode cX12_solves 21 = .ok (.iconst 0, 1) := dk_3 (by decide +kernel)
theorem dX12_solves_22 : decode cX12_solves 22 = .ok (.istore_n 3, 1) := dk_62 (by decide +kernel)
theorem dX12_solves_23 : decode cX12_solves 23 = .ok (.iload_n 3, 1) := dk_29 (by decide +kernel)
theorem dX12_solves_24 : decode cX12_solves 24 = .ok (.aload_n 0, 1) := dk_42 (by decide +kernel)
theorem dX12_solves_25 : decode cX12_solves 25 = .ok (.getfield 786, 3) := dk_180 (by decide +kernel)
theorem dX12_solves_28 : decode cX12_solves 28 = .ok (.if_icmp .ge 45, 3) := dk_162 (by decide +kernel)
theorem dX12_solves_31 : decode cX12_solves 31 = .ok (.iload_n 1, 1) := dk_27 (by decide +kernel)
theorem dX12_solves_32 : decode cX12_solves 32 = .ok (.ifCond .eq 13, 3) := dk_153 (by decide +kernel)
theorem dX12_solves_35 : decode cX12_solves 35 = .ok (.aload_n 0, 1) := dk_42 (by decide +kernel)
theorem dX12_solves_36 : decode cX12_solves 36 = .ok (.getfield 200, 3) := dk_180 (by decide +kernel)
theorem dX12_solves_39 : decode cX12_solves 39 = .ok (.iload_n 3, 1) := dk_29 (by decide +kernel)
theorem dX12_solves_40 : decode cX12_solves 40 = .ok (.iaload, 1) := dk_46 (by decide +kernel)
theorem dX12_solves_41 : decode cX12_solves 41 = .ok (.iconst 1, 1) := dk_4 (by decide +kernel)
theorem dX12_solves_42 : decode cX12_solves 42 = .ok (.if_icmp .ne 25, 3) := dk_160 (by decide +kernel)
theorem dX12_solves_45 : decode cX12_solves 45 = .ok (.aload_n 0, 1) := dk_42 (by decide +kernel)
theorem dX12_solves_46 : decode cX12_solves 46 = .ok (.iconst 3, 1) := dk_6 (by decide +kernel)
theorem dX12_solves_47 : decode cX12_solves 47 = .ok (.iload_n 3, 1) := dk_29 (by decide +kernel)
theorem dX12_solves_48 : decode cX12_solves 48 = .ok (.imul, 1) := dk_104 (by decide +kernel)
theorem dX12_solves_49 : decode cX12_solves 49 = .ok (.iload_n 1, 1) := dk_27 (by decide +kernel)
theorem dX12_solves_50 : decode cX12_solves 50 = .ok (.ifCond .eq 7, 3) := dk_153 (by decide +kernel)
theorem dX12_solves_53 : decode cX12_solves 53 = .ok (.iconst 0, 1) := dk_3 (by decide +kernel)
theorem dX12_solves_54 : decode cX12_solves 54 = .ok (.goto 9, 3) := dk_167 (by decide +kernel)
theorem dX12_solves_57 : decode cX12_solves 57 = .ok (.aload_n 0, 1) := dk_42 (by decide +kernel)
theorem dX12_solves_58 : decode cX12_solves 58 = .ok (.getfield 230, 3) := dk_180 (by decide +kernel)
theorem dX12_solves_61 : decode cX12_solves 61 = .ok (.iload_n 3, 1) := dk_29 (by decide +kernel)
theorem dX12_solves_62 : decode cX12_solves 62 = .ok (.iaload, 1) := dk_46 (by decide +kernel)
theorem dX12_solves_63 : decode cX12_solves 63 = .ok (.iadd, 1) := dk_96 (by decide +kernel)
theorem dX12_solves_64 : decode cX12_solves 64 = .ok (.invokevirtual 838, 3) := dk_182 (by decide +kernel)
theorem dX12_solves_67 : decode cX12_solves 67 = .ok (.iinc 3 1, 3) := dk_132 (by decide +kernel)
theorem dX12_solves_70 : decode cX12_solves 70 = .ok (.goto (-47), 3) := dk_167 (by decide +kernel)
theorem dX12_solves_73 : decode cX12_solves 73 = .ok (.iconst 0, 1) := dk_3 (by decide +kernel)
theorem dX12_solves_74 : decode cX12_solves 74 = .ok (.istore_n 3, 1) := dk_62 (by decide +kernel)
theorem dX12_solves_75 : decode cX12_solves 75 = .ok (.iload_n 3, 1) := dk_29 (by decide +kernel)
theorem dX12_solves_76 : decode cX12_solves 76 = .ok (.aload_n 0, 1) := dk_42 (by decide +kernel)
theorem dX12_solves_77 : decode cX12_solves 77 = .ok (.getfield 774, 3) := dk_180 (by decide +kernel)
theorem dX12_solves_80 : decode cX12_solves 80 = .ok (.if_icmp .ge 82, 3) := dk_162 (by decide +kernel)
theorem dX12_solves_83 : decode cX12_solves 83 = .ok (.aload_n 0, 1) := dk_42 (by decide +kernel)
theorem dX12_solves_84 : decode cX12_solves 84 = .ok (.getfield 829, 3) := dk_180 (by decide +kernel)
theorem dX12_solves_87 : decode cX12_solves 87 = .ok (.ifCond .eq 23, 3) := dk_153 (by decide +kernel)
theorem dX12_solves_90 : decode cX12_solves 90 = .ok (.aload_n 0, 1) := dk_42 (by decide +kernel)
theorem dX12_solves_91 : decode cX12_solves 91 = .ok (.getfield 197, 3) := dk_180 (by decide +kernel)
theorem dX12_solves_94 : decode cX12_solves 94 = .ok (.iload_n 3, 1) := dk_29 (by decide +kernel)
theorem dX12_solves_95 : decode cX12_solves 95 = .ok (.iaload, 1) := dk_46 (by decide +kernel)
theorem dX12_solves_96 : decode cX12_solves 96 = .ok (.iconst 1, 1) := dk_4 (by decide +kernel)
theorem dX12_solves_97 : decode cX12_solves 97 = .ok (.if_icmp .ne 13, 3) := dk_160 (by decide +kernel)
theorem dX12_solves_100 : decode cX12_solves 100 = .ok (.aload_n 0, 1) := dk_42 (by decide +kernel)
theorem dX12_solves_101 : decode cX12_solves 101 = .ok (.getfield 29, 3) := dk_180 (by decide +kernel)
theorem dX12_solves_104 : decode cX12_solves 104 = .ok (.iload_n 3, 1) := dk_29 (by decide +kernel)
theorem dX12_solves_105 : decode cX12_solves 105 = .ok (.iconst 1, 1) := dk_4 (by decide +kernel)
theorem dX12_solves_106 : decode cX12_solves 106 = .ok (.bastore, 1) := dk_84 (by decide +kernel)
theorem dX12_solves_107 : decode cX12_solves 107 = .ok (.goto 49, 3) := dk_167 (by decide +kernel)
theorem dX12_solves_110 : decode cX12_solves 110 = .ok (.aload_n 0, 1) := dk_42 (by decide +kernel)
theorem dX12_solves_111 : decode cX12_solves 111 = .ok (.invokevirtual 823, 3) := dk_182 (by decide +kernel)
theorem dX12_solves_114 : decode cX12_solves 114 = .ok (.istore 4, 2) := dk_54 (by decide +kernel)
theorem dX12_solves_116 : decode cX12_solves 116 = .ok (.aload_n 0, 1) := dk_42 (by decide +kernel)
theorem dX12_solves_117 : decode cX12_solves 117 = .ok (.aload_n 0, 1) := dk_42 (by decide +kernel)
theorem dX12_solves_118 : decode cX12_solves 118 = .ok (.iload 4, 2) := dk_21 (by decide +kernel)
theorem dX12_solves_120 : decode cX12_solves 120 = .ok (.iload_n 3, 1) := dk_29 (by decide +kernel)
theorem dX12_solves_121 : decode cX12_solves 121 = .ok (.invokevirtual 405, 3) := dk_182 (by decide +kernel)
theorem dX12_solves_124 : decode cX12_solves 124 = .ok (.lconst 1, 1) := dk_10 (by decide +kernel)
theorem dX12_solves_125 : decode cX12_solves 125 = .ok (.invokevirtual 369, 3) := dk_182 (by decide +kernel)
theorem dX12_solves_128 : decode cX12_solves 128 = .ok (.aload_n 0, 1) := dk_42 (by decide +kernel)
theorem dX12_solves_129 : decode cX12_solves 129 = .ok (.aload_n 0, 1) := dk_42 (by decide +kernel)
theorem dX12_solves_130 : decode cX12_solves 130 = .ok (.iload 4, 2) := dk_21 (by decide +kernel)
theorem dX12_solves_132 : decode cX12_solves 132 = .ok (.aload_n 0, 1) := dk_42 (by decide +kernel)
theorem dX12_solves_133 : decode cX12_solves 133 = .ok (.getfield 396, 3) := dk_180 (by decide +kernel)
theorem dX12_solves_136 : decode cX12_solves 136 = .ok (.invokevirtual 405, 3) := dk_182 (by decide +kernel)
theorem dX12_solves_139 : decode cX12_solves 139 = .ok (.aload_n 0, 1) := dk_42 (by decide +kernel)
theorem dX12_solves_140 : decode cX12_solves 140 = .ok (.getfield 194, 3) := dk_180 (by decide +kernel)
theorem dX12_solves_143 : decode cX12_solves 143 = .ok (.iload_n 3, 1) := dk_29 (by decide +kernel)
theorem dX12_solves_144 : decode cX12_solves 144 = .ok (.iaload, 1) := dk_46 (by decide +kernel)
theorem dX12_solves_145 : decode cX12_solves 145 = .ok (.aload_n 0, 1) := dk_42 (by decide +kernel)
theorem dX12_solves_146 : decode cX12_solves 146 = .ok (.getfield 191, 3) := dk_180 (by decide +kernel)
theorem dX12_solves_149 : decode cX12_solves 149 = .ok (.iload_n 3, 1) := dk_29 (by decide +kernel)
theorem dX12_solves_150 : decode cX12_solves 150 = .ok (.iaload, 1) := dk_46 (by decide +kernel)
theorem dX12_solves_151 : decode cX12_solves 151 = .ok (.isub, 1) := dk_100 (by decide +kernel)
theorem dX12_solves_152 : decode cX12_solves 152 = .ok (.i2l, 1) := dk_133 (by decide +kernel)
theorem dX12_solves_153 : decode cX12_solves 153 = .ok (.invokevirtual 369, 3) := dk_182 (by decide +kernel)
theorem dX12_solves_156 : decode cX12_solves 156 = .ok (.iinc 3 1, 3) := dk_132 (by decide +kernel)
theorem dX12_solves_159 : decode cX12_solves 159 = .ok (.goto (-84), 3) := dk_167 (by decide +kernel)
theorem dX12_solves_162 : decode cX12_solves 162 = .ok (.aload_n 0, 1) := dk_42 (by decide +kernel)
theorem dX12_solves_163 : decode cX12_solves 163 = .ok (.invokevirtual 841, 3) := dk_182 (by decide +kernel)
theorem dX12_solves_166 : decode cX12_solves 166 = .ok (.iconst 0, 1) := dk_3 (by decide +kernel)
theorem dX12_solves_167 : decode cX12_solves 167 = .ok (.istore_n 3, 1) := dk_62 (by decide +kernel)
theorem dX12_solves_168 : decode cX12_solves 168 = .ok (.iload_n 3, 1) := dk_29 (by decide +kernel)
theorem dX12_solves_169 : decode cX12_solves 169 = .ok (.aload_n 0, 1) := dk_42 (by decide +kernel)
theorem dX12_solves_170 : decode cX12_solves 170 = .ok (.getfield 805, 3) := dk_180 (by decide +kernel)
theorem dX12_solves_173 : decode cX12_solves 173 = .ok (.if_icmp .ge 87, 3) := dk_162 (by decide +kernel)
theorem dX12_solves_176 : decode cX12_solves 176 = .ok (.iload_n 2, 1) := dk_28 (by decide +kernel)
theorem dX12_solves_177 : decode cX12_solves 177 = .ok (.ifCond .eq 83, 3) := dk_153 (by decide +kernel)
theorem dX12_solves_180 : decode cX12_solves 180 = .ok (.aload_n 0, 1) := dk_42 (by decide +kernel)
theorem dX12_solves_181 : decode cX12_solves 181 = .ok (.invokevirtual 459, 3) := dk_182 (by decide +kernel)
theorem dX12_solves_184 : decode cX12_solves 184 = .ok (.istore 4, 2) := dk_54 (by decide +kernel)
theorem dX12_solves_186 : decode cX12_solves 186 = .ok (.aload_n 0, 1) := dk_42 (by decide +kernel)
theorem dX12_solves_187 : decode cX12_solves 187 = .ok (.iload_n 3, 1) := dk_29 (by decide +kernel)
theorem dX12_solves_188 : decode cX12_solves 188 = .ok (.invokevirtual 844, 3) := dk_182 (by decide +kernel)
theorem dX12_solves_191 : decode cX12_solves 191 = .ok (.iconst 0, 1) := dk_3 (by decide +kernel)
theorem dX12_solves_192 : decode cX12_solves 192 = .ok (.istore 5, 2) := dk_54 (by decide +kernel)
theorem dX12_solves_194 : decode cX12_solves 194 = .ok (.iload 5, 2) := dk_21 (by decide +kernel)
theorem dX12_solves_196 : decode cX12_solves 196 = .ok (.aload_n 0, 1) := dk_42 (by decide +kernel)
theorem dX12_solves_197 : decode cX12_solves 197 = .ok (.getfield 774, 3) := dk_180 (by decide +kernel)
theorem dX12_solves_200 : decode cX12_solves 200 = .ok (.if_icmp .ge 54, 3) := dk_162 (by decide +kernel)
theorem dX12_solves_203 : decode cX12_solves 203 = .ok (.aload_n 0, 1) := dk_42 (by decide +kernel)
theorem dX12_solves_204 : decode cX12_solves 204 = .ok (.iload_n 3, 1) := dk_29 (by decide +kernel)
theorem dX12_solves_205 : decode cX12_solves 205 = .ok (.iload 5, 2) := dk_21 (by decide +kernel)
theorem dX12_solves_207 : decode cX12_solves 207 = .ok (.iconst 1, 1) := dk_4 (by decide +kernel)
theorem dX12_solves_208 : decode cX12_solves 208 = .ok (.iadd, 1) := dk_96 (by decide +kernel)
theorem dX12_solves_209 : decode cX12_solves 209 = .ok (.invokevirtual 847, 3) := dk_182 (by decide +kernel)
theorem dX12_solves_212 : decode cX12_solves 212 = .ok (.aload_n 0, 1) := dk_42 (by decide +kernel)
theorem dX12_solves_213 : decode cX12_solves 213 = .ok (.aload_n 0, 1) := dk_42 (by decide +kernel)
theorem dX12_solves_214 : decode cX12_solves 214 = .ok (.iload 4, 2) := dk_21 (by decide +kernel)
theorem dX12_solves_216 : decode cX12_solves 216 = .ok (.iload 5, 2) := dk_21 (by decide +kernel)
theorem dX12_solves_218 : decode cX12_solves 218 = .ok (.invokevirtual 405, 3) := dk_182 (by decide +kernel)
theorem dX12_solves_221 : decode cX12_solves 221 = .ok (.bipush 17, 2) := dk_16 (by decide +kernel)
theorem dX12_solves_223 : decode cX12_solves 223 = .ok (.invokevirtual 365, 3) := dk_182 (by decide +kernel)
theorem dX12_solves_226 : decode cX12_solves 226 = .ok (.aload_n 0, 1) := dk_42 (by decide +kernel)
theorem dX12_solves_227 : decode cX12_solves 227 = .ok (.getfield 218, 3) := dk_180 (by decide +kernel)
theorem dX12_solves_230 : decode cX12_solves 230 = .ok (.iload_n 3, 1) := dk_29 (by decide +kernel)
theorem dX12_solves_231 : decode cX12_solves 231 = .ok (.iaload, 1) := dk_46 (by decide +kernel)
theorem dX12_solves_232 : decode cX12_solves 232 = .ok (.iconst 1, 1) := dk_4 (by decide +kernel)
theorem dX12_solves_233 : decode cX12_solves 233 = .ok (.if_icmp .ne 15, 3) := dk_160 (by decide +kernel)
theorem dX12_solves_236 : decode cX12_solves 236 = .ok (.aload_n 0, 1) := dk_42 (by decide +kernel)
theorem dX12_solves_237 : decode cX12_solves 237 = .ok (.aload_n 0, 1) := dk_42 (by decide +kernel)
theorem dX12_solves_238 : decode cX12_solves 238 = .ok (.iload 4, 2) := dk_21 (by decide +kernel)
theorem dX12_solves_240 : decode cX12_solves 240 = .ok (.iload 5, 2) := dk_21 (by decide +kernel)
theorem dX12_solves_242 : decode cX12_solves 242 = .ok (.invokevirtual 405, 3) := dk_182 (by decide +kernel)
theorem dX12_solves_245 : decode cX12_solves 245 = .ok (.invokevirtual 379, 3) := dk_182 (by decide +kernel)
theorem dX12_solves_248 : decode cX12_solves 248 = .ok (.iinc 5 1, 3) := dk_132 (by decide +kernel)
theorem dX12_solves_251 : decode cX12_solves 251 = .ok (.goto (-57), 3) := dk_167 (by decide +kernel)
theorem dX12_solves_254 : decode cX12_solves 254 = .ok (.iinc 3 1, 3) := dk_132 (by decide +kernel)
theorem dX12_solves_257 : decode cX12_solves 257 = .ok (.goto (-89), 3) := dk_167 (by decide +kernel)
theorem dX12_solves_260 : decode cX12_solves 260 = .ok (.iconst 0, 1) := dk_3 (by decide +kernel)
theorem dX12_solves_261 : decode cX12_solves 261 = .ok (.istore_n 3, 1) := dk_62 (by decide +kernel)
theorem dX12_solves_262 : decode cX12_solves 262 = .ok (.iload_n 3, 1) := dk_29 (by decide +kernel)
theorem dX12_solves_263 : decode cX12_solves 263 = .ok (.aload_n 0, 1) := dk_42 (by decide +kernel)
theorem dX12_solves_264 : decode cX12_solves 264 = .ok (.getfield 774, 3) := dk_180 (by decide +kernel)
theorem dX12_solves_267 : decode cX12_solves 267 = .ok (.if_icmp .ge 27, 3) := dk_162 (by decide +kernel)
theorem dX12_solves_270 : decode cX12_solves 270 = .ok (.iload_n 2, 1) := dk_28 (by decide +kernel)
theorem dX12_solves_271 : decode cX12_solves 271 = .ok (.ifCond .eq 23, 3) := dk_153 (by decide +kernel)
theorem dX12_solves_274 : decode cX12_solves 274 = .ok (.aload_n 0, 1) := dk_42 (by decide +kernel)
theorem dX12_solves_275 : decode cX12_solves 275 = .ok (.aload_n 0, 1) := dk_42 (by decide +kernel)
theorem dX12_solves_276 : decode cX12_solves 276 = .ok (.aload_n 0, 1) := dk_42 (by decide +kernel)
theorem dX12_solves_277 : decode cX12_solves 277 = .ok (.invokevirtual 459, 3) := dk_182 (by decide +kernel)
theorem dX12_solves_280 : decode cX12_solves 280 = .ok (.iload_n 3, 1) := dk_29 (by decide +kernel)
theorem dX12_solves_281 : decode cX12_solves 281 = .ok (.invokevirtual 405, 3) := dk_182 (by decide +kernel)
theorem dX12_solves_284 : decode cX12_solves 284 = .ok (.lconst 1, 1) := dk_10 (by decide +kernel)
theorem dX12_solves_285 : decode cX12_solves 285 = .ok (.invokevirtual 369, 3) := dk_182 (by decide +kernel)
theorem dX12_solves_288 : decode cX12_solves 288 = .ok (.iinc 3 1, 3) := dk_132 (by decide +kernel)
theorem dX12_solves_291 : decode cX12_solves 291 = .ok (.goto (-29), 3) := dk_167 (by decide +kernel)
theorem dX12_solves_294 : decode cX12_solves 294 = .ok (.aload_n 0, 1) := dk_42 (by decide +kernel)
theorem dX12_solves_295 : decode cX12_solves 295 = .ok (.invokevirtual 850, 3) := dk_182 (by decide +kernel)
theorem dX12_solves_298 : decode cX12_solves 298 = .ok (.ifCond .ne 10, 3) := dk_154 (by decide +kernel)
theorem dX12_solves_301 : decode cX12_solves 301 = .ok (.aload_n 0, 1) := dk_42 (by decide +kernel)
theorem dX12_solves_302 : decode cX12_solves 302 = .ok (.iconst 0, 1) := dk_3 (by decide +kernel)
theorem dX12_solves_303 : decode cX12_solves 303 = .ok (.putfield 414, 3) := dk_181 (by decide +kernel)
theorem dX12_solves_306 : decode cX12_solves 306 = .ok (.iconst 0, 1) := dk_3 (by decide +kernel)
theorem dX12_solves_307 : decode cX12_solves 307 = .ok (.ireturn, 1) := dk_172 (by decide +kernel)
theorem dX12_solves_308 : decode cX12_solves 308 = .ok (.iload_n 2, 1) := dk_28 (by decide +kernel)
theorem dX12_solves_309 : decode cX12_solves 309 = .ok (.ifCond .eq 15, 3) := dk_153 (by decide +kernel)
theorem dX12_solves_312 : decode cX12_solves 312 = .ok (.aload_n 0, 1) := dk_42 (by decide +kernel)
theorem dX12_solves_313 : decode cX12_solves 313 = .ok (.getfield 805, 3) := dk_180 (by decide +kernel)
theorem dX12_solves_316 : decode cX12_solves 316 = .ok (.aload_n 0, 1) := dk_42 (by decide +kernel)
theorem dX12_solves_317 : decode cX12_solves 317 = .ok (.getfield 774, 3) := dk_180 (by decide +kernel)
theorem dX12_solves_320 : decode cX12_solves 320 = .ok (.iadd, 1) := dk_96 (by decide +kernel)
theorem dX12_solves_321 : decode cX12_solves 321 = .ok (.goto 4, 3) := dk_167 (by decide +kernel)
theorem dX12_solves_324 : decode cX12_solves 324 = .ok (.iconst 0, 1) := dk_3 (by decide +kernel)
theorem dX12_solves_325 : decode cX12_solves 325 = .ok (.istore_n 3, 1) := dk_62 (by decide +kernel)
theorem dX12_solves_326 : decode cX12_solves 326 = .ok (.iconst 1, 1) := dk_4 (by decide +kernel)
theorem dX12_solves_327 : decode cX12_solves 327 = .ok (.istore 4, 2) := dk_54 (by decide +kernel)
theorem dX12_solves_329 : decode cX12_solves 329 = .ok (.iload 4, 2) := dk_21 (by decide +kernel)
theorem dX12_solves_331 : decode cX12_solves 331 = .ok (.iload_n 3, 1) := dk_29 (by decide +kernel)
theorem dX12_solves_332 : decode cX12_solves 332 = .ok (.if_icmp .gt 21, 3) := dk_163 (by decide +kernel)
theorem dX12_solves_335 : decode cX12_solves 335 = .ok (.aload_n 0, 1) := dk_42 (by decide +kernel)
theorem dX12_solves_336 : decode cX12_solves 336 = .ok (.aload_n 0, 1) := dk_42 (by decide +kernel)
theorem dX12_solves_337 : decode cX12_solves 337 = .ok (.getfield 399, 3) := dk_180 (by decide +kernel)
theorem dX12_solves_340 : decode cX12_solves 340 = .ok (.iload 4, 2) := dk_21 (by decide +kernel)
theorem dX12_solves_342 : decode cX12_solves 342 = .ok (.iadd, 1) := dk_96 (by decide +kernel)
theorem dX12_solves_343 : decode cX12_solves 343 = .ok (.invokevirtual 465, 3) := dk_182 (by decide +kernel)
theorem dX12_solves_346 : decode cX12_solves 346 = .ok (.pop, 1) := dk_87 (by decide +kernel)
theorem dX12_solves_347 : decode cX12_solves 347 = .ok (.iinc 4 1, 3) := dk_132 (by decide +kernel)
theorem dX12_solves_350 : decode cX12_solves 350 = .ok (.goto (-21), 3) := dk_167 (by decide +kernel)
theorem dX12_solves_353 : decode cX12_solves 353 = .ok (.aload_n 0, 1) := dk_42 (by decide +kernel)
theorem dX12_solves_354 : decode cX12_solves 354 = .ok (.invokevirtual 440, 3) := dk_182 (by decide +kernel)
theorem dX12_solves_357 : decode cX12_solves 357 = .ok (.iload_n 2, 1) := dk_28 (by decide +kernel)
theorem dX12_solves_358 : decode cX12_solves 358 = .ok (.ifCond .eq 7, 3) := dk_153 (by decide +kernel)
theorem dX12_solves_361 : decode cX12_solves 361 = .ok (.aload_n 0, 1) := dk_42 (by decide +kernel)
theorem dX12_solves_362 : decode cX12_solves 362 = .ok (.invokevirtual 853, 3) := dk_182 (by decide +kernel)
theorem dX12_solves_365 : decode cX12_solves 365 = .ok (.iconst 1, 1) := dk_4 (by decide +kernel)
theorem dX12_solves_366 : decode cX12_solves 366 = .ok (.ireturn, 1) := dk_172 (by decide +kernel)
def wsRX12_solves : List Cond := .code yX12_solves cX12_solves 6 (some .boolean) :: ([.fieldLink RX12 829 "OptimaWorksModel" "fixes" "Z", .fieldLink RX12 774 "OptimaWorksModel" "variables" "I", .fieldLink RX12 786 "OptimaWorksModel" "modelRows" "I", .fieldLink RX12 805 "OptimaWorksModel" "modelGoals" "I", .fieldLink RX12 218 "OptimaWorksModel" "goalMax" "[I", .fieldLink RX12 414 "OptimaWorksModel" "quick" "Z", .fieldLink RX12 399 "OptimaWorksModel" "rows" "I", .fieldLink RX12 197 "OptimaWorksModel" "whole" "[I", .fieldLink RX12 29 "OptimaWorksModel" "still" "[Z", .fieldLink RX12 396 "OptimaWorksModel" "columns" "I", .fieldLink RX12 194 "OptimaWorksModel" "high" "[I", .fieldLink RX12 191 "OptimaWorksModel" "low" "[I", .fieldLink RX12 230 "OptimaWorksModel" "chosen" "[I", .fieldLink RX12 200 "OptimaWorksModel" "wayMany" "[I"] ++ wsX120 ++ (wsV RX12 835 RX12 yX12_begin wsRX12_begin) ++ (wsV RX12 841 RX12 yX12_start wsRX12_start) ++ (wsV RX12 459 RX12 yX12_goalRow wsRX12_goalRow) ++ (wsV RX12 844 RX12 yX12_scaleOf wsRX12_scaleOf) ++ (wsV RX12 847 RX12 yX12_goalNumber wsRX12_goalNumber) ++ (wsV RX12 405 RX12 yX12_at wsRX12_at) ++ (wsV RX12 365 RX12 yX12_copy wsRX12_copy) ++ (wsV RX12 379 RX12 yX12_turn wsRX12_turn) ++ (wsV RX12 369 RX12 yX12_put wsRX12_put) ++ (wsV RX12 850 RX12 yX12_canKeep wsRX12_canKeep) ++ (wsV RX12 440 RX12 yX12_spill wsRX12_spill) ++ (wsV RX12 853 RX12 yX12_tryIt wsRX12_tryIt) ++ (wsV RX12 465 RX12 yX12_raise wsRX12_raise) ++ (wsV RX12 823 RX12 yX12_newLine wsRX12_newLine) ++ (wsV RX12 838 RX12 yX12_waysOf wsRX12_waysOf))
theorem iwsRX12_solves_in12 : ∀ w ∈ wsX120, w ∈ wsRX12_solves := fun _ h => List.mem_cons_of_mem _ (List.mem_append_left _ (List.mem_append_left _ (List.mem_append_left _ (List.mem_append_left _ (List.mem_append_left _ (List.mem_append_left _ (List.mem_append_left _ (List.mem_append_left _ (List.mem_append_left _ (List.mem_append_left _ (List.mem_append_left _ (List.mem_append_left _ (List.mem_append_left _ (List.mem_append_left _ (List.mem_append_left _ (List.mem_append_right _ h))))))))))))))))
theorem gwsRX12_solves_0 : GoodIn wsRX12_solves (wsV RX12 835 RX12 yX12_begin wsRX12_begin) := goodIn_sub (fun _ h => List.mem_cons_of_mem _ (List.mem_append_left _ (List.mem_append_left _ (List.mem_append_left _ (List.mem_append_left _ (List.mem_append_left _ (List.mem_append_left _ (List.mem_append_left _ (List.mem_append_left _ (List.mem_append_left _ (List.mem_append_left _ (List.mem_append_left _ (List.mem_append_left _ (List.mem_append_left _ (List.mem_append_left _ (List.mem_append_right _ h)))))))))))))))) (gdV (by decide +kernel) gdwsRX12_begin)
theorem gwsRX12_solves_1 : GoodIn wsRX12_solves (wsV RX12 841 RX12 yX12_start wsRX12_start) := goodIn_sub (fun _ h => List.mem_cons_of_mem _ (List.mem_append_left _ (List.mem_append_left _ (List.mem_append_left _ (List.mem_append_left _ (List.mem_append_left _ (List.mem_append_left _ (List.mem_append_left _ (List.mem_append_left _ (List.mem_append_left _ (List.mem_append_left _ (List.mem_append_left _ (List.mem_append_left _ (List.mem_append_left _ (List.mem_append_right _ h))))))))))))))) (gdV (by decide +kernel) gdwsRX12_start)
theorem gwsRX12_solves_2 : GoodIn wsRX12_solves (wsV RX12 459 RX12 yX12_goalRow wsRX12_goalRow) := goodIn_sub (fun _ h => List.mem_cons_of_mem _ (List.mem_append_left _ (List.mem_append_left _ (List.mem_append_left _ (List.mem_append_left _ (List.mem_append_left _ (List.mem_append_left _ (List.mem_append_left _ (List.mem_append_left _ (List.mem_append_left _ (List.mem_append_left _ (List.mem_append_left _ (List.mem_append_left _ (List.mem_append_right _ h)))))))))))))) (gdV (by decide +kernel) gdwsRX12_goalRow)
theorem gwsRX12_solves_3 : GoodIn wsRX12_solves (wsV RX12 844 RX12 yX12_scaleOf wsRX12_scaleOf) := goodIn_sub (fun _ h => List.mem_cons_of_mem _ (List.mem_append_left _ (List.mem_append_left _ (List.mem_append_left _ (List.mem_append_left _ (List.mem_append_left _ (List.mem_append_left _ (List.mem_append_left _ (List.mem_append_left _ (List.mem_append_left _ (List.mem_append_left _ (List.mem_append_left _ (List.mem_append_right _ h))))))))))))) (gdV (by decide +kernel) gdwsRX12_scaleOf)
theorem gwsRX12_solves_4 : GoodIn wsRX12_solves (wsV RX12 847 RX12 yX12_goalNumber wsRX12_goalNumber) := goodIn_sub (fun _ h => List.mem_cons_of_mem _ (List.mem_append_left _ (List.mem_append_left _ (List.mem_append_left _ (List.mem_append_left _ (List.mem_append_left _ (List.mem_append_left _ (List.mem_append_left _ (List.mem_append_left _ (List.mem_append_left _ (List.mem_append_left _ (List.mem_append_right _ h)))))))))))) (gdV (by decide +kernel) gdwsRX12_goalNumber)
theorem gwsRX12_solves_5 : GoodIn wsRX12_solves (wsV RX12 405 RX12 yX12_at wsRX12_at) := goodIn_sub (fun _ h => List.mem_cons_of_mem _ (List.mem_append_left _ (List.mem_append_left _ (List.mem_append_left _ (List.mem_append_left _ (List.mem_append_left _ (List.mem_append_left _ (List.mem_append_left _ (List.mem_append_left _ (List.mem_append_left _ (List.mem_append_right _ h))))))))))) (gdV (by decide +kernel) gdwsRX12_at)
theorem gwsRX12_solves_6 : GoodIn wsRX12_solves (wsV RX12 365 RX12 yX12_copy wsRX12_copy) := goodIn_sub (fun _ h => List.mem_cons_of_mem _ (List.mem_append_left _ (List.mem_append_left _ (List.mem_append_left _ (List.mem_append_left _ (List.mem_append_left _ (List.mem_append_left _ (List.mem_append_left _ (List.mem_append_left _ (List.mem_append_right _ h)))))))))) (gdV (by decide +kernel) gdwsRX12_copy)
theorem gwsRX12_solves_7 : GoodIn wsRX12_solves (wsV RX12 379 RX12 yX12_turn wsRX12_turn) := goodIn_sub (fun _ h => List.mem_cons_of_mem _ (List.mem_append_left _ (List.mem_append_left _ (List.mem_append_left _ (List.mem_append_left _ (List.mem_append_left _ (List.mem_append_left _ (List.mem_append_left _ (List.mem_append_right _ h))))))))) (gdV (by decide +kernel) gdwsRX12_turn)
theorem gwsRX12_solves_8 : GoodIn wsRX12_solves (wsV RX12 369 RX12 yX12_put wsRX12_put) := goodIn_sub (fun _ h => List.mem_cons_of_mem _ (List.mem_append_left _ (List.mem_append_left _ (List.mem_append_left _ (List.mem_append_left _ (List.mem_append_left _ (List.mem_append_left _ (List.mem_append_right _ h)))))))) (gdV (by decide +kernel) gdwsRX12_put)
theorem gwsRX12_solves_9 : GoodIn wsRX12_solves (wsV RX12 850 RX12 yX12_canKeep wsRX12_canKeep) := goodIn_sub (fun _ h => List.mem_cons_of_mem _ (List.mem_append_left _ (List.mem_append_left _ (List.mem_append_left _ (List.mem_append_left _ (List.mem_append_left _ (List.mem_append_right _ h))))))) (gdV (by decide +kernel) gdwsRX12_canKeep)
theorem gwsRX12_solves_10 : GoodIn wsRX12_solves (wsV RX12 440 RX12 yX12_spill wsRX12_spill) := goodIn_sub (fun _ h => List.mem_cons_of_mem _ (List.mem_append_left _ (List.mem_append_left _ (List.mem_append_left _ (List.mem_append_left _ (List.mem_append_right _ h)))))) (gdV (by decide +kernel) gdwsRX12_spill)
theorem gwsRX12_solves_11 : GoodIn wsRX12_solves (wsV RX12 853 RX12 yX12_tryIt wsRX12_tryIt) := goodIn_sub (fun _ h => List.mem_cons_of_mem _ (List.mem_append_left _ (List.mem_append_left _ (List.mem_append_left _ (List.mem_append_right _ h))))) (gdV (by decide +kernel) gdwsRX12_tryIt)
theorem gwsRX12_solves_12 : GoodIn wsRX12_solves (wsV RX12 465 RX12 yX12_raise wsRX12_raise) := goodIn_sub (fun _ h => List.mem_cons_of_mem _ (List.mem_append_left _ (List.mem_append_left _ (List.mem_append_right _ h)))) (gdV (by decide +kernel) gdwsRX12_raise)
theorem gwsRX12_solves_13 : GoodIn wsRX12_solves (wsV RX12 823 RX12 yX12_newLine wsRX12_newLine) := goodIn_sub (fun _ h => List.mem_cons_of_mem _ (List.mem_append_left _ (List.mem_append_right _ h))) (gdV (by decide +kernel) gdwsRX12_newLine)
theorem gwsRX12_solves_14 : GoodIn wsRX12_solves (wsV RX12 838 RX12 yX12_waysOf wsRX12_waysOf) := goodIn_sub (fun _ h => List.mem_cons_of_mem _ (List.mem_append_right _ h)) (gdV (by decide +kernel) gdwsRX12_waysOf)
theorem gdwsRX12_solves : wsRX12_solves.all goodWord = true := gdC rfl (gdA (gdA (gdA (gdA (gdA (gdA (gdA (gdA (gdA (gdA (gdA (gdA (gdA (gdA (gdA (gdA (by decide +kernel : ([.fieldLink RX12 829 "OptimaWorksModel" "fixes" "Z", .fieldLink RX12 774 "OptimaWorksModel" "variables" "I", .fieldLink RX12 786 "OptimaWorksModel" "modelRows" "I", .fieldLink RX12 805 "OptimaWorksModel" "modelGoals" "I", .fieldLink RX12 218 "OptimaWorksModel" "goalMax" "[I", .fieldLink RX12 414 "OptimaWorksModel" "quick" "Z", .fieldLink RX12 399 "OptimaWorksModel" "rows" "I", .fieldLink RX12 197 "OptimaWorksModel" "whole" "[I", .fieldLink RX12 29 "OptimaWorksModel" "still" "[Z", .fieldLink RX12 396 "OptimaWorksModel" "columns" "I", .fieldLink RX12 194 "OptimaWorksModel" "high" "[I", .fieldLink RX12 191 "OptimaWorksModel" "low" "[I", .fieldLink RX12 230 "OptimaWorksModel" "chosen" "[I", .fieldLink RX12 200 "OptimaWorksModel" "wayMany" "[I"] : List Cond).all goodWord = true) gdwsX120) (gdV (by decide +kernel) gdwsRX12_begin)) (gdV (by decide +kernel) gdwsRX12_start)) (gdV (by decide +kernel) gdwsRX12_goalRow)) (gdV (by decide +kernel) gdwsRX12_scaleOf)) (gdV (by decide +kernel) gdwsRX12_goalNumber)) (gdV (by decide +kernel) gdwsRX12_at)) (gdV (by decide +kernel) gdwsRX12_copy)) (gdV (by decide +kernel) gdwsRX12_turn)) (gdV (by decide +kernel) gdwsRX12_put)) (gdV (by decide +kernel) gdwsRX12_canKeep)) (gdV (by decide +kernel) gdwsRX12_spill)) (gdV (by decide +kernel) gdwsRX12_tryIt)) (gdV (by decide +kernel) gdwsRX12_raise)) (gdV (by decide +kernel) gdwsRX12_newLine)) (gdV (by decide +kernel) gdwsRX12_waysOf))
set_option maxHeartbeats 4000000 in
set_option maxRecDepth 100000 in
/-- solves(relaxed, all) -/
theorem r_X12_solves (l : Launch) (dC : Nat → ClassId) (dI : Nat → Nat → Nat) (a : Nat → Nat) (k : Nat → ClassId) (h0 : Nat) (vi : Nat → Int32) (vj : Nat → Int64) (vF : Nat → Nat → Int32) (vG : Nat → Nat → Int64) (rx : Int32) (al : Int32) (vn : Nat) (mr : Nat) (gq : Nat) (mg : Nat → Int) (hBg : Bg (vF 0) mg) (hvn : vi 90 = nI vn) (hvn8 : vn ≤ 8) (hmr : vi 91 = nI mr) (hmr12 : mr ≤ 12) (hmg : vi 93 = nI gq) (hgq : gq ≤ 3) (hM : MdlB vF gq) (hch : rx = 0 → ChO (vF 59) (vF 69) mr) (hAn : AnsB mg 1020) (sz : Nat) : Met l yX12_solves wsRX12_solves ({ frames := 6, cells := 0, slots := 0, locals := 157 }) (va_Pc [.ref h0, .int rx, .int al] (fun U => U.heap.size = sz ∧ va_P (dC, dI) vwCl (WR a k h0 vi vj vF vG) U.heap ∧ va_K (dC, dI) vwCl (tX12 k) U ∧ va_D (fun _ => True) (WR a k h0 vi vj vF vG))) (va_Qi (fun (r : Int32) (u : (Nat → Int32) × (Nat → Int32) × (Nat → Int32) × (Nat → Int32) × (Nat → Int32) × (Nat → Int32) × (Nat → Int64) × (Nat → Int64) × (Nat → Int64) × (Int64) × (Int32) × (Int32) × (Int32) × (Int32) × (Nat → Int)) => (Bg (u.1) (u.2.2.2.2.2.2.2.2.2.2.2.2.2.2)) ∧ (AnsB (u.2.2.2.2.2.2.2.2.2.2.2.2.2.2) 1020) ∧ (∀ q, ((1000 ≤ q ∧ q < 1020) ∨ 1036 ≤ q) → (u.2.2.2.2.2.2.2.2.2.2.2.2.2.2) q = mg q) ∧ ((r) = 0 ∨ (r) = 1) ∧ ((r) = 0 ∨ al = 0 ∨ (0 < (u.2.2.2.2.2.2.2.2.2.2.2.2.2.2) 1028 ∧ ∀ g9, g9 < gq → 0 < (u.2.2.2.2.2.2.2.2.2.2.2.2.2.2) (1033 + g9)))) (fun (u : (Nat → Int32) × (Nat → Int32) × (Nat → Int32) × (Nat → Int32) × (Nat → Int32) × (Nat → Int32) × (Nat → Int64) × (Nat → Int64) × (Nat → Int64) × (Int64) × (Int32) × (Int32) × (Int32) × (Int32) × (Nat → Int)) t => va_P (dC, dI) vwCl (WR a k h0 (fT (fT (fT (fT (fT vi 116 (u.2.2.2.2.2.2.2.2.2.2.1)) 5 (u.2.2.2.2.2.2.2.2.2.2.2.1)) 6 (u.2.2.2.2.2.2.2.2.2.2.2.2.1)) 7 (u.2.2.2.2.2.2.2.2.2.2.2.2.2.1)) 11 0) (fT vj 12 (u.2.2.2.2.2.2.2.2.2.1)) (fT (fT (fT (fT (fT (fT vF 0 (u.1)) 4 (u.2.2.2.1)) 6 (u.2.2.2.2.2.1)) 5 (u.2.2.2.2.1)) 2 (u.2.1)) 3 (u.2.2.1)) (fT (fT (fT vG 1 (u.2.2.2.2.2.2.1)) 7 (u.2.2.2.2.2.2.2.1)) 8 (u.2.2.2.2.2.2.2.2.1))) t.heap ∧ va_D (va_A (WR a k h0 vi vj vF vG) sz) (WR a k h0 (fT (fT (fT (fT (fT vi 116 (u.2.2.2.2.2.2.2.2.2.2.1)) 5 (u.2.2.2.2.2.2.2.2.2.2.2.1)) 6 (u.2.2.2.2.2.2.2.2.2.2.2.2.1)) 7 (u.2.2.2.2.2.2.2.2.2.2.2.2.2.1)) 11 0) (fT vj 12 (u.2.2.2.2.2.2.2.2.2.1)) (fT (fT (fT (fT (fT (fT vF 0 (u.1)) 4 (u.2.2.2.1)) 6 (u.2.2.2.2.2.1)) 5 (u.2.2.2.2.1)) 2 (u.2.1)) 3 (u.2.2.1)) (fT (fT (fT vG 1 (u.2.2.2.2.2.2.1)) 7 (u.2.2.2.2.2.2.2.1)) 8 (u.2.2.2.2.2.2.2.2.1)))) (va_A (WR a k h0 vi vj vF vG) sz)) 0 0 (va_A (WR a k h0 vi vj vF vG) sz) := by
  refine Met.ofW (cc := cX12_solves) (maxL := 6) (ret := (some .boolean)) (by decide) rfl ?_
  intro p e s m args below meth c s₁ B hml hv
  obtain ⟨rfl, hsz, hP, hK, hD0⟩ := hv
  have hx := B.exec
  have hb := B.bytes
  have hr := B.returns
  have hts := atoms_spec (ws := wsRX12_solves) B.pre
  have hown : s.vm.findClass RX12 = some m.cls := findClass_of_methodNamed B.named
  have hlocks := B.notSynchronized
  subst hsz
  have hD := hD0.self (sz := s.heap.size)
  generalize hAe : va_A (WR a k h0 vi vj vF vG) s.heap.size = A at hD ⊢
  have hA : ∀ q : Nat, s.heap.size ≤ q → A q := fun q h => by rw [← hAe]; exact Or.inr h
  have hS : va_S A s.heap s.heap [] := va_S.rf
  have hl := lv_entry ([.ref h0, .int rx, .int al]) (n := 6) (Nat.le_of_ble_eq_true rfl)
  rw [lg_entry_eq]
  generalize (lg_sl ([.ref h0, .int rx, .int al]) ++ List.replicate (6 - (lg_sl ([.ref h0, .int rx, .int al])).length) Slot.unset).toArray = ls at hl ⊢
  have hl : lv_has ls 6 [(0, .ref h0), (1, .int rx), (2, .int al)] := hl
  have z9 := nI_0
  refine lv_aload_n hx hb dX12_solves_0 rfl (lv_at hl 0 rfl) ?_
  refine lv_iload_n hx hb dX12_solves_1 rfl (lv_at hl 1 rfl) ?_
  refine W.cut (pc := 13) (fun H locs ls stk => ∃ (fx : Int32),  stk = [] ∧ va_P (dC, dI) vwCl (WR a k h0 (fT vi 116 fx) vj vF vG) H ∧ va_D A (WR a k h0 (fT vi 116 fx) vj vF vG) ∧ va_S A s.heap H locs ∧ lv_has ls 6 [(0, .ref h0), (1, .int rx), (2, .int al)]) (fun join1 => ?_) ?_
  · refine lv_if_ne (tgt := 9) hx hb dX12_solves_2 (by decide) (fun c_2 => ?_) (fun c_2 => ?_)
    · have t_2 : (rx).toInt ≠ 0 := toI_ne c_2 rfl (by decide)
      refine lv_iconst (v := 0) hx hb dX12_solves_9 (by decide) ?_
      refine va_put (D := (dC, dI)) (ci := 12) (v := .int 0) (ty := .boolean) (C := RX12) (T := TX12) (N := 163) (fs := fM (vS a vi vj)) hx hb hts iwsRX12_solves_in12 tyX12 tyX12_ok nmX12 hown hK hP hD hS 0 rfl rfl 116 (by decide) (hts (.fieldLink RX12 829 "OptimaWorksModel" "fixes" "Z") (by decide +kernel)) (fun _ h9 => h9) rfl (by decide +kernel) rfl rfl (Nat.le_of_ble_eq_true rfl) dX12_solves_10 (fun H locs hP hD hS => ?_)
      have hP : va_P (dC, dI) vwCl (WR a k h0 (fT vi 116 0) vj vF vG) H := by rw [← WR_i 116 _ rfl]; exact hP
      have hD : va_D A (WR a k h0 (fT vi 116 0) vj vF vG) := by rw [← WR_i 116 _ rfl]; exact hD
      have hl : lv_has _ _ ([(0, .ref h0), (1, .int rx), (2, .int al)]) := lv_sub hl [0, 1, 2] rfl
      exact join1 _ _ _ _ ⟨0, rfl, hP, hD, hS, hl⟩
    · have t_2 : (rx).toInt = 0 := toI_nne c_2 rfl (by decide)
      refine lv_iconst (v := 1) hx hb dX12_solves_5 (by decide) ?_
      refine lv_goto (tgt := 10) hx hb dX12_solves_6 (by decide) ?_
      refine va_put (D := (dC, dI)) (ci := 12) (v := .int 1) (ty := .boolean) (C := RX12) (T := TX12) (N := 163) (fs := fM (vS a vi vj)) hx hb hts iwsRX12_solves_in12 tyX12 tyX12_ok nmX12 hown hK hP hD hS 0 rfl rfl 116 (by decide) (hts (.fieldLink RX12 829 "OptimaWorksModel" "fixes" "Z") (by decide +kernel)) (fun _ h9 => h9) rfl (by decide +kernel) rfl rfl (Nat.le_of_ble_eq_true rfl) dX12_solves_10 (fun H locs hP hD hS => ?_)
      have hP : va_P (dC, dI) vwCl (WR a k h0 (fT vi 116 1) vj vF vG) H := by rw [← WR_i 116 _ rfl]; exact hP
      have hD : va_D A (WR a k h0 (fT vi 116 1) vj vF vG) := by rw [← WR_i 116 _ rfl]; exact hD
      have hl : lv_has _ _ ([(0, .ref h0), (1, .int rx), (2, .int al)]) := lv_sub hl [0, 1, 2] rfl
      exact join1 _ _ _ _ ⟨1, rfl, hP, hD, hS, hl⟩
  · rintro H locs ls stk ⟨fx, rfl, hP, hD, hS, hl⟩
    refine lv_aload_n hx hb dX12_solves_13 rfl (lv_at hl 0 rfl) ?_
    refine lv_aload_n hx hb dX12_solves_14 rfl (lv_at hl 0 rfl) ?_
    refine va_get (D := (dC, dI)) (ci := 12) (v := .int (vi 90)) (C := RX12) (T := TX12) (N := 163) (fs := fM (vS a (fT vi 116 fx) vj)) hx hb hts iwsRX12_solves_in12 hown hK hP 0 rfl rfl 90 (by decide) (hts (.fieldLink RX12 774 "OptimaWorksModel" "variables" "I") (by decide +kernel)) (fun _ h9 => h9) rfl dX12_solves_15 ?_
    refine lv_topi (fun y1 hy1 => ?_)
    obtain rfl : (nI vn) = y1 := (hy1.trans (hvn)).symm
    have hFc := allFree hD hS hA
    refine va_callv (va_runV (As := [.int (nI vn)]) (rest := []) ⟨hx, hb, hml, hown, hts⟩ (r_X12_begin l dC dI a k h0 (fT vi 116 fx) vj vF vG vn mg hBg (by first | with_reducible assumption | decide | omega | rfl | assumption) H.size) (cwV 1 hts gwsRX12_solves_0 rfl rfl rfl hd_yX12_begin_RX12 (by decide +kernel)) (fz_pre (va_recv hK hP (ci := 12) (q0 := 0) rfl rfl) hP hK hD) rfl rfl hl.1 rfl (lv_room (Nat.le_of_ble_eq_true rfl)) dX12_solves_18 (by decide +kernel)) hS (fun q _ h => hFc q h) hFc (fun u t9_ H locs ht hvm hw9 hB9 hz1 hk1 hS => ?_)
    revert u
    refine fz_p3 ?_
    intro g18 f418 f618 hw9 hB9
    try dsimp only at hw9 hB9
    have hP : va_P (dC, dI) vwCl (WR a k h0 (fT (fT (fT (fT vi 116 fx) 5 (nI (vn + 1))) 6 0) 7 0) vj (fT (fT (fT vF 0 g18) 4 f418) 6 f618) vG) H := fz_P ht hB9.1
    have hD : va_D A (WR a k h0 (fT (fT (fT (fT vi 116 fx) 5 (nI (vn + 1))) 6 0) 7 0) vj (fT (fT (fT vF 0 g18) 4 f418) 6 f618) vG) := hB9.2.weaken (fun _ q _ h => hFc q.1 h)
    revert hw9
    refine fz_a3 ?_
    intro f18_0 f18_1 f18_2
    refine lv_iconst (v := 0) hx hb dX12_solves_21 (by decide) ?_
    refine lv_istore_n hx hb dX12_solves_22 rfl hl (by decide) rfl (fun ls (hl : lv_has ls _ ([(3, .int 0), (0, .ref h0), (1, .int rx), (2, .int al)])) => ?_)
    have e9 : fT (fT (fT (fT vi 116 fx) 5 (nI (vn + 1))) 6 (nI 0)) 7 0 = fT (fT (fT (fT vi 116 fx) 5 (nI (vn + 1))) 6 0) 7 0 := by funext q9; by_cases h9_116 : q9 = 116; (subst h9_116; exact ((fT_ne _ _ (Nat.ne_of_beq_eq_false rfl)).trans ((fT_ne _ _ (Nat.ne_of_beq_eq_false rfl)).trans ((fT_ne _ _ (Nat.ne_of_beq_eq_false rfl)).trans (fT_eq _ _ _)))).trans (Eq.trans (by first | with_reducible rfl | with_reducible assumption | (symm; with_reducible assumption) | rfl | assumption | (symm; assumption) | (subst_vars; rfl)) ((fT_ne _ _ (Nat.ne_of_beq_eq_false rfl)).trans ((fT_ne _ _ (Nat.ne_of_beq_eq_false rfl)).trans ((fT_ne _ _ (Nat.ne_of_beq_eq_false rfl)).trans (fT_eq _ _ _)))).symm)); by_cases h9_5 : q9 = 5; (subst h9_5; exact ((fT_ne _ _ (Nat.ne_of_beq_eq_false rfl)).trans ((fT_ne _ _ (Nat.ne_of_beq_eq_false rfl)).trans (fT_eq _ _ _))).trans (Eq.trans (by first | with_reducible rfl | with_reducible assumption | (symm; with_reducible assumption) | rfl | assumption | (symm; assumption) | (subst_vars; rfl)) ((fT_ne _ _ (Nat.ne_of_beq_eq_false rfl)).trans ((fT_ne _ _ (Nat.ne_of_beq_eq_false rfl)).trans (fT_eq _ _ _))).symm)); by_cases h9_6 : q9 = 6; (subst h9_6; exact ((fT_ne _ _ (Nat.ne_of_beq_eq_false rfl)).trans (fT_eq _ _ _)).trans (Eq.trans (by first | with_reducible rfl | with_reducible assumption | (symm; with_reducible assumption) | rfl | assumption | (symm; assumption) | (subst_vars; rfl)) ((fT_ne _ _ (Nat.ne_of_beq_eq_false rfl)).trans (fT_eq _ _ _)).symm)); by_cases h9_7 : q9 = 7; (subst h9_7; exact (fT_eq _ _ _).trans (Eq.trans (by first | with_reducible rfl | with_reducible assumption | (symm; with_reducible assumption) | rfl | assumption | (symm; assumption) | (subst_vars; rfl)) (fT_eq _ _ _).symm)); exact ((fT_ne _ _ h9_7).trans ((fT_ne _ _ h9_6).trans ((fT_ne _ _ h9_5).trans (fT_ne _ _ h9_116)))).trans ((fT_ne _ _ h9_7).trans ((fT_ne _ _ h9_6).trans ((fT_ne _ _ h9_5).trans (fT_ne _ _ h9_116)))).symm
    have hP : va_P (dC, dI) vwCl (WR a k h0 (fT (fT (fT (fT vi 116 fx) 5 (nI (vn + 1))) 6 (nI 0)) 7 0) vj (fT (fT (fT vF 0 g18) 4 f418) 6 f618) vG) H := by rw [e9]; exact hP
    have hD : va_D A (WR a k h0 (fT (fT (fT (fT vi 116 fx) 5 (nI (vn + 1))) 6 (nI 0)) 7 0) vj (fT (fT (fT vF 0 g18) 4 f418) 6 f618) vG) := by rw [e9]; exact hD
    clear e9
    have e9 : fT (fT (fT (fT vF 0 g18) 4 f418) 6 f618) 5 (vF 5) = fT (fT (fT vF 0 g18) 4 f418) 6 f618 := by funext q9; by_cases h9_0 : q9 = 0; (subst h9_0; exact ((fT_ne _ _ (Nat.ne_of_beq_eq_false rfl)).trans ((fT_ne _ _ (Nat.ne_of_beq_eq_false rfl)).trans ((fT_ne _ _ (Nat.ne_of_beq_eq_false rfl)).trans (fT_eq _ _ _)))).trans (Eq.trans (by first | with_reducible rfl | with_reducible assumption | (symm; with_reducible assumption) | rfl | assumption | (symm; assumption) | (subst_vars; rfl)) ((fT_ne _ _ (Nat.ne_of_beq_eq_false rfl)).trans ((fT_ne _ _ (Nat.ne_of_beq_eq_false rfl)).trans (fT_eq _ _ _))).symm)); by_cases h9_4 : q9 = 4; (subst h9_4; exact ((fT_ne _ _ (Nat.ne_of_beq_eq_false rfl)).trans ((fT_ne _ _ (Nat.ne_of_beq_eq_false rfl)).trans (fT_eq _ _ _))).trans (Eq.trans (by first | with_reducible rfl | with_reducible assumption | (symm; with_reducible assumption) | rfl | assumption | (symm; assumption) | (subst_vars; rfl)) ((fT_ne _ _ (Nat.ne_of_beq_eq_false rfl)).trans (fT_eq _ _ _)).symm)); by_cases h9_6 : q9 = 6; (subst h9_6; exact ((fT_ne _ _ (Nat.ne_of_beq_eq_false rfl)).trans (fT_eq _ _ _)).trans (Eq.trans (by first | with_reducible rfl | with_reducible assumption | (symm; with_reducible assumption) | rfl | assumption | (symm; assumption) | (subst_vars; rfl)) (fT_eq _ _ _).symm)); by_cases h9_5 : q9 = 5; (subst h9_5; exact (fT_eq _ _ _).trans (Eq.trans (by first | with_reducible rfl | with_reducible assumption | (symm; with_reducible assumption) | rfl | assumption | (symm; assumption) | (subst_vars; rfl)) ((fT_ne _ _ (Nat.ne_of_beq_eq_false rfl)).trans ((fT_ne _ _ (Nat.ne_of_beq_eq_false rfl)).trans (fT_ne _ _ (Nat.ne_of_beq_eq_false rfl)))).symm)); exact ((fT_ne _ _ h9_5).trans ((fT_ne _ _ h9_6).trans ((fT_ne _ _ h9_4).trans (fT_ne _ _ h9_0)))).trans ((fT_ne _ _ h9_6).trans ((fT_ne _ _ h9_4).trans (fT_ne _ _ h9_0))).symm
    have hP : va_P (dC, dI) vwCl (WR a k h0 (fT (fT (fT (fT vi 116 fx) 5 (nI (vn + 1))) 6 (nI 0)) 7 0) vj (fT (fT (fT (fT vF 0 g18) 4 f418) 6 f618) 5 (vF 5)) vG) H := by rw [e9]; exact hP
    have hD : va_D A (WR a k h0 (fT (fT (fT (fT vi 116 fx) 5 (nI (vn + 1))) 6 (nI 0)) 7 0) vj (fT (fT (fT (fT vF 0 g18) 4 f418) 6 f618) 5 (vF 5)) vG) := by rw [e9]; exact hD
    clear e9
    have hl : lv_has _ _ ([(0, .ref h0), (1, .int rx), (2, .int al), (3, .int (nI 0))]) := lv_sub hl [1, 2, 3, 0] rfl
    refine (fun (loop : ∀ (n9 : Nat) (r5 : Nat) (R : Nat) (g1 : Nat → Int32) (f51 : Nat → Int32) (m1 : Nat → Int) (H : Heap) (locs : List Loc) (ls : Array Slot), (Bg g1 m1) → (r5 ≤ mr) → (R ≤ 2 * r5) → (BldL (vn + 1) R m1 f51) → (m1 20 = 1) → (∀ q, 1000 ≤ q → m1 q = mg q) →  (mr < r5 + n9) → va_P (dC, dI) vwCl (WR a k h0 (fT (fT (fT (fT vi 116 fx) 5 (nI (vn + 1))) 6 (nI R)) 7 0) vj (fT (fT (fT (fT vF 0 g1) 4 f418) 6 f618) 5 f51) vG) H → va_D A (WR a k h0 (fT (fT (fT (fT vi 116 fx) 5 (nI (vn + 1))) 6 (nI R)) 7 0) vj (fT (fT (fT (fT vF 0 g1) 4 f418) 6 f618) 5 f51) vG) → va_S A s.heap H locs → lv_has ls 6 [(0, .ref h0), (1, .int rx), (2, .int al), (3, .int (nI r5))] → W p l e _ s m _ below meth c H locs 0 0 _ (F0 m 23 ls [])) => loop (mr + 1) 0 0 g18 (vF 5) (fT mg 20 1) _ _ _ (f18_0) (by omega) (by omega) (fun i hi => absurd hi (by omega)) ((by rw [fT_eq])) (fun q hq => by (rw [fT_ne _ _ (by omega)])) (by omega) hP hD hS hl) ?_
    intro n9
    induction n9 with
    | zero => intro r5 R g1 f51 m1 H locs ls hB1 hr5 hR24 hBl h20 ho hf9; exact False.elim (by omega)
    | succ n9 ih23 =>
      intro r5 R g1 f51 m1 H locs ls hB1 hr5 hR24 hBl h20 ho hf23 hP hD hS hl
      refine lv_iload_n hx hb dX12_solves_23 rfl (lv_at hl 3 rfl) ?_
      refine lv_aload_n hx hb dX12_solves_24 rfl (lv_at hl 0 rfl) ?_
      refine va_get (D := (dC, dI)) (ci := 12) (v := .int (vi 91)) (C := RX12) (T := TX12) (N := 163) (fs := fM (vS a (fT (fT (fT (fT vi 116 fx) 5 (nI (vn + 1))) 6 (nI R)) 7 0) vj)) hx hb hts iwsRX12_solves_in12 hown hK hP 0 rfl rfl 91 (by decide) (hts (.fieldLink RX12 786 "OptimaWorksModel" "modelRows" "I") (by decide +kernel)) (fun _ h9 => h9) rfl dX12_solves_25 ?_
      refine lv_topi (fun y2 hy2 => ?_)
      obtain rfl : (nI mr) = y2 := (hy2.trans (hmr)).symm
      refine lv_icmp_ge (tgt := 73) hx hb dX12_solves_28 (by decide) (fun c_28 => ?_) (fun c_28 => ?_)
      · have t_28 : ((r5 : Nat) : Int) ≥ ((mr : Nat) : Int) := toI_ge c_28 (nI_toInt (by omega)) (nI_toInt (by omega))
        refine lv_iconst (v := 0) hx hb dX12_solves_73 (by decide) ?_
        refine lv_istore_n hx hb dX12_solves_74 rfl hl (by decide) rfl (fun ls (hl : lv_has ls _ ([(3, .int 0), (0, .ref h0), (1, .int rx), (2, .int al)])) => ?_)
        have hl : lv_has _ _ ([(0, .ref h0), (1, .int rx), (2, .int al), (3, .int (nI 0))]) := lv_sub hl [1, 2, 3, 0] rfl
        refine (fun (loop : ∀ (n9 : Nat) (k5 : Nat) (R2 : Nat) (g2 : Nat → Int32) (f52 : Nat → Int32) (f62 : Nat → Int32) (m2a : Nat → Int) (H : Heap) (locs : List Loc) (ls : Array Slot), (Bg g2 m2a) → (k5 ≤ vn) → (R2 ≤ 24 + k5) → (BldL (vn + 1) R2 m2a f52) → (m2a 20 = 1) → (∀ q, 1000 ≤ q → m2a q = mg q) →  (vn < k5 + n9) → va_P (dC, dI) vwCl (WR a k h0 (fT (fT (fT (fT vi 116 fx) 5 (nI (vn + 1))) 6 (nI R2)) 7 0) vj (fT (fT (fT (fT vF 0 g2) 4 f418) 6 f62) 5 f52) vG) H → va_D A (WR a k h0 (fT (fT (fT (fT vi 116 fx) 5 (nI (vn + 1))) 6 (nI R2)) 7 0) vj (fT (fT (fT (fT vF 0 g2) 4 f418) 6 f62) 5 f52) vG) → va_S A s.heap H locs → lv_has ls 6 [(0, .ref h0), (1, .int rx), (2, .int al), (3, .int (nI k5))] → W p l e _ s m _ below meth c H locs 0 0 _ (F0 m 75 ls [])) => loop (vn + 1) 0 R g1 f51 f618 m1 _ _ _ (hB1) (by omega) (by omega) (hBl) (h20) (ho) (by omega) hP hD hS hl) ?_
        intro n9
        induction n9 with
        | zero => intro k5 R2 g2 f52 f62 m2a H locs ls hB2 hk5 hR32 hBl2 h202 ho2 hf9; exact False.elim (by omega)
        | succ n9 ih75_1 =>
          intro k5 R2 g2 f52 f62 m2a H locs ls hB2 hk5 hR32 hBl2 h202 ho2 hf75_1 hP hD hS hl
          refine lv_iload_n hx hb dX12_solves_75 rfl (lv_at hl 3 rfl) ?_
          refine lv_aload_n hx hb dX12_solves_76 rfl (lv_at hl 0 rfl) ?_
          refine va_get (D := (dC, dI)) (ci := 12) (v := .int (vi 90)) (C := RX12) (T := TX12) (N := 163) (fs := fM (vS a (fT (fT (fT (fT vi 116 fx) 5 (nI (vn + 1))) 6 (nI R2)) 7 0) vj)) hx hb hts iwsRX12_solves_in12 hown hK hP 0 rfl rfl 90 (by decide) (hts (.fieldLink RX12 774 "OptimaWorksModel" "variables" "I") (by decide +kernel)) (fun _ h9 => h9) rfl dX12_solves_77 ?_
          refine lv_topi (fun y3 hy3 => ?_)
          obtain rfl : (nI vn) = y3 := (hy3.trans (hvn)).symm
          refine lv_icmp_ge (tgt := 162) hx hb dX12_solves_80 (by decide) (fun c_80 => ?_) (fun c_80 => ?_)
          · have t_80 : ((k5 : Nat) : Int) ≥ ((vn : Nat) : Int) := toI_ge c_80 (nI_toInt (by omega)) (nI_toInt (by omega))
            have hk5v : k5 = vn := by omega
            have hmul : R2 * (vn + 1 + 1) ≤ 32 * 10 := Nat.mul_le_mul (by omega) (by omega)
            have hx0 : (R2 + 0) * (vn + 1 + 1) = R2 * (vn + 1 + 1) := rfl
            have hex : ∀ y, y ≤ 12 → (R2 + y) * (vn + 1 + 1) ≤ 44 * 10 := fun y hy => Nat.mul_le_mul (by omega) (by omega)
            refine lv_aload_n hx hb dX12_solves_162 rfl (lv_at hl 0 rfl) ?_
            have hFc := allFree hD hS hA
            refine va_callv (va_runV (As := []) (rest := []) ⟨hx, hb, hml, hown, hts⟩ (r_X12_start l dC dI a k h0 (fT (fT (fT (fT vi 116 fx) 5 (nI (vn + 1))) 6 (nI R2)) 7 0) vj (fT (fT (fT (fT vF 0 g2) 4 f418) 6 f62) 5 f52) vG (vn + 1) R2 0 m2a hB2 (by first | with_reducible assumption | decide | omega | rfl | assumption) (rfl) (nI_0.symm) (by first | with_reducible assumption | decide | omega | rfl | assumption) (by first | with_reducible assumption | decide | omega | rfl | assumption) (by first | with_reducible assumption | decide | omega | rfl | assumption) H.size) (cwV 0 hts gwsRX12_solves_1 rfl rfl rfl hd_yX12_start_RX12 (by decide +kernel)) (fz_pre (va_recv hK hP (ci := 12) (q0 := 0) rfl rfl) hP hK hD) rfl rfl hl.1 rfl (lv_room (Nat.le_of_ble_eq_true rfl)) dX12_solves_163 (by decide +kernel)) hS (fun q _ h => hFc q h) hFc (fun u t9_ H locs ht hvm hw9 hB9 hz1 hk1 hS => ?_)
            revert u
            refine fz_p2 ?_
            intro g163 m2163 hw9 hB9
            try dsimp only at hw9 hB9
            have hP : va_P (dC, dI) vwCl (WR a k h0 (fT (fT (fT (fT (fT vi 116 fx) 5 (nI (vn + 1))) 6 (nI R2)) 7 0) 7 (nI (0 + 1))) vj (fT (fT (fT (fT (fT vF 0 g2) 4 f418) 6 f62) 5 f52) 0 g163) vG) H := fz_P ht hB9.1
            have hD : va_D A (WR a k h0 (fT (fT (fT (fT (fT vi 116 fx) 5 (nI (vn + 1))) 6 (nI R2)) 7 0) 7 (nI (0 + 1))) vj (fT (fT (fT (fT (fT vF 0 g2) 4 f418) 6 f62) 5 f52) 0 g163) vG) := hB9.2.weaken (fun _ q _ h => hFc q.1 h)
            have e9 : fT (fT (fT (fT vi 116 fx) 5 (nI (vn + 1))) 6 (nI R2)) 7 (nI (0 + 1)) = fT (fT (fT (fT (fT vi 116 fx) 5 (nI (vn + 1))) 6 (nI R2)) 7 0) 7 (nI (0 + 1)) := (fT_sm _ _ _ _).symm
            rw [← e9] at hP hD
            clear e9
            have e9 : fT (fT (fT (fT vF 0 g163) 4 f418) 6 f62) 5 f52 = fT (fT (fT (fT (fT vF 0 g2) 4 f418) 6 f62) 5 f52) 0 g163 := ((fT_sw _ _ _ (Nat.ne_of_beq_eq_false rfl)).trans (congrArg (fun g9 => fT g9 5 f52) ((fT_sw _ _ _ (Nat.ne_of_beq_eq_false rfl)).trans (congrArg (fun g9 => fT g9 6 f62) ((fT_sw _ _ _ (Nat.ne_of_beq_eq_false rfl)).trans (congrArg (fun g9 => fT g9 4 f418) (fT_sm _ _ _ _))))))).symm
            rw [← e9] at hP hD
            clear e9
            have hP : va_P (dC, dI) vwCl (WR a k h0 (fT (fT (fT (fT vi 116 fx) 5 (nI (vn + 1))) 6 (nI R2)) 7 (nI (0 + 1))) vj (fT (fT (fT (fT vF 0 g163) 4 f418) 6 f62) 5 f52) vG) H := hP
            have hD : va_D A (WR a k h0 (fT (fT (fT (fT vi 116 fx) 5 (nI (vn + 1))) 6 (nI R2)) 7 (nI (0 + 1))) vj (fT (fT (fT (fT vF 0 g163) 4 f418) 6 f62) 5 f52) vG) := hD
            revert hw9
            refine fz_a3 ?_
            intro f163_0 f163_1 f163_2
            refine W.cut (pc := 260) (fun H locs ls stk => ∃ (GA : Nat) (gA : Nat → Int32) (f2A : Nat → Int32) (f3A : Nat → Int32) (gsA : Nat → Int64) (mA : Nat → Int), (Bg gA mA) ∧ (1 ≤ GA ∧ GA ≤ 1 + gq) ∧ (al = 0 ∨ GA = 1 + gq) ∧ (GldG (vn + 1) R2 (R2 + GA) mA) ∧ (BldL (vn + 1) R2 mA f52) ∧ (mA 20 = 1) ∧ (∀ q, 1000 ≤ q → mA q = mg q) ∧  stk = [] ∧ va_P (dC, dI) vwCl (WR a k h0 (fT (fT (fT (fT vi 116 fx) 5 (nI (vn + 1))) 6 (nI R2)) 7 (nI GA)) vj (fT (fT (fT (fT (fT (fT vF 0 gA) 4 f418) 6 f62) 5 f52) 2 f2A) 3 f3A) (fT vG 1 gsA)) H ∧ va_D A (WR a k h0 (fT (fT (fT (fT vi 116 fx) 5 (nI (vn + 1))) 6 (nI R2)) 7 (nI GA)) vj (fT (fT (fT (fT (fT (fT vF 0 gA) 4 f418) 6 f62) 5 f52) 2 f2A) 3 f3A) (fT vG 1 gsA)) ∧ va_S A s.heap H locs ∧ lv_has ls 6 [(0, .ref h0), (1, .int rx), (2, .int al)]) (fun join2 => ?_) ?_
            · refine lv_iconst (v := 0) hx hb dX12_solves_166 (by decide) ?_
              refine lv_istore_n hx hb dX12_solves_167 rfl hl (by decide) rfl (fun ls (hl : lv_has ls _ ([(3, .int 0), (0, .ref h0), (1, .int rx), (2, .int al)])) => ?_)
              have e9 : fT (fT (fT (fT vi 116 fx) 5 (nI (vn + 1))) 6 (nI R2)) 7 (nI (1 + 0)) = fT (fT (fT (fT vi 116 fx) 5 (nI (vn + 1))) 6 (nI R2)) 7 (nI (0 + 1)) := by funext q9; by_cases h9_116 : q9 = 116; (subst h9_116; exact ((fT_ne _ _ (Nat.ne_of_beq_eq_false rfl)).trans ((fT_ne _ _ (Nat.ne_of_beq_eq_false rfl)).trans ((fT_ne _ _ (Nat.ne_of_beq_eq_false rfl)).trans (fT_eq _ _ _)))).trans (Eq.trans (by first | with_reducible rfl | with_reducible assumption | (symm; with_reducible assumption) | rfl | assumption | (symm; assumption) | (subst_vars; rfl)) ((fT_ne _ _ (Nat.ne_of_beq_eq_false rfl)).trans ((fT_ne _ _ (Nat.ne_of_beq_eq_false rfl)).trans ((fT_ne _ _ (Nat.ne_of_beq_eq_false rfl)).trans (fT_eq _ _ _)))).symm)); by_cases h9_5 : q9 = 5; (subst h9_5; exact ((fT_ne _ _ (Nat.ne_of_beq_eq_false rfl)).trans ((fT_ne _ _ (Nat.ne_of_beq_eq_false rfl)).trans (fT_eq _ _ _))).trans (Eq.trans (by first | with_reducible rfl | with_reducible assumption | (symm; with_reducible assumption) | rfl | assumption | (symm; assumption) | (subst_vars; rfl)) ((fT_ne _ _ (Nat.ne_of_beq_eq_false rfl)).trans ((fT_ne _ _ (Nat.ne_of_beq_eq_false rfl)).trans (fT_eq _ _ _))).symm)); by_cases h9_6 : q9 = 6; (subst h9_6; exact ((fT_ne _ _ (Nat.ne_of_beq_eq_false rfl)).trans (fT_eq _ _ _)).trans (Eq.trans (by first | with_reducible rfl | with_reducible assumption | (symm; with_reducible assumption) | rfl | assumption | (symm; assumption) | (subst_vars; rfl)) ((fT_ne _ _ (Nat.ne_of_beq_eq_false rfl)).trans (fT_eq _ _ _)).symm)); by_cases h9_7 : q9 = 7; (subst h9_7; exact (fT_eq _ _ _).trans (Eq.trans (by first | with_reducible rfl | with_reducible assumption | (symm; with_reducible assumption) | rfl | assumption | (symm; assumption) | (subst_vars; rfl)) (fT_eq _ _ _).symm)); exact ((fT_ne _ _ h9_7).trans ((fT_ne _ _ h9_6).trans ((fT_ne _ _ h9_5).trans (fT_ne _ _ h9_116)))).trans ((fT_ne _ _ h9_7).trans ((fT_ne _ _ h9_6).trans ((fT_ne _ _ h9_5).trans (fT_ne _ _ h9_116)))).symm
              have hP : va_P (dC, dI) vwCl (WR a k h0 (fT (fT (fT (fT vi 116 fx) 5 (nI (vn + 1))) 6 (nI R2)) 7 (nI (1 + 0))) vj (fT (fT (fT (fT vF 0 g163) 4 f418) 6 f62) 5 f52) vG) H := by rw [e9]; exact hP
              have hD : va_D A (WR a k h0 (fT (fT (fT (fT vi 116 fx) 5 (nI (vn + 1))) 6 (nI R2)) 7 (nI (1 + 0))) vj (fT (fT (fT (fT vF 0 g163) 4 f418) 6 f62) 5 f52) vG) := by rw [e9]; exact hD
              clear e9
              have e9 : fT (fT (fT (fT (fT (fT vF 0 g163) 4 f418) 6 f62) 5 f52) 2 (vF 2)) 3 (vF 3) = fT (fT (fT (fT vF 0 g163) 4 f418) 6 f62) 5 f52 := by funext q9; by_cases h9_0 : q9 = 0; (subst h9_0; exact ((fT_ne _ _ (Nat.ne_of_beq_eq_false rfl)).trans ((fT_ne _ _ (Nat.ne_of_beq_eq_false rfl)).trans ((fT_ne _ _ (Nat.ne_of_beq_eq_false rfl)).trans ((fT_ne _ _ (Nat.ne_of_beq_eq_false rfl)).trans ((fT_ne _ _ (Nat.ne_of_beq_eq_false rfl)).trans (fT_eq _ _ _)))))).trans (Eq.trans (by first | with_reducible rfl | with_reducible assumption | (symm; with_reducible assumption) | rfl | assumption | (symm; assumption) | (subst_vars; rfl)) ((fT_ne _ _ (Nat.ne_of_beq_eq_false rfl)).trans ((fT_ne _ _ (Nat.ne_of_beq_eq_false rfl)).trans ((fT_ne _ _ (Nat.ne_of_beq_eq_false rfl)).trans (fT_eq _ _ _)))).symm)); by_cases h9_4 : q9 = 4; (subst h9_4; exact ((fT_ne _ _ (Nat.ne_of_beq_eq_false rfl)).trans ((fT_ne _ _ (Nat.ne_of_beq_eq_false rfl)).trans ((fT_ne _ _ (Nat.ne_of_beq_eq_false rfl)).trans ((fT_ne _ _ (Nat.ne_of_beq_eq_false rfl)).trans (fT_eq _ _ _))))).trans (Eq.trans (by first | with_reducible rfl | with_reducible assumption | (symm; with_reducible assumption) | rfl | assumption | (symm; assumption) | (subst_vars; rfl)) ((fT_ne _ _ (Nat.ne_of_beq_eq_false rfl)).trans ((fT_ne _ _ (Nat.ne_of_beq_eq_false rfl)).trans (fT_eq _ _ _))).symm)); by_cases h9_6 : q9 = 6; (subst h9_6; exact ((fT_ne _ _ (Nat.ne_of_beq_eq_false rfl)).trans ((fT_ne _ _ (Nat.ne_of_beq_eq_false rfl)).trans ((fT_ne _ _ (Nat.ne_of_beq_eq_false rfl)).trans (fT_eq _ _ _)))).trans (Eq.trans (by first | with_reducible rfl | with_reducible assumption | (symm; with_reducible assumption) | rfl | assumption | (symm; assumption) | (subst_vars; rfl)) ((fT_ne _ _ (Nat.ne_of_beq_eq_false rfl)).trans (fT_eq _ _ _)).symm)); by_cases h9_5 : q9 = 5; (subst h9_5; exact ((fT_ne _ _ (Nat.ne_of_beq_eq_false rfl)).trans ((fT_ne _ _ (Nat.ne_of_beq_eq_false rfl)).trans (fT_eq _ _ _))).trans (Eq.trans (by first | with_reducible rfl | with_reducible assumption | (symm; with_reducible assumption) | rfl | assumption | (symm; assumption) | (subst_vars; rfl)) (fT_eq _ _ _).symm)); by_cases h9_2 : q9 = 2; (subst h9_2; exact ((fT_ne _ _ (Nat.ne_of_beq_eq_false rfl)).trans (fT_eq _ _ _)).trans (Eq.trans (by first | with_reducible rfl | with_reducible assumption | (symm; with_reducible assumption) | rfl | assumption | (symm; assumption) | (subst_vars; rfl)) ((fT_ne _ _ (Nat.ne_of_beq_eq_false rfl)).trans ((fT_ne _ _ (Nat.ne_of_beq_eq_false rfl)).trans ((fT_ne _ _ (Nat.ne_of_beq_eq_false rfl)).trans (fT_ne _ _ (Nat.ne_of_beq_eq_false rfl))))).symm)); by_cases h9_3 : q9 = 3; (subst h9_3; exact (fT_eq _ _ _).trans (Eq.trans (by first | with_reducible rfl | with_reducible assumption | (symm; with_reducible assumption) | rfl | assumption | (symm; assumption) | (subst_vars; rfl)) ((fT_ne _ _ (Nat.ne_of_beq_eq_false rfl)).trans ((fT_ne _ _ (Nat.ne_of_beq_eq_false rfl)).trans ((fT_ne _ _ (Nat.ne_of_beq_eq_false rfl)).trans (fT_ne _ _ (Nat.ne_of_beq_eq_false rfl))))).symm)); exact ((fT_ne _ _ h9_3).trans ((fT_ne _ _ h9_2).trans ((fT_ne _ _ h9_5).trans ((fT_ne _ _ h9_6).trans ((fT_ne _ _ h9_4).trans (fT_ne _ _ h9_0)))))).trans ((fT_ne _ _ h9_5).trans ((fT_ne _ _ h9_6).trans ((fT_ne _ _ h9_4).trans (fT_ne _ _ h9_0)))).symm
              have hP : va_P (dC, dI) vwCl (WR a k h0 (fT (fT (fT (fT vi 116 fx) 5 (nI (vn + 1))) 6 (nI R2)) 7 (nI (1 + 0))) vj (fT (fT (fT (fT (fT (fT vF 0 g163) 4 f418) 6 f62) 5 f52) 2 (vF 2)) 3 (vF 3)) vG) H := by rw [e9]; exact hP
              have hD : va_D A (WR a k h0 (fT (fT (fT (fT vi 116 fx) 5 (nI (vn + 1))) 6 (nI R2)) 7 (nI (1 + 0))) vj (fT (fT (fT (fT (fT (fT vF 0 g163) 4 f418) 6 f62) 5 f52) 2 (vF 2)) 3 (vF 3)) vG) := by rw [e9]; exact hD
              clear e9
              have e9 : fT vG 1 (vG 1) = vG := by funext q9; by_cases h9_1 : q9 = 1; (subst h9_1; exact (fT_eq _ _ _).trans (Eq.trans (by first | with_reducible rfl | with_reducible assumption | (symm; with_reducible assumption) | rfl | assumption | (symm; assumption) | (subst_vars; rfl)) (Eq.refl _).symm)); exact (fT_ne _ _ h9_1).trans (Eq.refl _).symm
              have hP : va_P (dC, dI) vwCl (WR a k h0 (fT (fT (fT (fT vi 116 fx) 5 (nI (vn + 1))) 6 (nI R2)) 7 (nI (1 + 0))) vj (fT (fT (fT (fT (fT (fT vF 0 g163) 4 f418) 6 f62) 5 f52) 2 (vF 2)) 3 (vF 3)) (fT vG 1 (vG 1))) H := by rw [e9]; exact hP
              have hD : va_D A (WR a k h0 (fT (fT (fT (fT vi 116 fx) 5 (nI (vn + 1))) 6 (nI R2)) 7 (nI (1 + 0))) vj (fT (fT (fT (fT (fT (fT vF 0 g163) 4 f418) 6 f62) 5 f52) 2 (vF 2)) 3 (vF 3)) (fT vG 1 (vG 1))) := by rw [e9]; exact hD
              clear e9
              have hl : lv_has _ _ ([(0, .ref h0), (1, .int rx), (2, .int al), (3, .int (nI 0))]) := lv_sub hl [1, 2, 3, 0] rfl
              refine (fun (loop : ∀ (n9 : Nat) (g5 : Nat) (g3 : Nat → Int32) (f23 : Nat → Int32) (f33 : Nat → Int32) (gs3 : Nat → Int64) (m3 : Nat → Int) (H : Heap) (locs : List Loc) (ls : Array Slot), (Bg g3 m3) → (g5 ≤ gq) → (GldG (vn + 1) R2 (R2 + (1 + g5)) m3) → (BldL (vn + 1) R2 m3 f52) → (m3 20 = 1) → (∀ q, 1000 ≤ q → m3 q = mg q) →  (gq < g5 + n9) → va_P (dC, dI) vwCl (WR a k h0 (fT (fT (fT (fT vi 116 fx) 5 (nI (vn + 1))) 6 (nI R2)) 7 (nI (1 + g5))) vj (fT (fT (fT (fT (fT (fT vF 0 g3) 4 f418) 6 f62) 5 f52) 2 f23) 3 f33) (fT vG 1 gs3)) H → va_D A (WR a k h0 (fT (fT (fT (fT vi 116 fx) 5 (nI (vn + 1))) 6 (nI R2)) 7 (nI (1 + g5))) vj (fT (fT (fT (fT (fT (fT vF 0 g3) 4 f418) 6 f62) 5 f52) 2 f23) 3 f33) (fT vG 1 gs3)) → va_S A s.heap H locs → lv_has ls 6 [(0, .ref h0), (1, .int rx), (2, .int al), (3, .int (nI g5))] → W p l e _ s m _ below meth c H locs 0 0 _ (F0 m 168 ls [])) => loop (gq + 1) 0 g163 (vF 2) (vF 3) (vG 1) m2163 _ _ _ (f163_0) (by omega) (⟨fun j hj => f163_1 j hj, fun i h1 h2 => absurd h2 (by omega)⟩) (hBl2.frame (fun p h1 h2 => by (rw [f163_2 _ (by omega)]))) (by (rw [f163_2 _ (by omega)]); exact h202) (fun q hq => by (rw [f163_2 _ (by omega)]); exact ho2 q hq) (by omega) hP hD hS hl) ?_
              intro n9
              induction n9 with
              | zero => intro g5 g3 f23 f33 gs3 m3 H locs ls hB3 hg5 hGlm3 hBlm3 h20m3 hom3 hf9; exact False.elim (by omega)
              | succ n9 ih168_2 =>
                intro g5 g3 f23 f33 gs3 m3 H locs ls hB3 hg5 hGlm3 hBlm3 h20m3 hom3 hf168_2 hP hD hS hl
                refine lv_iload_n hx hb dX12_solves_168 rfl (lv_at hl 3 rfl) ?_
                refine lv_aload_n hx hb dX12_solves_169 rfl (lv_at hl 0 rfl) ?_
                refine va_get (D := (dC, dI)) (ci := 12) (v := .int (vi 93)) (C := RX12) (T := TX12) (N := 163) (fs := fM (vS a (fT (fT (fT (fT vi 116 fx) 5 (nI (vn + 1))) 6 (nI R2)) 7 (nI (1 + g5))) vj)) hx hb hts iwsRX12_solves_in12 hown hK hP 0 rfl rfl 93 (by decide) (hts (.fieldLink RX12 805 "OptimaWorksModel" "modelGoals" "I") (by decide +kernel)) (fun _ h9 => h9) rfl dX12_solves_170 ?_
                refine lv_topi (fun y4 hy4 => ?_)
                obtain rfl : (nI gq) = y4 := (hy4.trans (hmg)).symm
                refine lv_icmp_ge (tgt := 260) hx hb dX12_solves_173 (by decide) (fun c_173 => ?_) (fun c_173 => ?_)
                · have t_173 : ((g5 : Nat) : Int) ≥ ((gq : Nat) : Int) := toI_ge c_173 (nI_toInt (by omega)) (nI_toInt (by omega))
                  have hl : lv_has _ _ ([(0, .ref h0), (1, .int rx), (2, .int al)]) := lv_sub hl [0, 1, 2] rfl
                  exact join2 _ _ _ _ ⟨(1 + g5), g3, f23, f33, gs3, m3, hB3, by omega, Or.inr (by omega), hGlm3, hBlm3, h20m3, hom3, rfl, hP, hD, hS, hl⟩
                · have t_173 : ¬ ((g5 : Nat) : Int) ≥ ((gq : Nat) : Int) := toI_nge c_173 (nI_toInt (by omega)) (nI_toInt (by omega))
                  refine lv_iload_n hx hb dX12_solves_176 rfl (lv_at hl 2 rfl) ?_
                  refine lv_if_eq (tgt := 260) hx hb dX12_solves_177 (by decide) (fun c_177 => ?_) (fun c_177 => ?_)
                  · have t_177 : (al).toInt = 0 := toI_eq c_177 rfl (by decide)
                    have hl : lv_has _ _ ([(0, .ref h0), (1, .int rx), (2, .int al)]) := lv_sub hl [0, 1, 2] rfl
                    exact join2 _ _ _ _ ⟨(1 + g5), g3, f23, f33, gs3, m3, hB3, by omega, Or.inl c_177, hGlm3, hBlm3, h20m3, hom3, rfl, hP, hD, hS, hl⟩
                  · have t_177 : ¬ (al).toInt = 0 := toI_neq c_177 rfl (by decide)
                    have hx8 := hex (1 + g5 + 1) (by omega)
                    have hx9 := hex (1 + g5) (by omega)
                    have hx7 : (R2 + (1 + g5) + 1) * (vn + 1 + 1) = (R2 + (1 + g5)) * (vn + 1 + 1) + (vn + 1 + 1) := Nat.succ_mul _ _
                    refine lv_aload_n hx hb dX12_solves_180 rfl (lv_at hl 0 rfl) ?_
                    have hFc := allFree hD hS hA
                    refine va_calli (va_runV (As := []) (rest := []) ⟨hx, hb, hml, hown, hts⟩ (r_X12_goalRow l dC dI a k h0 (fT (fT (fT (fT vi 116 fx) 5 (nI (vn + 1))) 6 (nI R2)) 7 (nI (1 + g5))) vj (fT (fT (fT (fT (fT (fT vF 0 g3) 4 f418) 6 f62) 5 f52) 2 f23) 3 f33) (fT vG 1 gs3) (vn + 1) R2 (1 + g5) m3 hB3 (by first | with_reducible assumption | decide | omega | rfl | assumption) (by first | with_reducible assumption | decide | omega | rfl | assumption) (by first | with_reducible assumption | decide | omega | rfl | assumption) (by first | with_reducible assumption | decide | omega | rfl | assumption) (by first | with_reducible assumption | decide | omega | rfl | assumption) (by first | with_reducible assumption | decide | omega | rfl | assumption) H.size) (cwV 0 hts gwsRX12_solves_2 rfl rfl rfl hd_yX12_goalRow_RX12 (by decide +kernel)) (fz_pre (va_recv hK hP (ci := 12) (q0 := 0) rfl rfl) hP hK hD) rfl rfl hl.1 rfl (lv_room (Nat.le_of_ble_eq_true rfl)) dX12_solves_181 (by decide +kernel)) hS (fun q _ h => hFc q h) hFc (fun r181 u t9_ H locs ht hvm hw9 hB9 hz1 hk1 hS => ?_)
                    revert u
                    refine fz_p2 ?_
                    intro g181 m2181 hw9 hB9
                    try dsimp only at hw9 hB9
                    have hP : va_P (dC, dI) vwCl (WR a k h0 (fT (fT (fT (fT (fT vi 116 fx) 5 (nI (vn + 1))) 6 (nI R2)) 7 (nI (1 + g5))) 7 (nI ((1 + g5) + 1))) vj (fT (fT (fT (fT (fT (fT (fT vF 0 g3) 4 f418) 6 f62) 5 f52) 2 f23) 3 f33) 0 g181) (fT vG 1 gs3)) H := fz_P ht hB9.1
                    have hD : va_D A (WR a k h0 (fT (fT (fT (fT (fT vi 116 fx) 5 (nI (vn + 1))) 6 (nI R2)) 7 (nI (1 + g5))) 7 (nI ((1 + g5) + 1))) vj (fT (fT (fT (fT (fT (fT (fT vF 0 g3) 4 f418) 6 f62) 5 f52) 2 f23) 3 f33) 0 g181) (fT vG 1 gs3)) := hB9.2.weaken (fun _ q _ h => hFc q.1 h)
                    have e9 : fT (fT (fT (fT vi 116 fx) 5 (nI (vn + 1))) 6 (nI R2)) 7 (nI ((1 + g5) + 1)) = fT (fT (fT (fT (fT vi 116 fx) 5 (nI (vn + 1))) 6 (nI R2)) 7 (nI (1 + g5))) 7 (nI ((1 + g5) + 1)) := (fT_sm _ _ _ _).symm
                    rw [← e9] at hP hD
                    clear e9
                    have e9 : fT (fT (fT (fT (fT (fT vF 0 g181) 4 f418) 6 f62) 5 f52) 2 f23) 3 f33 = fT (fT (fT (fT (fT (fT (fT vF 0 g3) 4 f418) 6 f62) 5 f52) 2 f23) 3 f33) 0 g181 := ((fT_sw _ _ _ (Nat.ne_of_beq_eq_false rfl)).trans (congrArg (fun g9 => fT g9 3 f33) ((fT_sw _ _ _ (Nat.ne_of_beq_eq_false rfl)).trans (congrArg (fun g9 => fT g9 2 f23) ((fT_sw _ _ _ (Nat.ne_of_beq_eq_false rfl)).trans (congrArg (fun g9 => fT g9 5 f52) ((fT_sw _ _ _ (Nat.ne_of_beq_eq_false rfl)).trans (congrArg (fun g9 => fT g9 6 f62) ((fT_sw _ _ _ (Nat.ne_of_beq_eq_false rfl)).trans (congrArg (fun g9 => fT g9 4 f418) (fT_sm _ _ _ _))))))))))).symm
                    rw [← e9] at hP hD
                    clear e9
                    have hP : va_P (dC, dI) vwCl (WR a k h0 (fT (fT (fT (fT vi 116 fx) 5 (nI (vn + 1))) 6 (nI R2)) 7 (nI ((1 + g5) + 1))) vj (fT (fT (fT (fT (fT (fT vF 0 g181) 4 f418) 6 f62) 5 f52) 2 f23) 3 f33) (fT vG 1 gs3)) H := hP
                    have hD : va_D A (WR a k h0 (fT (fT (fT (fT vi 116 fx) 5 (nI (vn + 1))) 6 (nI R2)) 7 (nI ((1 + g5) + 1))) vj (fT (fT (fT (fT (fT (fT vF 0 g181) 4 f418) 6 f62) 5 f52) 2 f23) 3 f33) (fT vG 1 gs3)) := hD
                    obtain ⟨rfl, f181_0, f181_1, f181_2⟩ := hw9
                    refine lv_istore hx hb dX12_solves_184 hl (by decide) rfl (fun ls (hl : lv_has ls _ ([(4, .int (nI (R2 + (1 + g5)))), (0, .ref h0), (1, .int rx), (2, .int al), (3, .int (nI g5))])) => ?_)
                    refine lv_aload_n hx hb dX12_solves_186 rfl (lv_at hl 1 rfl) ?_
                    refine lv_iload_n hx hb dX12_solves_187 rfl (lv_at hl 4 rfl) ?_
                    have hFc := allFree hD hS hA
                    refine va_callv (va_runV (As := [.int (nI g5)]) (rest := []) ⟨hx, hb, hml, hown, hts⟩ (r_X12_scaleOf l dC dI a k h0 (fT (fT (fT (fT vi 116 fx) 5 (nI (vn + 1))) 6 (nI R2)) 7 (nI ((1 + g5) + 1))) vj (fT (fT (fT (fT (fT (fT vF 0 g181) 4 f418) 6 f62) 5 f52) 2 f23) 3 f33) (fT vG 1 gs3) g5 gq m2181 f181_0 (by omega) (by first | with_reducible assumption | decide | omega | rfl | assumption) (by first | with_reducible assumption | decide | omega | rfl | assumption) H.size) (cwV 1 hts gwsRX12_solves_3 rfl rfl rfl hd_yX12_scaleOf_RX12 (by decide +kernel)) (fz_pre (va_recv hK hP (ci := 12) (q0 := 0) rfl rfl) hP hK hD) rfl rfl hl.1 rfl (lv_room (Nat.le_of_ble_eq_true rfl)) dX12_solves_188 (by decide +kernel)) hS (fun q _ h => hFc q h) hFc (fun u t9_ H locs ht hvm hw9 hB9 hz1 hk1 hS => ?_)
                    revert u
                    refine fz_p5 ?_
                    intro g188 f2w188 f3w188 gs188 m2188 hw9 hB9
                    try dsimp only at hw9 hB9
                    have hP : va_P (dC, dI) vwCl (WR a k h0 (fT (fT (fT (fT vi 116 fx) 5 (nI (vn + 1))) 6 (nI R2)) 7 (nI ((1 + g5) + 1))) vj (fT (fT (fT (fT (fT (fT (fT (fT (fT vF 0 g181) 4 f418) 6 f62) 5 f52) 2 f23) 3 f33) 0 g188) 2 f2w188) 3 f3w188) (fT (fT vG 1 gs3) 1 gs188)) H := fz_P ht hB9.1
                    have hD : va_D A (WR a k h0 (fT (fT (fT (fT vi 116 fx) 5 (nI (vn + 1))) 6 (nI R2)) 7 (nI ((1 + g5) + 1))) vj (fT (fT (fT (fT (fT (fT (fT (fT (fT vF 0 g181) 4 f418) 6 f62) 5 f52) 2 f23) 3 f33) 0 g188) 2 f2w188) 3 f3w188) (fT (fT vG 1 gs3) 1 gs188)) := hB9.2.weaken (fun _ q _ h => hFc q.1 h)
                    have e9 : fT (fT (fT (fT (fT (fT vF 0 g188) 4 f418) 6 f62) 5 f52) 2 f2w188) 3 f3w188 = fT (fT (fT (fT (fT (fT (fT (fT (fT vF 0 g181) 4 f418) 6 f62) 5 f52) 2 f23) 3 f33) 0 g188) 2 f2w188) 3 f3w188 := ((congrArg (fun g9 => fT (fT g9 2 f2w188) 3 f3w188) ((fT_sw _ _ _ (Nat.ne_of_beq_eq_false rfl)).trans (congrArg (fun g9 => fT g9 3 f33) ((fT_sw _ _ _ (Nat.ne_of_beq_eq_false rfl)).trans (congrArg (fun g9 => fT g9 2 f23) ((fT_sw _ _ _ (Nat.ne_of_beq_eq_false rfl)).trans (congrArg (fun g9 => fT g9 5 f52) ((fT_sw _ _ _ (Nat.ne_of_beq_eq_false rfl)).trans (congrArg (fun g9 => fT g9 6 f62) ((fT_sw _ _ _ (Nat.ne_of_beq_eq_false rfl)).trans (congrArg (fun g9 => fT g9 4 f418) (fT_sm _ _ _ _)))))))))))).trans ((congrArg (fun g9 => fT g9 3 f3w188) ((fT_sw _ _ _ (Nat.ne_of_beq_eq_false rfl)).trans (congrArg (fun g9 => fT g9 3 f33) (fT_sm _ _ _ _)))).trans (fT_sm _ _ _ _))).symm
                    rw [← e9] at hP hD
                    clear e9
                    have e9 : fT vG 1 gs188 = fT (fT vG 1 gs3) 1 gs188 := (fT_sm _ _ _ _).symm
                    rw [← e9] at hP hD
                    clear e9
                    have hP : va_P (dC, dI) vwCl (WR a k h0 (fT (fT (fT (fT vi 116 fx) 5 (nI (vn + 1))) 6 (nI R2)) 7 (nI ((1 + g5) + 1))) vj (fT (fT (fT (fT (fT (fT vF 0 g188) 4 f418) 6 f62) 5 f52) 2 f2w188) 3 f3w188) (fT vG 1 gs188)) H := hP
                    have hD : va_D A (WR a k h0 (fT (fT (fT (fT vi 116 fx) 5 (nI (vn + 1))) 6 (nI R2)) 7 (nI ((1 + g5) + 1))) vj (fT (fT (fT (fT (fT (fT vF 0 g188) 4 f418) 6 f62) 5 f52) 2 f2w188) 3 f3w188) (fT vG 1 gs188)) := hD
                    revert hw9
                    refine fz_a4 ?_
                    intro f188_0 f188_1 f188_2 f188_3
                    refine lv_iconst (v := 0) hx hb dX12_solves_191 (by decide) ?_
                    refine lv_istore hx hb dX12_solves_192 hl (by decide) rfl (fun ls (hl : lv_has ls _ ([(5, .int 0), (4, .int (nI (R2 + (1 + g5)))), (0, .ref h0), (1, .int rx), (2, .int al), (3, .int (nI g5))])) => ?_)
                    have hl : lv_has _ _ ([(0, .ref h0), (1, .int rx), (2, .int al), (3, .int (nI g5)), (4, .int (nI (R2 + (1 + g5)))), (5, .int (nI 0))]) := lv_sub hl [2, 3, 4, 5, 1, 0] rfl
                    refine (fun (loop : ∀ (n9 : Nat) (k6 : Nat) (g4 : Nat → Int32) (f24 : Nat → Int32) (f34 : Nat → Int32) (gs4 : Nat → Int64) (m4 : Nat → Int) (x19 : Int) (H : Heap) (locs : List Loc) (ls : Array Slot), (Bg g4 m4) → (m4 19 = x19) → (k6 ≤ vn) → (x19.natAbs < 2 ^ 67) → (∀ j, j ≤ vn + 1 → (m4 (30 + (R2 + (1 + g5)) * (vn + 1 + 1) + j)).natAbs < 2 ^ 74) → (∀ q, 19 < q → (q < 30 + (R2 + (1 + g5)) * (vn + 1 + 1) ∨ 30 + (R2 + (1 + g5)) * (vn + 1 + 1) + (vn + 1) < q) → m4 q = m3 q) →  (vn < k6 + n9) → va_P (dC, dI) vwCl (WR a k h0 (fT (fT (fT (fT vi 116 fx) 5 (nI (vn + 1))) 6 (nI R2)) 7 (nI ((1 + g5) + 1))) vj (fT (fT (fT (fT (fT (fT vF 0 g4) 4 f418) 6 f62) 5 f52) 2 f24) 3 f34) (fT vG 1 gs4)) H → va_D A (WR a k h0 (fT (fT (fT (fT vi 116 fx) 5 (nI (vn + 1))) 6 (nI R2)) 7 (nI ((1 + g5) + 1))) vj (fT (fT (fT (fT (fT (fT vF 0 g4) 4 f418) 6 f62) 5 f52) 2 f24) 3 f34) (fT vG 1 gs4)) → va_S A s.heap H locs → lv_has ls 6 [(0, .ref h0), (1, .int rx), (2, .int al), (3, .int (nI g5)), (4, .int (nI (R2 + (1 + g5)))), (5, .int (nI k6))] → W p l e _ s m _ below meth c H locs 0 0 _ (F0 m 194 ls [])) => loop (vn + 1) 0 g188 f2w188 f3w188 gs188 m2188 (m2188 19) _ _ _ (f188_0) (rfl) (by omega) (f188_2) (fun j hj => by rw [f188_3 _ (by omega), f181_1 j hj]; decide) (fun q h1 h2 => by (rw [f188_3 _ (by omega), f181_2 _ (by omega)])) (by omega) hP hD hS hl) ?_
                    intro n9
                    induction n9 with
                    | zero => intro k6 g4 f24 f34 gs4 m4 x19 H locs ls hB4 v_x19 hk6 h19b hrow hfr hf9; exact False.elim (by omega)
                    | succ n9 ih194_3 =>
                      intro k6 g4 f24 f34 gs4 m4 x19 H locs ls hB4 v_x19 hk6 h19b hrow hfr hf194_3 hP hD hS hl
                      refine lv_iload hx hb dX12_solves_194 (lv_at hl 5 rfl) ?_
                      refine lv_aload_n hx hb dX12_solves_196 rfl (lv_at hl 0 rfl) ?_
                      refine va_get (D := (dC, dI)) (ci := 12) (v := .int (vi 90)) (C := RX12) (T := TX12) (N := 163) (fs := fM (vS a (fT (fT (fT (fT vi 116 fx) 5 (nI (vn + 1))) 6 (nI R2)) 7 (nI ((1 + g5) + 1))) vj)) hx hb hts iwsRX12_solves_in12 hown hK hP 0 rfl rfl 90 (by decide) (hts (.fieldLink RX12 774 "OptimaWorksModel" "variables" "I") (by decide +kernel)) (fun _ h9 => h9) rfl dX12_solves_197 ?_
                      refine lv_topi (fun y5 hy5 => ?_)
                      obtain rfl : (nI vn) = y5 := (hy5.trans (hvn)).symm
                      refine lv_icmp_ge (tgt := 254) hx hb dX12_solves_200 (by decide) (fun c_200 => ?_) (fun c_200 => ?_)
                      · have t_200 : ((k6 : Nat) : Int) ≥ ((vn : Nat) : Int) := toI_ge c_200 (nI_toInt (by omega)) (nI_toInt (by omega))
                        have hx9 := hex (1 + g5) (by omega)
                        have hGl9 : GldG (vn + 1) R2 (R2 + (1 + (g5 + 1))) m4 := hGlm3.more (T := R2 + (1 + g5)) (by omega) (fun p h1 h2 => hfr p (by omega) (Or.inl h2)) hrow
                        have hBl9b : BldL (vn + 1) R2 m4 f52 := hBlm3.frame (fun p h1 h2 => hfr p (by omega) (Or.inl (by have h9 := row_lt (C := vn + 1) (show R2 ≤ R2 + (1 + g5) by omega); omega)))
                        have h209 : m4 20 = 1 := (hfr 20 (by omega) (by omega)).trans h20m3
                        have ho9 : ∀ q, 1000 ≤ q → m4 q = mg q := fun q hq => (hfr q (by omega) (by omega)).trans (hom3 q hq)
                        refine lv_iinc (v := (nI (g5 + 1))) hx hb dX12_solves_254 hl (k := 3) rfl (nI_add g5 1) (by decide) rfl (fun ls (hl : lv_has ls _ ([(3, .int (nI (g5 + 1))), (0, .ref h0), (1, .int rx), (2, .int al), (4, .int (nI (R2 + (1 + g5)))), (5, .int (nI k6))])) => ?_)
                        refine lv_goto (tgt := 168) hx hb dX12_solves_257 (by decide) ?_
                        have e9 : fT (fT (fT (fT vi 116 fx) 5 (nI (vn + 1))) 6 (nI R2)) 7 (nI (1 + (g5 + 1))) = fT (fT (fT (fT vi 116 fx) 5 (nI (vn + 1))) 6 (nI R2)) 7 (nI ((1 + g5) + 1)) := by funext q9; by_cases h9_116 : q9 = 116; (subst h9_116; exact ((fT_ne _ _ (Nat.ne_of_beq_eq_false rfl)).trans ((fT_ne _ _ (Nat.ne_of_beq_eq_false rfl)).trans ((fT_ne _ _ (Nat.ne_of_beq_eq_false rfl)).trans (fT_eq _ _ _)))).trans (Eq.trans (by first | with_reducible rfl | with_reducible assumption | (symm; with_reducible assumption) | rfl | assumption | (symm; assumption) | (subst_vars; rfl)) ((fT_ne _ _ (Nat.ne_of_beq_eq_false rfl)).trans ((fT_ne _ _ (Nat.ne_of_beq_eq_false rfl)).trans ((fT_ne _ _ (Nat.ne_of_beq_eq_false rfl)).trans (fT_eq _ _ _)))).symm)); by_cases h9_5 : q9 = 5; (subst h9_5; exact ((fT_ne _ _ (Nat.ne_of_beq_eq_false rfl)).trans ((fT_ne _ _ (Nat.ne_of_beq_eq_false rfl)).trans (fT_eq _ _ _))).trans (Eq.trans (by first | with_reducible rfl | with_reducible assumption | (symm; with_reducible assumption) | rfl | assumption | (symm; assumption) | (subst_vars; rfl)) ((fT_ne _ _ (Nat.ne_of_beq_eq_false rfl)).trans ((fT_ne _ _ (Nat.ne_of_beq_eq_false rfl)).trans (fT_eq _ _ _))).symm)); by_cases h9_6 : q9 = 6; (subst h9_6; exact ((fT_ne _ _ (Nat.ne_of_beq_eq_false rfl)).trans (fT_eq _ _ _)).trans (Eq.trans (by first | with_reducible rfl | with_reducible assumption | (symm; with_reducible assumption) | rfl | assumption | (symm; assumption) | (subst_vars; rfl)) ((fT_ne _ _ (Nat.ne_of_beq_eq_false rfl)).trans (fT_eq _ _ _)).symm)); by_cases h9_7 : q9 = 7; (subst h9_7; exact (fT_eq _ _ _).trans (Eq.trans (by first | with_reducible rfl | with_reducible assumption | (symm; with_reducible assumption) | rfl | assumption | (symm; assumption) | (subst_vars; rfl)) (fT_eq _ _ _).symm)); exact ((fT_ne _ _ h9_7).trans ((fT_ne _ _ h9_6).trans ((fT_ne _ _ h9_5).trans (fT_ne _ _ h9_116)))).trans ((fT_ne _ _ h9_7).trans ((fT_ne _ _ h9_6).trans ((fT_ne _ _ h9_5).trans (fT_ne _ _ h9_116)))).symm
                        have hP : va_P (dC, dI) vwCl (WR a k h0 (fT (fT (fT (fT vi 116 fx) 5 (nI (vn + 1))) 6 (nI R2)) 7 (nI (1 + (g5 + 1)))) vj (fT (fT (fT (fT (fT (fT vF 0 g4) 4 f418) 6 f62) 5 f52) 2 f24) 3 f34) (fT vG 1 gs4)) H := by rw [e9]; exact hP
                        have hD : va_D A (WR a k h0 (fT (fT (fT (fT vi 116 fx) 5 (nI (vn + 1))) 6 (nI R2)) 7 (nI (1 + (g5 + 1)))) vj (fT (fT (fT (fT (fT (fT vF 0 g4) 4 f418) 6 f62) 5 f52) 2 f24) 3 f34) (fT vG 1 gs4)) := by rw [e9]; exact hD
                        clear e9
                        have hl : lv_has _ _ ([(0, .ref h0), (1, .int rx), (2, .int al), (3, .int (nI (g5 + 1)))]) := lv_sub hl [1, 2, 3, 0] rfl
                        exact ih168_2 (g5 + 1) g4 f24 f34 gs4 m4 _ _ _ (hB4) (by omega) (hGl9) (hBl9b) (h209) (ho9) (by omega) hP hD hS hl
                      · have t_200 : ¬ ((k6 : Nat) : Int) ≥ ((vn : Nat) : Int) := toI_nge c_200 (nI_toInt (by omega)) (nI_toInt (by omega))
                        refine lv_aload_n hx hb dX12_solves_203 rfl (lv_at hl 0 rfl) ?_
                        refine lv_iload_n hx hb dX12_solves_204 rfl (lv_at hl 3 rfl) ?_
                        refine lv_iload hx hb dX12_solves_205 (lv_at hl 5 rfl) ?_
                        refine lv_iconst (v := 1) hx hb dX12_solves_207 (by decide) ?_
                        refine lv_iadd hx hb dX12_solves_208 ?_
                        refine lv_topi (fun y6 hy6 => ?_)
                        obtain rfl : (nI (k6 + 1)) = y6 := (hy6.trans (nI_add k6 1)).symm
                        have hFc := allFree hD hS hA
                        refine va_callv (va_runV (As := [.int (nI g5), .int (nI (k6 + 1))]) (rest := []) ⟨hx, hb, hml, hown, hts⟩ (r_X12_goalNumber l dC dI a k h0 (fT (fT (fT (fT vi 116 fx) 5 (nI (vn + 1))) 6 (nI R2)) 7 (nI ((1 + g5) + 1))) vj (fT (fT (fT (fT (fT (fT vF 0 g4) 4 f418) 6 f62) 5 f52) 2 f24) 3 f34) (fT vG 1 gs4) g5 (k6 + 1) gq m4 hB4 x19 (by rw [v_x19]) (by first | with_reducible assumption | decide | omega | rfl | assumption) (by first | with_reducible assumption | decide | omega | rfl | assumption) (by first | with_reducible assumption | decide | omega | rfl | assumption) (by first | with_reducible assumption | decide | omega | rfl | assumption) (h19b) H.size) (cwV 2 hts gwsRX12_solves_4 rfl rfl rfl hd_yX12_goalNumber_RX12 (by decide +kernel)) (fz_pre (va_recv hK hP (ci := 12) (q0 := 0) rfl rfl) hP hK hD) rfl rfl hl.1 rfl (lv_room (Nat.le_of_ble_eq_true rfl)) dX12_solves_209 (by decide +kernel)) hS (fun q _ h => hFc q h) hFc (fun u t9_ H locs ht hvm hw9 hB9 hz1 hk1 hS => ?_)
                        revert u
                        refine fz_p5 ?_
                        intro g209 f2w209 f3w209 gs209 m2209 hw9 hB9
                        try dsimp only at hw9 hB9
                        have hP : va_P (dC, dI) vwCl (WR a k h0 (fT (fT (fT (fT vi 116 fx) 5 (nI (vn + 1))) 6 (nI R2)) 7 (nI ((1 + g5) + 1))) vj (fT (fT (fT (fT (fT (fT (fT (fT (fT vF 0 g4) 4 f418) 6 f62) 5 f52) 2 f24) 3 f34) 0 g209) 2 f2w209) 3 f3w209) (fT (fT vG 1 gs4) 1 gs209)) H := fz_P ht hB9.1
                        have hD : va_D A (WR a k h0 (fT (fT (fT (fT vi 116 fx) 5 (nI (vn + 1))) 6 (nI R2)) 7 (nI ((1 + g5) + 1))) vj (fT (fT (fT (fT (fT (fT (fT (fT (fT vF 0 g4) 4 f418) 6 f62) 5 f52) 2 f24) 3 f34) 0 g209) 2 f2w209) 3 f3w209) (fT (fT vG 1 gs4) 1 gs209)) := hB9.2.weaken (fun _ q _ h => hFc q.1 h)
                        have e9 : fT (fT (fT (fT (fT (fT vF 0 g209) 4 f418) 6 f62) 5 f52) 2 f2w209) 3 f3w209 = fT (fT (fT (fT (fT (fT (fT (fT (fT vF 0 g4) 4 f418) 6 f62) 5 f52) 2 f24) 3 f34) 0 g209) 2 f2w209) 3 f3w209 := ((congrArg (fun g9 => fT (fT g9 2 f2w209) 3 f3w209) ((fT_sw _ _ _ (Nat.ne_of_beq_eq_false rfl)).trans (congrArg (fun g9 => fT g9 3 f34) ((fT_sw _ _ _ (Nat.ne_of_beq_eq_false rfl)).trans (congrArg (fun g9 => fT g9 2 f24) ((fT_sw _ _ _ (Nat.ne_of_beq_eq_false rfl)).trans (congrArg (fun g9 => fT g9 5 f52) ((fT_sw _ _ _ (Nat.ne_of_beq_eq_false rfl)).trans (congrArg (fun g9 => fT g9 6 f62) ((fT_sw _ _ _ (Nat.ne_of_beq_eq_false rfl)).trans (congrArg (fun g9 => fT g9 4 f418) (fT_sm _ _ _ _)))))))))))).trans ((congrArg (fun g9 => fT g9 3 f3w209) ((fT_sw _ _ _ (Nat.ne_of_beq_eq_false rfl)).trans (congrArg (fun g9 => fT g9 3 f34) (fT_sm _ _ _ _)))).trans (fT_sm _ _ _ _))).symm
                        rw [← e9] at hP hD
                        clear e9
                        have e9 : fT vG 1 gs209 = fT (fT vG 1 gs4) 1 gs209 := (fT_sm _ _ _ _).symm
                        rw [← e9] at hP hD
                        clear e9
                        have hP : va_P (dC, dI) vwCl (WR a k h0 (fT (fT (fT (fT vi 116 fx) 5 (nI (vn + 1))) 6 (nI R2)) 7 (nI ((1 + g5) + 1))) vj (fT (fT (fT (fT (fT (fT vF 0 g209) 4 f418) 6 f62) 5 f52) 2 f2w209) 3 f3w209) (fT vG 1 gs209)) H := hP
                        have hD : va_D A (WR a k h0 (fT (fT (fT (fT vi 116 fx) 5 (nI (vn + 1))) 6 (nI R2)) 7 (nI ((1 + g5) + 1))) vj (fT (fT (fT (fT (fT (fT vF 0 g209) 4 f418) 6 f62) 5 f52) 2 f2w209) 3 f3w209) (fT vG 1 gs209)) := hD
                        revert hw9
                        refine fz_a4 ?_
                        intro f209_0 f209_1 f209_2 f209_3
                        refine lv_aload_n hx hb dX12_solves_212 rfl (lv_at hl 0 rfl) ?_
                        refine lv_aload_n hx hb dX12_solves_213 rfl (lv_at hl 0 rfl) ?_
                        refine lv_iload hx hb dX12_solves_214 (lv_at hl 4 rfl) ?_
                        refine lv_iload hx hb dX12_solves_216 (lv_at hl 5 rfl) ?_
                        have hFc := allFree hD hS hA
                        refine va_calli (va_runV (As := [.int (nI (R2 + (1 + g5))), .int (nI k6)]) (rest := [.ref h0]) ⟨hx, hb, hml, hown, hts⟩ (r_X12_at l dC dI a k h0 (fT (fT (fT (fT vi 116 fx) 5 (nI (vn + 1))) 6 (nI R2)) 7 (nI ((1 + g5) + 1))) vj (fT (fT (fT (fT (fT (fT vF 0 g209) 4 f418) 6 f62) 5 f52) 2 f2w209) 3 f3w209) (fT vG 1 gs209) (R2 + (1 + g5)) k6 (vn + 1) (by first | with_reducible assumption | decide | omega | rfl | assumption) H.size) (cwV 2 hts gwsRX12_solves_5 rfl rfl rfl hd_yX12_at_RX12 (by decide +kernel)) (fz_pre (va_recv hK hP (ci := 12) (q0 := 0) rfl rfl) hP hK hD) rfl rfl hl.1 rfl (lv_room (Nat.le_of_ble_eq_true rfl)) dX12_solves_218 (by decide +kernel)) hS (fun q _ h => hFc q h) hFc (fun r218 u t9_ H locs ht hvm hw9 hB9 hz1 hk1 hS => ?_)
                        have hP : va_P (dC, dI) vwCl (WR a k h0 (fT (fT (fT (fT vi 116 fx) 5 (nI (vn + 1))) 6 (nI R2)) 7 (nI ((1 + g5) + 1))) vj (fT (fT (fT (fT (fT (fT vF 0 g209) 4 f418) 6 f62) 5 f52) 2 f2w209) 3 f3w209) (fT vG 1 gs209)) H := fz_P ht hB9.1
                        have hD : va_D A (WR a k h0 (fT (fT (fT (fT vi 116 fx) 5 (nI (vn + 1))) 6 (nI R2)) 7 (nI ((1 + g5) + 1))) vj (fT (fT (fT (fT (fT (fT vF 0 g209) 4 f418) 6 f62) 5 f52) 2 f2w209) 3 f3w209) (fT vG 1 gs209)) := hB9.2.weaken (fun _ q _ h => hFc q.1 h)
                        obtain rfl := hw9
                        have b17 := gn_bd1 h19b f209_2
                        refine lv_bipush (v := 17) hx hb dX12_solves_221 (by decide) ?_
                        have hFc := allFree hD hS hA
                        refine va_callv (va_runV (As := [.int (nI (30 + (R2 + (1 + g5)) * ((vn + 1) + 1) + k6)), .int 17]) (rest := []) ⟨hx, hb, hml, hown, hts⟩ (b_X12_copy l dC dI a k h0 (fT (fT (fT (fT vi 116 fx) 5 (nI (vn + 1))) 6 (nI R2)) 7 (nI ((1 + g5) + 1))) vj (fT (fT (fT (fT (fT (fT vF 0 g209) 4 f418) 6 f62) 5 f52) 2 f2w209) 3 f3w209) (fT vG 1 gs209) (30 + (R2 + (1 + g5)) * ((vn + 1) + 1) + k6) 17 m2209 f209_0 (m2209 17) rfl (by first | with_reducible assumption | decide | omega | rfl | assumption) (by first | with_reducible assumption | decide | omega | rfl | assumption) (by first | with_reducible assumption | decide | omega | rfl | assumption) H.size) (cwV 2 hts gwsRX12_solves_6 rfl rfl rfl hd_yX12_copy_RX12 (by decide +kernel)) (fz_pre (va_recv hK hP (ci := 12) (q0 := 0) rfl rfl) hP hK hD) rfl rfl hl.1 rfl (lv_room (Nat.le_of_ble_eq_true rfl)) dX12_solves_223 (by decide +kernel)) hS (fun q _ h => hFc q h) hFc (fun g223 t9_ H locs ht hvm hw9 hB9 hz1 hk1 hS => ?_)
                        have hP : va_P (dC, dI) vwCl (WR a k h0 (fT (fT (fT (fT vi 116 fx) 5 (nI (vn + 1))) 6 (nI R2)) 7 (nI ((1 + g5) + 1))) vj (fT (fT (fT (fT (fT (fT (fT vF 0 g209) 4 f418) 6 f62) 5 f52) 2 f2w209) 3 f3w209) 0 g223) (fT vG 1 gs209)) H := fz_P ht hB9.1
                        have hD : va_D A (WR a k h0 (fT (fT (fT (fT vi 116 fx) 5 (nI (vn + 1))) 6 (nI R2)) 7 (nI ((1 + g5) + 1))) vj (fT (fT (fT (fT (fT (fT (fT vF 0 g209) 4 f418) 6 f62) 5 f52) 2 f2w209) 3 f3w209) 0 g223) (fT vG 1 gs209)) := hB9.2.weaken (fun _ q _ h => hFc q.1 h)
                        have e9 : fT (fT (fT (fT (fT (fT vF 0 g223) 4 f418) 6 f62) 5 f52) 2 f2w209) 3 f3w209 = fT (fT (fT (fT (fT (fT (fT vF 0 g209) 4 f418) 6 f62) 5 f52) 2 f2w209) 3 f3w209) 0 g223 := ((fT_sw _ _ _ (Nat.ne_of_beq_eq_false rfl)).trans (congrArg (fun g9 => fT g9 3 f3w209) ((fT_sw _ _ _ (Nat.ne_of_beq_eq_false rfl)).trans (congrArg (fun g9 => fT g9 2 f2w209) ((fT_sw _ _ _ (Nat.ne_of_beq_eq_false rfl)).trans (congrArg (fun g9 => fT g9 5 f52) ((fT_sw _ _ _ (Nat.ne_of_beq_eq_false rfl)).trans (congrArg (fun g9 => fT g9 6 f62) ((fT_sw _ _ _ (Nat.ne_of_beq_eq_false rfl)).trans (congrArg (fun g9 => fT g9 4 f418) (fT_sm _ _ _ _))))))))))).symm
                        rw [← e9] at hP hD
                        clear e9
                        have hP : va_P (dC, dI) vwCl (WR a k h0 (fT (fT (fT (fT vi 116 fx) 5 (nI (vn + 1))) 6 (nI R2)) 7 (nI ((1 + g5) + 1))) vj (fT (fT (fT (fT (fT (fT vF 0 g223) 4 f418) 6 f62) 5 f52) 2 f2w209) 3 f3w209) (fT vG 1 gs209)) H := hP
                        have hD : va_D A (WR a k h0 (fT (fT (fT (fT vi 116 fx) 5 (nI (vn + 1))) 6 (nI R2)) 7 (nI ((1 + g5) + 1))) vj (fT (fT (fT (fT (fT (fT vF 0 g223) 4 f418) 6 f62) 5 f52) 2 f2w209) 3 f3w209) (fT vG 1 gs209)) := hD
                        have f223_0 := hw9
                        try dsimp only at f223_0
                        refine lv_aload_n hx hb dX12_solves_226 rfl (lv_at hl 0 rfl) ?_
                        refine va_get (D := (dC, dI)) (ci := 12) (v := .ref (a 65)) (C := RX12) (T := TX12) (N := 163) (fs := fM (vS a (fT (fT (fT (fT vi 116 fx) 5 (nI (vn + 1))) 6 (nI R2)) 7 (nI ((1 + g5) + 1))) vj)) hx hb hts iwsRX12_solves_in12 hown hK hP 0 rfl rfl 105 (by decide) (hts (.fieldLink RX12 218 "OptimaWorksModel" "goalMax" "[I") (by decide +kernel)) (fun _ h9 => h9) rfl dX12_solves_227 ?_
                        refine lv_iload_n hx hb dX12_solves_230 rfl (lv_at hl 3 rfl) ?_
                        refine va_iald (cA := k 65) (n := 3) (f := (vF 65)) hx hb hK hP 66 65 (WR_get 65 (by decide)) (TR_get 65 (by decide)) (vp_in_nI (show g5 < 3 by omega) (by omega)) dX12_solves_231 ?_
                        refine lv_topi (fun y7 hy7 => ?_)
                        obtain rfl : ((vF 65) g5) = y7 := (hy7.trans (by rw [nI_clamp (by omega)])).symm
                        refine lv_iconst (v := 1) hx hb dX12_solves_232 (by decide) ?_
                        refine lv_icmp_ne (tgt := 248) hx hb dX12_solves_233 (by decide) (fun c_233 => ?_) (fun c_233 => ?_)
                        · have t_233 : (((vF 65) g5)).toInt ≠ 1 := toI_ne c_233 rfl (by decide)
                          refine lv_iinc (v := (nI (k6 + 1))) hx hb dX12_solves_248 hl (k := 5) rfl (nI_add k6 1) (by decide) rfl (fun ls (hl : lv_has ls _ ([(5, .int (nI (k6 + 1))), (0, .ref h0), (1, .int rx), (2, .int al), (3, .int (nI g5)), (4, .int (nI (R2 + (1 + g5))))])) => ?_)
                          refine lv_goto (tgt := 194) hx hb dX12_solves_251 (by decide) ?_
                          have hl : lv_has _ _ ([(0, .ref h0), (1, .int rx), (2, .int al), (3, .int (nI g5)), (4, .int (nI (R2 + (1 + g5)))), (5, .int (nI (k6 + 1)))]) := lv_sub hl [1, 2, 3, 4, 5, 0] rfl
                          exact ih194_3 (k6 + 1) g223 f2w209 f3w209 gs209 (fT m2209 (30 + (R2 + (1 + g5)) * ((vn + 1) + 1) + k6) (m2209 17)) x19 _ _ _ (f223_0) ((by rw [fT_ne _ _ (by omega), f209_1])) (by omega) (h19b) (fun j hj => by by_cases e9 : j = k6; (rw [e9, fT_eq]; exact b17); (rw [fT_ne _ _ (by omega), f209_3 _ (by omega)]; exact hrow j hj)) (fun q h1 h2 => by (rw [fT_ne _ _ (by omega), f209_3 _ (by omega)]); exact hfr q h1 h2) (by omega) hP hD hS hl
                        · have t_233 : (((vF 65) g5)).toInt = 1 := toI_nne c_233 rfl (by decide)
                          refine lv_aload_n hx hb dX12_solves_236 rfl (lv_at hl 0 rfl) ?_
                          refine lv_aload_n hx hb dX12_solves_237 rfl (lv_at hl 0 rfl) ?_
                          refine lv_iload hx hb dX12_solves_238 (lv_at hl 4 rfl) ?_
                          refine lv_iload hx hb dX12_solves_240 (lv_at hl 5 rfl) ?_
                          have hFc := allFree hD hS hA
                          refine va_calli (va_runV (As := [.int (nI (R2 + (1 + g5))), .int (nI k6)]) (rest := [.ref h0]) ⟨hx, hb, hml, hown, hts⟩ (r_X12_at l dC dI a k h0 (fT (fT (fT (fT vi 116 fx) 5 (nI (vn + 1))) 6 (nI R2)) 7 (nI ((1 + g5) + 1))) vj (fT (fT (fT (fT (fT (fT vF 0 g223) 4 f418) 6 f62) 5 f52) 2 f2w209) 3 f3w209) (fT vG 1 gs209) (R2 + (1 + g5)) k6 (vn + 1) (by first | with_reducible assumption | decide | omega | rfl | assumption) H.size) (cwV 2 hts gwsRX12_solves_5 rfl rfl rfl hd_yX12_at_RX12 (by decide +kernel)) (fz_pre (va_recv hK hP (ci := 12) (q0 := 0) rfl rfl) hP hK hD) rfl rfl hl.1 rfl (lv_room (Nat.le_of_ble_eq_true rfl)) dX12_solves_242 (by decide +kernel)) hS (fun q _ h => hFc q h) hFc (fun r242 u t9_ H locs ht hvm hw9 hB9 hz1 hk1 hS => ?_)
                          have hP : va_P (dC, dI) vwCl (WR a k h0 (fT (fT (fT (fT vi 116 fx) 5 (nI (vn + 1))) 6 (nI R2)) 7 (nI ((1 + g5) + 1))) vj (fT (fT (fT (fT (fT (fT vF 0 g223) 4 f418) 6 f62) 5 f52) 2 f2w209) 3 f3w209) (fT vG 1 gs209)) H := fz_P ht hB9.1
                          have hD : va_D A (WR a k h0 (fT (fT (fT (fT vi 116 fx) 5 (nI (vn + 1))) 6 (nI R2)) 7 (nI ((1 + g5) + 1))) vj (fT (fT (fT (fT (fT (fT vF 0 g223) 4 f418) 6 f62) 5 f52) 2 f2w209) 3 f3w209) (fT vG 1 gs209)) := hB9.2.weaken (fun _ q _ h => hFc q.1 h)
                          obtain rfl := hw9
                          have hFc := allFree hD hS hA
                          refine va_callv (va_runV (As := [.int (nI (30 + (R2 + (1 + g5)) * ((vn + 1) + 1) + k6))]) (rest := []) ⟨hx, hb, hml, hown, hts⟩ (b_X12_turn l dC dI a k h0 (fT (fT (fT (fT vi 116 fx) 5 (nI (vn + 1))) 6 (nI R2)) 7 (nI ((1 + g5) + 1))) vj (fT (fT (fT (fT (fT (fT vF 0 g223) 4 f418) 6 f62) 5 f52) 2 f2w209) 3 f3w209) (fT vG 1 gs209) (30 + (R2 + (1 + g5)) * ((vn + 1) + 1) + k6) (fT m2209 (30 + (R2 + (1 + g5)) * ((vn + 1) + 1) + k6) (m2209 17)) f223_0 (m2209 17) (by rw [fT_eq]) (by first | with_reducible assumption | decide | omega | rfl | assumption) H.size) (cwV 1 hts gwsRX12_solves_7 rfl rfl rfl hd_yX12_turn_RX12 (by decide +kernel)) (fz_pre (va_recv hK hP (ci := 12) (q0 := 0) rfl rfl) hP hK hD) rfl rfl hl.1 rfl (lv_room (Nat.le_of_ble_eq_true rfl)) dX12_solves_245 (by decide +kernel)) hS (fun q _ h => hFc q h) hFc (fun u t9_ H locs ht hvm hw9 hB9 hz1 hk1 hS => ?_)
                          have hP : va_P (dC, dI) vwCl (WR a k h0 (fT (fT (fT (fT vi 116 fx) 5 (nI (vn + 1))) 6 (nI R2)) 7 (nI ((1 + g5) + 1))) vj (fT (fT (fT (fT (fT (fT (fT vF 0 g223) 4 f418) 6 f62) 5 f52) 2 f2w209) 3 f3w209) 0 (upd g223 (nI (24 * (30 + (R2 + (1 + g5)) * ((vn + 1) + 1) + k6))).toNatClampNeg (-(g223 (24 * (30 + (R2 + (1 + g5)) * ((vn + 1) + 1) + k6)))))) (fT vG 1 gs209)) H := fz_P ht hB9.1
                          have hD : va_D A (WR a k h0 (fT (fT (fT (fT vi 116 fx) 5 (nI (vn + 1))) 6 (nI R2)) 7 (nI ((1 + g5) + 1))) vj (fT (fT (fT (fT (fT (fT (fT vF 0 g223) 4 f418) 6 f62) 5 f52) 2 f2w209) 3 f3w209) 0 (upd g223 (nI (24 * (30 + (R2 + (1 + g5)) * ((vn + 1) + 1) + k6))).toNatClampNeg (-(g223 (24 * (30 + (R2 + (1 + g5)) * ((vn + 1) + 1) + k6)))))) (fT vG 1 gs209)) := hB9.2.weaken (fun _ q _ h => hFc q.1 h)
                          have e9 : fT (fT (fT (fT (fT (fT vF 0 (upd g223 (nI (24 * (30 + (R2 + (1 + g5)) * ((vn + 1) + 1) + k6))).toNatClampNeg (-(g223 (24 * (30 + (R2 + (1 + g5)) * ((vn + 1) + 1) + k6)))))) 4 f418) 6 f62) 5 f52) 2 f2w209) 3 f3w209 = fT (fT (fT (fT (fT (fT (fT vF 0 g223) 4 f418) 6 f62) 5 f52) 2 f2w209) 3 f3w209) 0 (upd g223 (nI (24 * (30 + (R2 + (1 + g5)) * ((vn + 1) + 1) + k6))).toNatClampNeg (-(g223 (24 * (30 + (R2 + (1 + g5)) * ((vn + 1) + 1) + k6))))) := ((fT_sw _ _ _ (Nat.ne_of_beq_eq_false rfl)).trans (congrArg (fun g9 => fT g9 3 f3w209) ((fT_sw _ _ _ (Nat.ne_of_beq_eq_false rfl)).trans (congrArg (fun g9 => fT g9 2 f2w209) ((fT_sw _ _ _ (Nat.ne_of_beq_eq_false rfl)).trans (congrArg (fun g9 => fT g9 5 f52) ((fT_sw _ _ _ (Nat.ne_of_beq_eq_false rfl)).trans (congrArg (fun g9 => fT g9 6 f62) ((fT_sw _ _ _ (Nat.ne_of_beq_eq_false rfl)).trans (congrArg (fun g9 => fT g9 4 f418) (fT_sm _ _ _ _))))))))))).symm
                          rw [← e9] at hP hD
                          clear e9
                          have hP : va_P (dC, dI) vwCl (WR a k h0 (fT (fT (fT (fT vi 116 fx) 5 (nI (vn + 1))) 6 (nI R2)) 7 (nI ((1 + g5) + 1))) vj (fT (fT (fT (fT (fT (fT vF 0 (upd g223 (nI (24 * (30 + (R2 + (1 + g5)) * ((vn + 1) + 1) + k6))).toNatClampNeg (-(g223 (24 * (30 + (R2 + (1 + g5)) * ((vn + 1) + 1) + k6)))))) 4 f418) 6 f62) 5 f52) 2 f2w209) 3 f3w209) (fT vG 1 gs209)) H := hP
                          have hD : va_D A (WR a k h0 (fT (fT (fT (fT vi 116 fx) 5 (nI (vn + 1))) 6 (nI R2)) 7 (nI ((1 + g5) + 1))) vj (fT (fT (fT (fT (fT (fT vF 0 (upd g223 (nI (24 * (30 + (R2 + (1 + g5)) * ((vn + 1) + 1) + k6))).toNatClampNeg (-(g223 (24 * (30 + (R2 + (1 + g5)) * ((vn + 1) + 1) + k6)))))) 4 f418) 6 f62) 5 f52) 2 f2w209) 3 f3w209) (fT vG 1 gs209)) := hD
                          have f245_0 := hw9
                          try dsimp only at f245_0
                          have f245_0 : Bg (upd g223 (nI (24 * (30 + (R2 + (1 + g5)) * ((vn + 1) + 1) + k6))).toNatClampNeg (-(g223 (24 * (30 + (R2 + (1 + g5)) * ((vn + 1) + 1) + k6))))) (fT (fT m2209 (30 + (R2 + (1 + g5)) * ((vn + 1) + 1) + k6) (m2209 17)) (30 + (R2 + (1 + g5)) * ((vn + 1) + 1) + k6) (-(m2209 17))) := f245_0
                          refine lv_iinc (v := (nI (k6 + 1))) hx hb dX12_solves_248 hl (k := 5) rfl (nI_add k6 1) (by decide) rfl (fun ls (hl : lv_has ls _ ([(5, .int (nI (k6 + 1))), (0, .ref h0), (1, .int rx), (2, .int al), (3, .int (nI g5)), (4, .int (nI (R2 + (1 + g5))))])) => ?_)
                          refine lv_goto (tgt := 194) hx hb dX12_solves_251 (by decide) ?_
                          have hl : lv_has _ _ ([(0, .ref h0), (1, .int rx), (2, .int al), (3, .int (nI g5)), (4, .int (nI (R2 + (1 + g5)))), (5, .int (nI (k6 + 1)))]) := lv_sub hl [1, 2, 3, 4, 5, 0] rfl
                          exact ih194_3 (k6 + 1) (upd g223 (nI (24 * (30 + (R2 + (1 + g5)) * ((vn + 1) + 1) + k6))).toNatClampNeg (-(g223 (24 * (30 + (R2 + (1 + g5)) * ((vn + 1) + 1) + k6))))) f2w209 f3w209 gs209 (fT (fT m2209 (30 + (R2 + (1 + g5)) * ((vn + 1) + 1) + k6) (m2209 17)) (30 + (R2 + (1 + g5)) * ((vn + 1) + 1) + k6) (-(m2209 17))) x19 _ _ _ (f245_0) ((by rw [fT_ne _ _ (by omega), fT_ne _ _ (by omega), f209_1])) (by omega) (h19b) (fun j hj => by by_cases e9 : j = k6; (rw [e9, fT_eq]; rw [Int.natAbs_neg]; exact b17); (rw [fT_ne _ _ (by omega), fT_ne _ _ (by omega), f209_3 _ (by omega)]; exact hrow j hj)) (fun q h1 h2 => by (rw [fT_ne _ _ (by omega), fT_ne _ _ (by omega), f209_3 _ (by omega)]); exact hfr q h1 h2) (by omega) hP hD hS hl
            · rintro H locs ls stk ⟨GA, gA, f2A, f3A, gsA, mA, hBA, hGA, halA, hGlmA, hBlmA, h20mA, homA, rfl, hP, hD, hS, hl⟩
              refine W.cut (pc := 294) (fun H locs ls stk => ∃ (GB : Nat) (gB : Nat → Int32) (mB : Nat → Int), (Bg gB mB) ∧ (1 ≤ GB ∧ GB ≤ 12) ∧ (al = 0 ∨ GB = 1 + gq + vn) ∧ (GldG (vn + 1) R2 (R2 + GB) mB) ∧ (BldL (vn + 1) R2 mB f52) ∧ (mB 20 = 1) ∧ (∀ q, 1000 ≤ q → mB q = mg q) ∧  stk = [] ∧ va_P (dC, dI) vwCl (WR a k h0 (fT (fT (fT (fT vi 116 fx) 5 (nI (vn + 1))) 6 (nI R2)) 7 (nI GB)) vj (fT (fT (fT (fT (fT (fT vF 0 gB) 4 f418) 6 f62) 5 f52) 2 f2A) 3 f3A) (fT vG 1 gsA)) H ∧ va_D A (WR a k h0 (fT (fT (fT (fT vi 116 fx) 5 (nI (vn + 1))) 6 (nI R2)) 7 (nI GB)) vj (fT (fT (fT (fT (fT (fT vF 0 gB) 4 f418) 6 f62) 5 f52) 2 f2A) 3 f3A) (fT vG 1 gsA)) ∧ va_S A s.heap H locs ∧ lv_has ls 6 [(0, .ref h0), (1, .int rx), (2, .int al)]) (fun join3 => ?_) ?_
              · refine lv_iconst (v := 0) hx hb dX12_solves_260 (by decide) ?_
                refine lv_istore_n hx hb dX12_solves_261 rfl hl (by decide) rfl (fun ls (hl : lv_has ls _ ([(3, .int 0), (0, .ref h0), (1, .int rx), (2, .int al)])) => ?_)
                have e9 : fT (fT (fT (fT vi 116 fx) 5 (nI (vn + 1))) 6 (nI R2)) 7 (nI (GA + 0)) = fT (fT (fT (fT vi 116 fx) 5 (nI (vn + 1))) 6 (nI R2)) 7 (nI GA) := by funext q9; by_cases h9_116 : q9 = 116; (subst h9_116; exact ((fT_ne _ _ (Nat.ne_of_beq_eq_false rfl)).trans ((fT_ne _ _ (Nat.ne_of_beq_eq_false rfl)).trans ((fT_ne _ _ (Nat.ne_of_beq_eq_false rfl)).trans (fT_eq _ _ _)))).trans (Eq.trans (by first | with_reducible rfl | with_reducible assumption | (symm; with_reducible assumption) | rfl | assumption | (symm; assumption) | (subst_vars; rfl)) ((fT_ne _ _ (Nat.ne_of_beq_eq_false rfl)).trans ((fT_ne _ _ (Nat.ne_of_beq_eq_false rfl)).trans ((fT_ne _ _ (Nat.ne_of_beq_eq_false rfl)).trans (fT_eq _ _ _)))).symm)); by_cases h9_5 : q9 = 5; (subst h9_5; exact ((fT_ne _ _ (Nat.ne_of_beq_eq_false rfl)).trans ((fT_ne _ _ (Nat.ne_of_beq_eq_false rfl)).trans (fT_eq _ _ _))).trans (Eq.trans (by first | with_reducible rfl | with_reducible assumption | (symm; with_reducible assumption) | rfl | assumption | (symm; assumption) | (subst_vars; rfl)) ((fT_ne _ _ (Nat.ne_of_beq_eq_false rfl)).trans ((fT_ne _ _ (Nat.ne_of_beq_eq_false rfl)).trans (fT_eq _ _ _))).symm)); by_cases h9_6 : q9 = 6; (subst h9_6; exact ((fT_ne _ _ (Nat.ne_of_beq_eq_false rfl)).trans (fT_eq _ _ _)).trans (Eq.trans (by first | with_reducible rfl | with_reducible assumption | (symm; with_reducible assumption) | rfl | assumption | (symm; assumption) | (subst_vars; rfl)) ((fT_ne _ _ (Nat.ne_of_beq_eq_false rfl)).trans (fT_eq _ _ _)).symm)); by_cases h9_7 : q9 = 7; (subst h9_7; exact (fT_eq _ _ _).trans (Eq.trans (by first | with_reducible rfl | with_reducible assumption | (symm; with_reducible assumption) | rfl | assumption | (symm; assumption) | (subst_vars; rfl)) (fT_eq _ _ _).symm)); exact ((fT_ne _ _ h9_7).trans ((fT_ne _ _ h9_6).trans ((fT_ne _ _ h9_5).trans (fT_ne _ _ h9_116)))).trans ((fT_ne _ _ h9_7).trans ((fT_ne _ _ h9_6).trans ((fT_ne _ _ h9_5).trans (fT_ne _ _ h9_116)))).symm
                have hP : va_P (dC, dI) vwCl (WR a k h0 (fT (fT (fT (fT vi 116 fx) 5 (nI (vn + 1))) 6 (nI R2)) 7 (nI (GA + 0))) vj (fT (fT (fT (fT (fT (fT vF 0 gA) 4 f418) 6 f62) 5 f52) 2 f2A) 3 f3A) (fT vG 1 gsA)) H := by rw [e9]; exact hP
                have hD : va_D A (WR a k h0 (fT (fT (fT (fT vi 116 fx) 5 (nI (vn + 1))) 6 (nI R2)) 7 (nI (GA + 0))) vj (fT (fT (fT (fT (fT (fT vF 0 gA) 4 f418) 6 f62) 5 f52) 2 f2A) 3 f3A) (fT vG 1 gsA)) := by rw [e9]; exact hD
                clear e9
                have hl : lv_has _ _ ([(0, .ref h0), (1, .int rx), (2, .int al), (3, .int (nI 0))]) := lv_sub hl [1, 2, 3, 0] rfl
                refine (fun (loop : ∀ (n9 : Nat) (k7 : Nat) (g5w : Nat → Int32) (m5 : Nat → Int) (H : Heap) (locs : List Loc) (ls : Array Slot), (Bg g5w m5) → (k7 ≤ vn) → (GldG (vn + 1) R2 (R2 + (GA + k7)) m5) → (BldL (vn + 1) R2 m5 f52) → (m5 20 = 1) → (∀ q, 1000 ≤ q → m5 q = mg q) →  (vn < k7 + n9) → va_P (dC, dI) vwCl (WR a k h0 (fT (fT (fT (fT vi 116 fx) 5 (nI (vn + 1))) 6 (nI R2)) 7 (nI (GA + k7))) vj (fT (fT (fT (fT (fT (fT vF 0 g5w) 4 f418) 6 f62) 5 f52) 2 f2A) 3 f3A) (fT vG 1 gsA)) H → va_D A (WR a k h0 (fT (fT (fT (fT vi 116 fx) 5 (nI (vn + 1))) 6 (nI R2)) 7 (nI (GA + k7))) vj (fT (fT (fT (fT (fT (fT vF 0 g5w) 4 f418) 6 f62) 5 f52) 2 f2A) 3 f3A) (fT vG 1 gsA)) → va_S A s.heap H locs → lv_has ls 6 [(0, .ref h0), (1, .int rx), (2, .int al), (3, .int (nI k7))] → W p l e _ s m _ below meth c H locs 0 0 _ (F0 m 262 ls [])) => loop (vn + 1) 0 gA mA _ _ _ (hBA) (by omega) (hGlmA) (hBlmA) (h20mA) (homA) (by omega) hP hD hS hl) ?_
                intro n9
                induction n9 with
                | zero => intro k7 g5w m5 H locs ls hB5 hk7 hGlm5 hBlm5 h20m5 hom5 hf9; exact False.elim (by omega)
                | succ n9 ih262_4 =>
                  intro k7 g5w m5 H locs ls hB5 hk7 hGlm5 hBlm5 h20m5 hom5 hf262_4 hP hD hS hl
                  refine lv_iload_n hx hb dX12_solves_262 rfl (lv_at hl 3 rfl) ?_
                  refine lv_aload_n hx hb dX12_solves_263 rfl (lv_at hl 0 rfl) ?_
                  refine va_get (D := (dC, dI)) (ci := 12) (v := .int (vi 90)) (C := RX12) (T := TX12) (N := 163) (fs := fM (vS a (fT (fT (fT (fT vi 116 fx) 5 (nI (vn + 1))) 6 (nI R2)) 7 (nI (GA + k7))) vj)) hx hb hts iwsRX12_solves_in12 hown hK hP 0 rfl rfl 90 (by decide) (hts (.fieldLink RX12 774 "OptimaWorksModel" "variables" "I") (by decide +kernel)) (fun _ h9 => h9) rfl dX12_solves_264 ?_
                  refine lv_topi (fun y8 hy8 => ?_)
                  obtain rfl : (nI vn) = y8 := (hy8.trans (hvn)).symm
                  refine lv_icmp_ge (tgt := 294) hx hb dX12_solves_267 (by decide) (fun c_267 => ?_) (fun c_267 => ?_)
                  · have t_267 : ((k7 : Nat) : Int) ≥ ((vn : Nat) : Int) := toI_ge c_267 (nI_toInt (by omega)) (nI_toInt (by omega))
                    have hl : lv_has _ _ ([(0, .ref h0), (1, .int rx), (2, .int al)]) := lv_sub hl [0, 1, 2] rfl
                    exact join3 _ _ _ _ ⟨(GA + k7), g5w, m5, hB5, by omega, halA.imp id (fun h9 => by omega), hGlm5, hBlm5, h20m5, hom5, rfl, hP, hD, hS, hl⟩
                  · have t_267 : ¬ ((k7 : Nat) : Int) ≥ ((vn : Nat) : Int) := toI_nge c_267 (nI_toInt (by omega)) (nI_toInt (by omega))
                    refine lv_iload_n hx hb dX12_solves_270 rfl (lv_at hl 2 rfl) ?_
                    refine lv_if_eq (tgt := 294) hx hb dX12_solves_271 (by decide) (fun c_271 => ?_) (fun c_271 => ?_)
                    · have t_271 : (al).toInt = 0 := toI_eq c_271 rfl (by decide)
                      have hl : lv_has _ _ ([(0, .ref h0), (1, .int rx), (2, .int al)]) := lv_sub hl [0, 1, 2] rfl
                      exact join3 _ _ _ _ ⟨(GA + k7), g5w, m5, hB5, by omega, Or.inl c_271, hGlm5, hBlm5, h20m5, hom5, rfl, hP, hD, hS, hl⟩
                    · have t_271 : ¬ (al).toInt = 0 := toI_neq c_271 rfl (by decide)
                      have hx8 := hex (GA + k7 + 1) (by omega)
                      have hx9 := hex (GA + k7) (by omega)
                      have hx7 : (R2 + (GA + k7) + 1) * (vn + 1 + 1) = (R2 + (GA + k7)) * (vn + 1 + 1) + (vn + 1 + 1) := Nat.succ_mul _ _
                      refine lv_aload_n hx hb dX12_solves_274 rfl (lv_at hl 0 rfl) ?_
                      refine lv_aload_n hx hb dX12_solves_275 rfl (lv_at hl 0 rfl) ?_
                      refine lv_aload_n hx hb dX12_solves_276 rfl (lv_at hl 0 rfl) ?_
                      have hFc := allFree hD hS hA
                      refine va_calli (va_runV (As := []) (rest := [.ref h0, .ref h0]) ⟨hx, hb, hml, hown, hts⟩ (r_X12_goalRow l dC dI a k h0 (fT (fT (fT (fT vi 116 fx) 5 (nI (vn + 1))) 6 (nI R2)) 7 (nI (GA + k7))) vj (fT (fT (fT (fT (fT (fT vF 0 g5w) 4 f418) 6 f62) 5 f52) 2 f2A) 3 f3A) (fT vG 1 gsA) (vn + 1) R2 (GA + k7) m5 hB5 (by first | with_reducible assumption | decide | omega | rfl | assumption) (by first | with_reducible assumption | decide | omega | rfl | assumption) (by first | with_reducible assumption | decide | omega | rfl | assumption) (by first | with_reducible assumption | decide | omega | rfl | assumption) (by first | with_reducible assumption | decide | omega | rfl | assumption) (by first | with_reducible assumption | decide | omega | rfl | assumption) H.size) (cwV 0 hts gwsRX12_solves_2 rfl rfl rfl hd_yX12_goalRow_RX12 (by decide +kernel)) (fz_pre (va_recv hK hP (ci := 12) (q0 := 0) rfl rfl) hP hK hD) rfl rfl hl.1 rfl (lv_room (Nat.le_of_ble_eq_true rfl)) dX12_solves_277 (by decide +kernel)) hS (fun q _ h => hFc q h) hFc (fun r277 u t9_ H locs ht hvm hw9 hB9 hz1 hk1 hS => ?_)
                      revert u
                      refine fz_p2 ?_
                      intro g277 m2277 hw9 hB9
                      try dsimp only at hw9 hB9
                      have hP : va_P (dC, dI) vwCl (WR a k h0 (fT (fT (fT (fT (fT vi 116 fx) 5 (nI (vn + 1))) 6 (nI R2)) 7 (nI (GA + k7))) 7 (nI ((GA + k7) + 1))) vj (fT (fT (fT (fT (fT (fT (fT vF 0 g5w) 4 f418) 6 f62) 5 f52) 2 f2A) 3 f3A) 0 g277) (fT vG 1 gsA)) H := fz_P ht hB9.1
                      have hD : va_D A (WR a k h0 (fT (fT (fT (fT (fT vi 116 fx) 5 (nI (vn + 1))) 6 (nI R2)) 7 (nI (GA + k7))) 7 (nI ((GA + k7) + 1))) vj (fT (fT (fT (fT (fT (fT (fT vF 0 g5w) 4 f418) 6 f62) 5 f52) 2 f2A) 3 f3A) 0 g277) (fT vG 1 gsA)) := hB9.2.weaken (fun _ q _ h => hFc q.1 h)
                      have e9 : fT (fT (fT (fT vi 116 fx) 5 (nI (vn + 1))) 6 (nI R2)) 7 (nI ((GA + k7) + 1)) = fT (fT (fT (fT (fT vi 116 fx) 5 (nI (vn + 1))) 6 (nI R2)) 7 (nI (GA + k7))) 7 (nI ((GA + k7) + 1)) := (fT_sm _ _ _ _).symm
                      rw [← e9] at hP hD
                      clear e9
                      have e9 : fT (fT (fT (fT (fT (fT vF 0 g277) 4 f418) 6 f62) 5 f52) 2 f2A) 3 f3A = fT (fT (fT (fT (fT (fT (fT vF 0 g5w) 4 f418) 6 f62) 5 f52) 2 f2A) 3 f3A) 0 g277 := ((fT_sw _ _ _ (Nat.ne_of_beq_eq_false rfl)).trans (congrArg (fun g9 => fT g9 3 f3A) ((fT_sw _ _ _ (Nat.ne_of_beq_eq_false rfl)).trans (congrArg (fun g9 => fT g9 2 f2A) ((fT_sw _ _ _ (Nat.ne_of_beq_eq_false rfl)).trans (congrArg (fun g9 => fT g9 5 f52) ((fT_sw _ _ _ (Nat.ne_of_beq_eq_false rfl)).trans (congrArg (fun g9 => fT g9 6 f62) ((fT_sw _ _ _ (Nat.ne_of_beq_eq_false rfl)).trans (congrArg (fun g9 => fT g9 4 f418) (fT_sm _ _ _ _))))))))))).symm
                      rw [← e9] at hP hD
                      clear e9
                      have hP : va_P (dC, dI) vwCl (WR a k h0 (fT (fT (fT (fT vi 116 fx) 5 (nI (vn + 1))) 6 (nI R2)) 7 (nI ((GA + k7) + 1))) vj (fT (fT (fT (fT (fT (fT vF 0 g277) 4 f418) 6 f62) 5 f52) 2 f2A) 3 f3A) (fT vG 1 gsA)) H := hP
                      have hD : va_D A (WR a k h0 (fT (fT (fT (fT vi 116 fx) 5 (nI (vn + 1))) 6 (nI R2)) 7 (nI ((GA + k7) + 1))) vj (fT (fT (fT (fT (fT (fT vF 0 g277) 4 f418) 6 f62) 5 f52) 2 f2A) 3 f3A) (fT vG 1 gsA)) := hD
                      obtain ⟨rfl, f277_0, f277_1, f277_2⟩ := hw9
                      refine lv_iload_n hx hb dX12_solves_280 rfl (lv_at hl 3 rfl) ?_
                      have hFc := allFree hD hS hA
                      refine va_calli (va_runV (As := [.int (nI (R2 + (GA + k7))), .int (nI k7)]) (rest := [.ref h0]) ⟨hx, hb, hml, hown, hts⟩ (r_X12_at l dC dI a k h0 (fT (fT (fT (fT vi 116 fx) 5 (nI (vn + 1))) 6 (nI R2)) 7 (nI ((GA + k7) + 1))) vj (fT (fT (fT (fT (fT (fT vF 0 g277) 4 f418) 6 f62) 5 f52) 2 f2A) 3 f3A) (fT vG 1 gsA) (R2 + (GA + k7)) k7 (vn + 1) (by first | with_reducible assumption | decide | omega | rfl | assumption) H.size) (cwV 2 hts gwsRX12_solves_5 rfl rfl rfl hd_yX12_at_RX12 (by decide +kernel)) (fz_pre (va_recv hK hP (ci := 12) (q0 := 0) rfl rfl) hP hK hD) rfl rfl hl.1 rfl (lv_room (Nat.le_of_ble_eq_true rfl)) dX12_solves_281 (by decide +kernel)) hS (fun q _ h => hFc q h) hFc (fun r281 u t9_ H locs ht hvm hw9 hB9 hz1 hk1 hS => ?_)
                      have hP : va_P (dC, dI) vwCl (WR a k h0 (fT (fT (fT (fT vi 116 fx) 5 (nI (vn + 1))) 6 (nI R2)) 7 (nI ((GA + k7) + 1))) vj (fT (fT (fT (fT (fT (fT vF 0 g277) 4 f418) 6 f62) 5 f52) 2 f2A) 3 f3A) (fT vG 1 gsA)) H := fz_P ht hB9.1
                      have hD : va_D A (WR a k h0 (fT (fT (fT (fT vi 116 fx) 5 (nI (vn + 1))) 6 (nI R2)) 7 (nI ((GA + k7) + 1))) vj (fT (fT (fT (fT (fT (fT vF 0 g277) 4 f418) 6 f62) 5 f52) 2 f2A) 3 f3A) (fT vG 1 gsA)) := hB9.2.weaken (fun _ q _ h => hFc q.1 h)
                      obtain rfl := hw9
                      refine lv_lconst (v := 1) hx hb dX12_solves_284 (by decide) ?_
                      have hFc := allFree hD hS hA
                      refine va_callv (va_runV (As := [.int (nI (30 + (R2 + (GA + k7)) * ((vn + 1) + 1) + k7)), .long 1]) (rest := []) ⟨hx, hb, hml, hown, hts⟩ (b_X12_put l dC dI a k h0 (fT (fT (fT (fT vi 116 fx) 5 (nI (vn + 1))) 6 (nI R2)) 7 (nI ((GA + k7) + 1))) vj (fT (fT (fT (fT (fT (fT vF 0 g277) 4 f418) 6 f62) 5 f52) 2 f2A) 3 f3A) (fT vG 1 gsA) (30 + (R2 + (GA + k7)) * ((vn + 1) + 1) + k7) 1 1 m2277 f277_0 (by first | with_reducible assumption | decide | omega | rfl | assumption) (by decide) (by first | with_reducible assumption | decide | omega | rfl | assumption) H.size) (cwV 2 hts gwsRX12_solves_8 rfl rfl rfl hd_yX12_put_RX12 (by decide +kernel)) (fz_pre (va_recv hK hP (ci := 12) (q0 := 0) rfl rfl) hP hK hD) rfl rfl hl.1 rfl (lv_room (Nat.le_of_ble_eq_true rfl)) dX12_solves_285 (by decide +kernel)) hS (fun q _ h => hFc q h) hFc (fun g285 t9_ H locs ht hvm hw9 hB9 hz1 hk1 hS => ?_)
                      have hP : va_P (dC, dI) vwCl (WR a k h0 (fT (fT (fT (fT vi 116 fx) 5 (nI (vn + 1))) 6 (nI R2)) 7 (nI ((GA + k7) + 1))) vj (fT (fT (fT (fT (fT (fT (fT vF 0 g277) 4 f418) 6 f62) 5 f52) 2 f2A) 3 f3A) 0 g285) (fT vG 1 gsA)) H := fz_P ht hB9.1
                      have hD : va_D A (WR a k h0 (fT (fT (fT (fT vi 116 fx) 5 (nI (vn + 1))) 6 (nI R2)) 7 (nI ((GA + k7) + 1))) vj (fT (fT (fT (fT (fT (fT (fT vF 0 g277) 4 f418) 6 f62) 5 f52) 2 f2A) 3 f3A) 0 g285) (fT vG 1 gsA)) := hB9.2.weaken (fun _ q _ h => hFc q.1 h)
                      have e9 : fT (fT (fT (fT (fT (fT vF 0 g285) 4 f418) 6 f62) 5 f52) 2 f2A) 3 f3A = fT (fT (fT (fT (fT (fT (fT vF 0 g277) 4 f418) 6 f62) 5 f52) 2 f2A) 3 f3A) 0 g285 := ((fT_sw _ _ _ (Nat.ne_of_beq_eq_false rfl)).trans (congrArg (fun g9 => fT g9 3 f3A) ((fT_sw _ _ _ (Nat.ne_of_beq_eq_false rfl)).trans (congrArg (fun g9 => fT g9 2 f2A) ((fT_sw _ _ _ (Nat.ne_of_beq_eq_false rfl)).trans (congrArg (fun g9 => fT g9 5 f52) ((fT_sw _ _ _ (Nat.ne_of_beq_eq_false rfl)).trans (congrArg (fun g9 => fT g9 6 f62) ((fT_sw _ _ _ (Nat.ne_of_beq_eq_false rfl)).trans (congrArg (fun g9 => fT g9 4 f418) (fT_sm _ _ _ _))))))))))).symm
                      rw [← e9] at hP hD
                      clear e9
                      have hP : va_P (dC, dI) vwCl (WR a k h0 (fT (fT (fT (fT vi 116 fx) 5 (nI (vn + 1))) 6 (nI R2)) 7 (nI ((GA + k7) + 1))) vj (fT (fT (fT (fT (fT (fT vF 0 g285) 4 f418) 6 f62) 5 f52) 2 f2A) 3 f3A) (fT vG 1 gsA)) H := hP
                      have hD : va_D A (WR a k h0 (fT (fT (fT (fT vi 116 fx) 5 (nI (vn + 1))) 6 (nI R2)) 7 (nI ((GA + k7) + 1))) vj (fT (fT (fT (fT (fT (fT vF 0 g285) 4 f418) 6 f62) 5 f52) 2 f2A) 3 f3A) (fT vG 1 gsA)) := hD
                      have f285_0 := hw9
                      try dsimp only at f285_0
                      have hGl8 : GldG (vn + 1) R2 (R2 + (GA + (k7 + 1))) (fT m2277 (30 + (R2 + (GA + k7)) * ((vn + 1) + 1) + k7) 1) := hGlm5.more (T := R2 + (GA + k7)) (by omega) (fun p h1 h2 => by (rw [fT_ne _ _ (by omega), f277_2 _ (by omega)])) (fun j hj => by by_cases e9 : j = k7; (rw [e9, fT_eq]; decide); (rw [fT_ne _ _ (by omega), f277_1 j hj]; decide))
                      have hBl8 : BldL (vn + 1) R2 (fT m2277 (30 + (R2 + (GA + k7)) * ((vn + 1) + 1) + k7) 1) f52 := hBlm5.frame (fun p h1 h2 => by have h9 := row_lt (C := vn + 1) (show R2 ≤ R2 + (GA + k7) by omega); (rw [fT_ne _ _ (by omega), f277_2 _ (by omega)]))
                      refine lv_iinc (v := (nI (k7 + 1))) hx hb dX12_solves_288 hl (k := 3) rfl (nI_add k7 1) (by decide) rfl (fun ls (hl : lv_has ls _ ([(3, .int (nI (k7 + 1))), (0, .ref h0), (1, .int rx), (2, .int al)])) => ?_)
                      refine lv_goto (tgt := 262) hx hb dX12_solves_291 (by decide) ?_
                      have e9 : fT (fT (fT (fT vi 116 fx) 5 (nI (vn + 1))) 6 (nI R2)) 7 (nI (GA + (k7 + 1))) = fT (fT (fT (fT vi 116 fx) 5 (nI (vn + 1))) 6 (nI R2)) 7 (nI ((GA + k7) + 1)) := by funext q9; by_cases h9_116 : q9 = 116; (subst h9_116; exact ((fT_ne _ _ (Nat.ne_of_beq_eq_false rfl)).trans ((fT_ne _ _ (Nat.ne_of_beq_eq_false rfl)).trans ((fT_ne _ _ (Nat.ne_of_beq_eq_false rfl)).trans (fT_eq _ _ _)))).trans (Eq.trans (by first | with_reducible rfl | with_reducible assumption | (symm; with_reducible assumption) | rfl | assumption | (symm; assumption) | (subst_vars; rfl)) ((fT_ne _ _ (Nat.ne_of_beq_eq_false rfl)).trans ((fT_ne _ _ (Nat.ne_of_beq_eq_false rfl)).trans ((fT_ne _ _ (Nat.ne_of_beq_eq_false rfl)).trans (fT_eq _ _ _)))).symm)); by_cases h9_5 : q9 = 5; (subst h9_5; exact ((fT_ne _ _ (Nat.ne_of_beq_eq_false rfl)).trans ((fT_ne _ _ (Nat.ne_of_beq_eq_false rfl)).trans (fT_eq _ _ _))).trans (Eq.trans (by first | with_reducible rfl | with_reducible assumption | (symm; with_reducible assumption) | rfl | assumption | (symm; assumption) | (subst_vars; rfl)) ((fT_ne _ _ (Nat.ne_of_beq_eq_false rfl)).trans ((fT_ne _ _ (Nat.ne_of_beq_eq_false rfl)).trans (fT_eq _ _ _))).symm)); by_cases h9_6 : q9 = 6; (subst h9_6; exact ((fT_ne _ _ (Nat.ne_of_beq_eq_false rfl)).trans (fT_eq _ _ _)).trans (Eq.trans (by first | with_reducible rfl | with_reducible assumption | (symm; with_reducible assumption) | rfl | assumption | (symm; assumption) | (subst_vars; rfl)) ((fT_ne _ _ (Nat.ne_of_beq_eq_false rfl)).trans (fT_eq _ _ _)).symm)); by_cases h9_7 : q9 = 7; (subst h9_7; exact (fT_eq _ _ _).trans (Eq.trans (by first | with_reducible rfl | with_reducible assumption | (symm; with_reducible assumption) | rfl | assumption | (symm; assumption) | (subst_vars; rfl)) (fT_eq _ _ _).symm)); exact ((fT_ne _ _ h9_7).trans ((fT_ne _ _ h9_6).trans ((fT_ne _ _ h9_5).trans (fT_ne _ _ h9_116)))).trans ((fT_ne _ _ h9_7).trans ((fT_ne _ _ h9_6).trans ((fT_ne _ _ h9_5).trans (fT_ne _ _ h9_116)))).symm
                      have hP : va_P (dC, dI) vwCl (WR a k h0 (fT (fT (fT (fT vi 116 fx) 5 (nI (vn + 1))) 6 (nI R2)) 7 (nI (GA + (k7 + 1)))) vj (fT (fT (fT (fT (fT (fT vF 0 g285) 4 f418) 6 f62) 5 f52) 2 f2A) 3 f3A) (fT vG 1 gsA)) H := by rw [e9]; exact hP
                      have hD : va_D A (WR a k h0 (fT (fT (fT (fT vi 116 fx) 5 (nI (vn + 1))) 6 (nI R2)) 7 (nI (GA + (k7 + 1)))) vj (fT (fT (fT (fT (fT (fT vF 0 g285) 4 f418) 6 f62) 5 f52) 2 f2A) 3 f3A) (fT vG 1 gsA)) := by rw [e9]; exact hD
                      clear e9
                      have hl : lv_has _ _ ([(0, .ref h0), (1, .int rx), (2, .int al), (3, .int (nI (k7 + 1)))]) := lv_sub hl [1, 2, 3, 0] rfl
                      exact ih262_4 (k7 + 1) g285 (fT m2277 (30 + (R2 + (GA + k7)) * ((vn + 1) + 1) + k7) 1) _ _ _ (f285_0) (by omega) (hGl8) (hBl8) (by (rw [fT_ne _ _ (by omega), f277_2 _ (by omega)]); exact h20m5) (fun q hq => by (rw [fT_ne _ _ (by omega), f277_2 _ (by omega)]); exact hom5 q hq) (by omega) hP hD hS hl
              · rintro H locs ls stk ⟨GB, gB, mB, hBB, hGB, halB, hGlmB, hBlmB, h20mB, homB, rfl, hP, hD, hS, hl⟩
                have hx8 := hex GB (by omega)
                have hcs := case_small (C := vn + 1) (R := R2) (T := R2 + GB) (m := mB) (f5 := f52) (by omega) (by omega) (by omega) hBlmB hGlmB
                have hsm : Small (vn + 1) R2 (R2 + GB) (fun i j => mB (30 + i * (vn + 1 + 1) + j)) := fun t D rl cl h => ⟨Nat.lt_of_lt_of_le (hcs t D rl cl h).1.1 (Nat.pow_le_pow_right (by decide) (by decide)), (hcs t D rl cl h).2⟩
                refine lv_aload_n hx hb dX12_solves_294 rfl (lv_at hl 0 rfl) ?_
                have hFc := allFree hD hS hA
                refine va_calli (va_runV (As := []) (rest := []) ⟨hx, hb, hml, hown, hts⟩ (r_X12_canKeep l dC dI a k h0 (fT (fT (fT (fT vi 116 fx) 5 (nI (vn + 1))) 6 (nI R2)) 7 (nI GB)) vj (fT (fT (fT (fT (fT (fT vF 0 gB) 4 f418) 6 f62) 5 f52) 2 f2A) 3 f3A) (fT vG 1 gsA) (vn + 1) R2 GB (fun i j => mB (30 + i * (vn + 1 + 1) + j)) mB hBB (by first | with_reducible assumption | decide | omega | rfl | assumption) (by first | with_reducible assumption | decide | omega | rfl | assumption) (by first | with_reducible assumption | decide | omega | rfl | assumption) (by first | with_reducible assumption | decide | omega | rfl | assumption) (by first | with_reducible assumption | decide | omega | rfl | assumption) (by first | with_reducible assumption | decide | omega | rfl | assumption) (⟨fun i _ j _ => rfl, h20mB⟩) (f18_1) (fun i hi => (hBlmB i hi).1) (fun i hi => (hBlmB i hi).2.2.1) (hGlmB.1) (by first | with_reducible assumption | decide | omega | rfl | assumption) (hsm) H.size) (cwV 0 hts gwsRX12_solves_9 rfl rfl rfl hd_yX12_canKeep_RX12 (by decide +kernel)) (fz_pre (va_recv hK hP (ci := 12) (q0 := 0) rfl rfl) hP hK hD) rfl rfl hl.1 rfl (lv_room (Nat.le_of_ble_eq_true rfl)) dX12_solves_295 (by decide +kernel)) hS (fun q _ h => hFc q h) hFc (fun r295 u t9_ H locs ht hvm hw9 hB9 hz1 hk1 hS => ?_)
                revert u
                refine fz_p14 ?_
                intro g295 f2w295 f3w295 f4295 f5295 f6295 gs295 F295 L8295 qk295 qd295 m2295 t2295 D2295 hw9 hB9
                try dsimp only at hw9 hB9
                have hP : va_P (dC, dI) vwCl (WR a k h0 (fT (fT (fT (fT (fT vi 116 fx) 5 (nI (vn + 1))) 6 (nI R2)) 7 (nI GB)) 11 qk295) (fT vj 12 qd295) (fT (fT (fT (fT (fT (fT (fT (fT (fT (fT (fT (fT vF 0 gB) 4 f418) 6 f62) 5 f52) 2 f2A) 3 f3A) 0 g295) 2 f2w295) 3 f3w295) 4 f4295) 5 f5295) 6 f6295) (fT (fT (fT (fT vG 1 gsA) 7 F295) 1 gs295) 8 L8295)) H := fz_P ht hB9.1
                have hD : va_D A (WR a k h0 (fT (fT (fT (fT (fT vi 116 fx) 5 (nI (vn + 1))) 6 (nI R2)) 7 (nI GB)) 11 qk295) (fT vj 12 qd295) (fT (fT (fT (fT (fT (fT (fT (fT (fT (fT (fT (fT vF 0 gB) 4 f418) 6 f62) 5 f52) 2 f2A) 3 f3A) 0 g295) 2 f2w295) 3 f3w295) 4 f4295) 5 f5295) 6 f6295) (fT (fT (fT (fT vG 1 gsA) 7 F295) 1 gs295) 8 L8295)) := hB9.2.weaken (fun _ q _ h => hFc q.1 h)
                have e9 : fT (fT (fT (fT (fT (fT vF 0 g295) 4 f4295) 6 f6295) 5 f5295) 2 f2w295) 3 f3w295 = fT (fT (fT (fT (fT (fT (fT (fT (fT (fT (fT (fT vF 0 gB) 4 f418) 6 f62) 5 f52) 2 f2A) 3 f3A) 0 g295) 2 f2w295) 3 f3w295) 4 f4295) 5 f5295) 6 f6295 := ((congrArg (fun g9 => fT (fT (fT (fT (fT g9 2 f2w295) 3 f3w295) 4 f4295) 5 f5295) 6 f6295) ((fT_sw _ _ _ (Nat.ne_of_beq_eq_false rfl)).trans (congrArg (fun g9 => fT g9 3 f3A) ((fT_sw _ _ _ (Nat.ne_of_beq_eq_false rfl)).trans (congrArg (fun g9 => fT g9 2 f2A) ((fT_sw _ _ _ (Nat.ne_of_beq_eq_false rfl)).trans (congrArg (fun g9 => fT g9 5 f52) ((fT_sw _ _ _ (Nat.ne_of_beq_eq_false rfl)).trans (congrArg (fun g9 => fT g9 6 f62) ((fT_sw _ _ _ (Nat.ne_of_beq_eq_false rfl)).trans (congrArg (fun g9 => fT g9 4 f418) (fT_sm _ _ _ _)))))))))))).trans ((congrArg (fun g9 => fT (fT (fT (fT g9 3 f3w295) 4 f4295) 5 f5295) 6 f6295) ((fT_sw _ _ _ (Nat.ne_of_beq_eq_false rfl)).trans (congrArg (fun g9 => fT g9 3 f3A) (fT_sm _ _ _ _)))).trans ((congrArg (fun g9 => fT (fT (fT g9 4 f4295) 5 f5295) 6 f6295) (fT_sm _ _ _ _)).trans ((congrArg (fun g9 => fT (fT g9 5 f5295) 6 f6295) ((fT_sw _ _ _ (Nat.ne_of_beq_eq_false rfl)).trans (congrArg (fun g9 => fT g9 3 f3w295) ((fT_sw _ _ _ (Nat.ne_of_beq_eq_false rfl)).trans (congrArg (fun g9 => fT g9 2 f2w295) ((fT_sw _ _ _ (Nat.ne_of_beq_eq_false rfl)).trans (congrArg (fun g9 => fT g9 5 f52) ((fT_sw _ _ _ (Nat.ne_of_beq_eq_false rfl)).trans (congrArg (fun g9 => fT g9 6 f62) (fT_sm _ _ _ _)))))))))).trans ((congrArg (fun g9 => fT g9 6 f6295) ((fT_sw _ _ _ (Nat.ne_of_beq_eq_false rfl)).trans (congrArg (fun g9 => fT g9 3 f3w295) ((fT_sw _ _ _ (Nat.ne_of_beq_eq_false rfl)).trans (congrArg (fun g9 => fT g9 2 f2w295) (fT_sm _ _ _ _)))))).trans ((fT_sw _ _ _ (Nat.ne_of_beq_eq_false rfl)).trans (congrArg (fun g9 => fT g9 3 f3w295) ((fT_sw _ _ _ (Nat.ne_of_beq_eq_false rfl)).trans (congrArg (fun g9 => fT g9 2 f2w295) ((fT_sw _ _ _ (Nat.ne_of_beq_eq_false rfl)).trans (congrArg (fun g9 => fT g9 5 f5295) (fT_sm _ _ _ _)))))))))))).symm
                rw [← e9] at hP hD
                clear e9
                have e9 : fT (fT (fT vG 1 gs295) 7 F295) 8 L8295 = fT (fT (fT (fT vG 1 gsA) 7 F295) 1 gs295) 8 L8295 := (congrArg (fun g9 => fT g9 8 L8295) ((fT_sw _ _ _ (Nat.ne_of_beq_eq_false rfl)).trans (congrArg (fun g9 => fT g9 7 F295) (fT_sm _ _ _ _)))).symm
                rw [← e9] at hP hD
                clear e9
                have hP : va_P (dC, dI) vwCl (WR a k h0 (fT (fT (fT (fT (fT vi 116 fx) 5 (nI (vn + 1))) 6 (nI R2)) 7 (nI GB)) 11 qk295) (fT vj 12 qd295) (fT (fT (fT (fT (fT (fT vF 0 g295) 4 f4295) 6 f6295) 5 f5295) 2 f2w295) 3 f3w295) (fT (fT (fT vG 1 gs295) 7 F295) 8 L8295)) H := hP
                have hD : va_D A (WR a k h0 (fT (fT (fT (fT (fT vi 116 fx) 5 (nI (vn + 1))) 6 (nI R2)) 7 (nI GB)) 11 qk295) (fT vj 12 qd295) (fT (fT (fT (fT (fT (fT vF 0 g295) 4 f4295) 6 f6295) 5 f5295) 2 f2w295) 3 f3w295) (fT (fT (fT vG 1 gs295) 7 F295) 8 L8295)) := hD
                rcases hw9 with ⟨rfl, f295_0, f295_1, f295_2, f295_3, f295_4⟩ | ⟨rfl, f295_0, f295_1, f295_2, f295_3, f295_4⟩
                · refine lv_if_ne (tgt := 308) hx hb dX12_solves_298 (by decide) (fun c9 => absurd c9 (by decide)) (fun _ => ?_)
                  refine lv_aload_n hx hb dX12_solves_301 rfl (lv_at hl 0 rfl) ?_
                  refine lv_iconst (v := 0) hx hb dX12_solves_302 (by decide) ?_
                  refine va_put (D := (dC, dI)) (ci := 12) (v := .int 0) (ty := .boolean) (C := RX12) (T := TX12) (N := 163) (fs := fM (vS a (fT (fT (fT (fT (fT vi 116 fx) 5 (nI (vn + 1))) 6 (nI R2)) 7 (nI GB)) 11 qk295) (fT vj 12 qd295))) hx hb hts iwsRX12_solves_in12 tyX12 tyX12_ok nmX12 hown hK hP hD hS 0 rfl rfl 11 (by decide) (hts (.fieldLink RX12 414 "OptimaWorksModel" "quick" "Z") (by decide +kernel)) (fun _ h9 => h9) rfl (by decide +kernel) rfl rfl (Nat.le_of_ble_eq_true rfl) dX12_solves_303 (fun H locs hP hD hS => ?_)
                  have e9 : fT (fT (fT (fT (fT vi 116 fx) 5 (nI (vn + 1))) 6 (nI R2)) 7 (nI GB)) 11 0 = fT (fT (fT (fT (fT (fT vi 116 fx) 5 (nI (vn + 1))) 6 (nI R2)) 7 (nI GB)) 11 qk295) 11 0 := (fT_sm _ _ _ _).symm
                  have hP : va_P (dC, dI) vwCl (WR a k h0 (fT (fT (fT (fT (fT vi 116 fx) 5 (nI (vn + 1))) 6 (nI R2)) 7 (nI GB)) 11 0) (fT vj 12 qd295) (fT (fT (fT (fT (fT (fT vF 0 g295) 4 f4295) 6 f6295) 5 f5295) 2 f2w295) 3 f3w295) (fT (fT (fT vG 1 gs295) 7 F295) 8 L8295)) H := by rw [e9, ← WR_i 11 _ rfl]; exact hP
                  have hD : va_D A (WR a k h0 (fT (fT (fT (fT (fT vi 116 fx) 5 (nI (vn + 1))) 6 (nI R2)) 7 (nI GB)) 11 0) (fT vj 12 qd295) (fT (fT (fT (fT (fT (fT vF 0 g295) 4 f4295) 6 f6295) 5 f5295) 2 f2w295) 3 f3w295) (fT (fT (fT vG 1 gs295) 7 F295) 8 L8295)) := by rw [e9, ← WR_i 11 _ rfl]; exact hD
                  clear e9
                  refine lv_iconst (v := 0) hx hb dX12_solves_306 (by decide) ?_
                  refine W.widen (k := 0) (n := 0) (by decide +kernel) (by decide +kernel) ?_
                  exact W.zret (v := 0) hx hb hr rfl (fun t9_ ht hW => ⟨⟨0, (g295, f2w295, f3w295, f4295, f5295, f6295, gs295, F295, L8295, qd295, fx, (nI (vn + 1)), (nI R2), (nI GB), m2295), rfl, by (try dsimp only); exact ⟨f295_0, hAn.frame (fun p h1 h2 => by (rw [f295_4 _ (by omega)]); exact homB p (by omega)), fun q hq => by (rw [f295_4 _ (by omega)]); exact homB q (by omega), Or.inl rfl, Or.inl rfl⟩, by rw [ht]; exact hP, hD⟩, hS.F ht⟩) hS.2.2 dX12_solves_307
                · refine lv_if_ne (tgt := 308) hx hb dX12_solves_298 (by decide) (fun _ => ?_) (fun c9 => absurd c9 (by decide))
                  refine lv_iload_n hx hb dX12_solves_308 rfl (lv_at hl 2 rfl) ?_
                  refine W.cut (pc := 325) (fun H locs ls stk => ∃ (nn : Nat), (nn < GB) ∧  stk = [.int (nI nn)] ∧ va_P (dC, dI) vwCl (WR a k h0 (fT (fT (fT (fT (fT vi 116 fx) 5 (nI (vn + 1))) 6 (nI R2)) 7 (nI GB)) 11 qk295) (fT vj 12 qd295) (fT (fT (fT (fT (fT (fT vF 0 g295) 4 f4295) 6 f6295) 5 f5295) 2 f2w295) 3 f3w295) (fT (fT (fT vG 1 gs295) 7 F295) 8 L8295)) H ∧ va_D A (WR a k h0 (fT (fT (fT (fT (fT vi 116 fx) 5 (nI (vn + 1))) 6 (nI R2)) 7 (nI GB)) 11 qk295) (fT vj 12 qd295) (fT (fT (fT (fT (fT (fT vF 0 g295) 4 f4295) 6 f6295) 5 f5295) 2 f2w295) 3 f3w295) (fT (fT (fT vG 1 gs295) 7 F295) 8 L8295)) ∧ va_S A s.heap H locs ∧ lv_has ls 6 [(0, .ref h0), (2, .int al)]) (fun join4 => ?_) ?_
                  · refine lv_if_eq (tgt := 324) hx hb dX12_solves_309 (by decide) (fun c_309 => ?_) (fun c_309 => ?_)
                    · have t_309 : (al).toInt = 0 := toI_eq c_309 rfl (by decide)
                      refine lv_iconst (v := 0) hx hb dX12_solves_324 (by decide) ?_
                      have hl : lv_has _ _ ([(0, .ref h0), (2, .int al)]) := lv_sub hl [0, 2] rfl
                      exact join4 _ _ _ _ ⟨0, by omega, rfl, hP, hD, hS, hl⟩
                    · have t_309 : ¬ (al).toInt = 0 := toI_neq c_309 rfl (by decide)
                      refine lv_aload_n hx hb dX12_solves_312 rfl (lv_at hl 0 rfl) ?_
                      refine va_get (D := (dC, dI)) (ci := 12) (v := .int (vi 93)) (C := RX12) (T := TX12) (N := 163) (fs := fM (vS a (fT (fT (fT (fT (fT vi 116 fx) 5 (nI (vn + 1))) 6 (nI R2)) 7 (nI GB)) 11 qk295) (fT vj 12 qd295))) hx hb hts iwsRX12_solves_in12 hown hK hP 0 rfl rfl 93 (by decide) (hts (.fieldLink RX12 805 "OptimaWorksModel" "modelGoals" "I") (by decide +kernel)) (fun _ h9 => h9) rfl dX12_solves_313 ?_
                      refine lv_topi (fun y9 hy9 => ?_)
                      obtain rfl : (nI gq) = y9 := (hy9.trans (hmg)).symm
                      refine lv_aload_n hx hb dX12_solves_316 rfl (lv_at hl 0 rfl) ?_
                      refine va_get (D := (dC, dI)) (ci := 12) (v := .int (vi 90)) (C := RX12) (T := TX12) (N := 163) (fs := fM (vS a (fT (fT (fT (fT (fT vi 116 fx) 5 (nI (vn + 1))) 6 (nI R2)) 7 (nI GB)) 11 qk295) (fT vj 12 qd295))) hx hb hts iwsRX12_solves_in12 hown hK hP 0 rfl rfl 90 (by decide) (hts (.fieldLink RX12 774 "OptimaWorksModel" "variables" "I") (by decide +kernel)) (fun _ h9 => h9) rfl dX12_solves_317 ?_
                      refine lv_topi (fun y10 hy10 => ?_)
                      obtain rfl : (nI vn) = y10 := (hy10.trans (hvn)).symm
                      refine lv_iadd hx hb dX12_solves_320 ?_
                      refine lv_topi (fun y11 hy11 => ?_)
                      obtain rfl : (nI (gq + vn)) = y11 := (hy11.trans (nI_add gq vn)).symm
                      refine lv_goto (tgt := 325) hx hb dX12_solves_321 (by decide) ?_
                      have hl : lv_has _ _ ([(0, .ref h0), (2, .int al)]) := lv_sub hl [0, 2] rfl
                      exact join4 _ _ _ _ ⟨(gq + vn), by (have h9 := halB.resolve_left c_309); omega, rfl, hP, hD, hS, hl⟩
                  · rintro H locs ls stk ⟨nn, hnn, rfl, hP, hD, hS, hl⟩
                    refine lv_istore_n hx hb dX12_solves_325 rfl hl (by decide) rfl (fun ls (hl : lv_has ls _ ([(3, .int (nI nn)), (0, .ref h0), (2, .int al)])) => ?_)
                    refine lv_iconst (v := 1) hx hb dX12_solves_326 (by decide) ?_
                    refine lv_istore hx hb dX12_solves_327 hl (by decide) rfl (fun ls (hl : lv_has ls _ ([(4, .int 1), (3, .int (nI nn)), (0, .ref h0), (2, .int al)])) => ?_)
                    have hl : lv_has _ _ ([(0, .ref h0), (2, .int al), (3, .int (nI nn)), (4, .int (nI 1))]) := lv_sub hl [2, 3, 1, 0] rfl
                    refine (fun (loop : ∀ (n9 : Nat) (k8 : Nat) (t7 : Nat → Nat → Int) (D7 : Int) (g7 : Nat → Int32) (f27 : Nat → Int32) (f37 : Nat → Int32) (f47 : Nat → Int32) (f57 : Nat → Int32) (f67 : Nat → Int32) (gs7 : Nat → Int64) (F7 : Nat → Int64) (L87 : Nat → Int64) (qk7 : Int32) (qd7 : Int64) (m7 : Nat → Int) (H : Heap) (locs : List Loc) (ls : Array Slot), (Bg g7 m7) → (1 ≤ k8 ∧ k8 ≤ nn + 1) → (Tab qk7 (vn + 1) (R2 + GB) m7 F7 qd7 t7 D7) → (Sx (vn + 1) R2 (R2 + GB) (fun i j => mB (30 + i * (vn + 1 + 1) + j)) t7 D7 f47 f57) → (∀ i, i < R2 → 0 ≤ t7 i (vn + 1)) → (∀ q, 1000 ≤ q → m7 q = mg q) →  (nn + 1 < k8 + n9) → va_P (dC, dI) vwCl (WR a k h0 (fT (fT (fT (fT (fT vi 116 fx) 5 (nI (vn + 1))) 6 (nI R2)) 7 (nI GB)) 11 qk7) (fT vj 12 qd7) (fT (fT (fT (fT (fT (fT vF 0 g7) 4 f47) 6 f67) 5 f57) 2 f27) 3 f37) (fT (fT (fT vG 1 gs7) 7 F7) 8 L87)) H → va_D A (WR a k h0 (fT (fT (fT (fT (fT vi 116 fx) 5 (nI (vn + 1))) 6 (nI R2)) 7 (nI GB)) 11 qk7) (fT vj 12 qd7) (fT (fT (fT (fT (fT (fT vF 0 g7) 4 f47) 6 f67) 5 f57) 2 f27) 3 f37) (fT (fT (fT vG 1 gs7) 7 F7) 8 L87)) → va_S A s.heap H locs → lv_has ls 6 [(0, .ref h0), (2, .int al), (3, .int (nI nn)), (4, .int (nI k8))] → W p l e _ s m _ below meth c H locs 0 0 _ (F0 m 329 ls [])) => loop (nn + 2) 1 t2295 D2295 g295 f2w295 f3w295 f4295 f5295 f6295 gs295 F295 L8295 qk295 qd295 m2295 _ _ _ (f295_0) (by omega) (f295_1) (f295_2) (f295_3) (fun q hq => by (rw [f295_4 _ (by omega)]); exact homB q hq) (by omega) hP hD hS hl) ?_
                    intro n9
                    induction n9 with
                    | zero => intro k8 t7 D7 g7 f27 f37 f47 f57 f67 gs7 F7 L87 qk7 qd7 m7 H locs ls hB7 hk8 hT7 hS7 hG7 ho7 hf9; exact False.elim (by omega)
                    | succ n9 ih329_5 =>
                      intro k8 t7 D7 g7 f27 f37 f47 f57 f67 gs7 F7 L87 qk7 qd7 m7 H locs ls hB7 hk8 hT7 hS7 hG7 ho7 hf329_5 hP hD hS hl
                      refine lv_iload hx hb dX12_solves_329 (lv_at hl 3 rfl) ?_
                      refine lv_iload_n hx hb dX12_solves_331 rfl (lv_at hl 2 rfl) ?_
                      refine lv_icmp_gt (tgt := 353) hx hb dX12_solves_332 (by decide) (fun c_332 => ?_) (fun c_332 => ?_)
                      · have t_332 : ((k8 : Nat) : Int) > ((nn : Nat) : Int) := toI_gt c_332 (nI_toInt (by omega)) (nI_toInt (by omega))
                        have hD7 := hS7.1.2.1
                        refine lv_aload_n hx hb dX12_solves_353 rfl (lv_at hl 0 rfl) ?_
                        have hFc := allFree hD hS hA
                        refine va_callv (va_runV (As := []) (rest := []) ⟨hx, hb, hml, hown, hts⟩ (r_X12_spill l dC dI a k h0 (fT (fT (fT (fT (fT vi 116 fx) 5 (nI (vn + 1))) 6 (nI R2)) 7 (nI GB)) 11 qk7) (fT vj 12 qd7) (fT (fT (fT (fT (fT (fT vF 0 g7) 4 f47) 6 f67) 5 f57) 2 f27) 3 f37) (fT (fT (fT vG 1 gs7) 7 F7) 8 L87) (vn + 1) R2 GB t7 D7 m7 hB7 (by first | with_reducible assumption | decide | omega | rfl | assumption) (by first | with_reducible assumption | decide | omega | rfl | assumption) (by first | with_reducible assumption | decide | omega | rfl | assumption) (by first | with_reducible assumption | decide | omega | rfl | assumption) (by first | with_reducible assumption | decide | omega | rfl | assumption) (by first | with_reducible assumption | decide | omega | rfl | assumption) (hT7) (hD7) H.size) (cwV 0 hts gwsRX12_solves_10 rfl rfl rfl hd_yX12_spill_RX12 (by decide +kernel)) (fz_pre (va_recv hK hP (ci := 12) (q0 := 0) rfl rfl) hP hK hD) rfl rfl hl.1 rfl (lv_room (Nat.le_of_ble_eq_true rfl)) dX12_solves_354 (by decide +kernel)) hS (fun q _ h => hFc q h) hFc (fun u t9_ H locs ht hvm hw9 hB9 hz1 hk1 hS => ?_)
                        revert u
                        refine fz_p2 ?_
                        intro g354 m2354 hw9 hB9
                        try dsimp only at hw9 hB9
                        have hP : va_P (dC, dI) vwCl (WR a k h0 (fT (fT (fT (fT (fT (fT vi 116 fx) 5 (nI (vn + 1))) 6 (nI R2)) 7 (nI GB)) 11 qk7) 11 0) (fT vj 12 qd7) (fT (fT (fT (fT (fT (fT (fT vF 0 g7) 4 f47) 6 f67) 5 f57) 2 f27) 3 f37) 0 g354) (fT (fT (fT vG 1 gs7) 7 F7) 8 L87)) H := fz_P ht hB9.1
                        have hD : va_D A (WR a k h0 (fT (fT (fT (fT (fT (fT vi 116 fx) 5 (nI (vn + 1))) 6 (nI R2)) 7 (nI GB)) 11 qk7) 11 0) (fT vj 12 qd7) (fT (fT (fT (fT (fT (fT (fT vF 0 g7) 4 f47) 6 f67) 5 f57) 2 f27) 3 f37) 0 g354) (fT (fT (fT vG 1 gs7) 7 F7) 8 L87)) := hB9.2.weaken (fun _ q _ h => hFc q.1 h)
                        have e9 : fT (fT (fT (fT (fT vi 116 fx) 5 (nI (vn + 1))) 6 (nI R2)) 7 (nI GB)) 11 0 = fT (fT (fT (fT (fT (fT vi 116 fx) 5 (nI (vn + 1))) 6 (nI R2)) 7 (nI GB)) 11 qk7) 11 0 := (fT_sm _ _ _ _).symm
                        rw [← e9] at hP hD
                        clear e9
                        have e9 : fT (fT (fT (fT (fT (fT vF 0 g354) 4 f47) 6 f67) 5 f57) 2 f27) 3 f37 = fT (fT (fT (fT (fT (fT (fT vF 0 g7) 4 f47) 6 f67) 5 f57) 2 f27) 3 f37) 0 g354 := ((fT_sw _ _ _ (Nat.ne_of_beq_eq_false rfl)).trans (congrArg (fun g9 => fT g9 3 f37) ((fT_sw _ _ _ (Nat.ne_of_beq_eq_false rfl)).trans (congrArg (fun g9 => fT g9 2 f27) ((fT_sw _ _ _ (Nat.ne_of_beq_eq_false rfl)).trans (congrArg (fun g9 => fT g9 5 f57) ((fT_sw _ _ _ (Nat.ne_of_beq_eq_false rfl)).trans (congrArg (fun g9 => fT g9 6 f67) ((fT_sw _ _ _ (Nat.ne_of_beq_eq_false rfl)).trans (congrArg (fun g9 => fT g9 4 f47) (fT_sm _ _ _ _))))))))))).symm
                        rw [← e9] at hP hD
                        clear e9
                        have hP : va_P (dC, dI) vwCl (WR a k h0 (fT (fT (fT (fT (fT vi 116 fx) 5 (nI (vn + 1))) 6 (nI R2)) 7 (nI GB)) 11 0) (fT vj 12 qd7) (fT (fT (fT (fT (fT (fT vF 0 g354) 4 f47) 6 f67) 5 f57) 2 f27) 3 f37) (fT (fT (fT vG 1 gs7) 7 F7) 8 L87)) H := hP
                        have hD : va_D A (WR a k h0 (fT (fT (fT (fT (fT vi 116 fx) 5 (nI (vn + 1))) 6 (nI R2)) 7 (nI GB)) 11 0) (fT vj 12 qd7) (fT (fT (fT (fT (fT (fT vF 0 g354) 4 f47) 6 f67) 5 f57) 2 f27) 3 f37) (fT (fT (fT vG 1 gs7) 7 F7) 8 L87)) := hD
                        revert hw9
                        refine fz_a3 ?_
                        intro f354_0 f354_1 f354_2
                        refine lv_iload_n hx hb dX12_solves_357 rfl (lv_at hl 1 rfl) ?_
                        refine lv_if_eq (tgt := 365) hx hb dX12_solves_358 (by decide) (fun c_358 => ?_) (fun c_358 => ?_)
                        · have t_358 : (al).toInt = 0 := toI_eq c_358 rfl (by decide)
                          refine lv_iconst (v := 1) hx hb dX12_solves_365 (by decide) ?_
                          refine W.widen (k := 0) (n := 0) (by decide +kernel) (by decide +kernel) ?_
                          exact W.zret (v := 1) hx hb hr rfl (fun t9_ ht hW => ⟨⟨1, (g354, f27, f37, f47, f57, f67, gs7, F7, L87, qd7, fx, (nI (vn + 1)), (nI R2), (nI GB), m2354), rfl, by (try dsimp only); exact ⟨f354_0, hAn.frame (fun p h1 h2 => by (rw [f354_2 _ (by omega) (by omega)]); exact ho7 p (by omega)), fun q hq => by (rw [f354_2 _ (by omega) (by omega)]); exact ho7 q (by omega), Or.inr rfl, Or.inr (Or.inl c_358)⟩, by rw [ht]; exact hP, hD⟩, hS.F ht⟩) hS.2.2 dX12_solves_366
                        · have t_358 : ¬ (al).toInt = 0 := toI_neq c_358 rfl (by decide)
                          have hb7 := hcs _ _ _ _ hS7.1
                          refine lv_aload_n hx hb dX12_solves_361 rfl (lv_at hl 0 rfl) ?_
                          have hFc := allFree hD hS hA
                          refine va_callv (va_runV (As := []) (rest := []) ⟨hx, hb, hml, hown, hts⟩ (r_X12_tryIt l dC dI a k h0 (fT (fT (fT (fT (fT vi 116 fx) 5 (nI (vn + 1))) 6 (nI R2)) 7 (nI GB)) 11 0) (fT vj 12 qd7) (fT (fT (fT (fT (fT (fT vF 0 g354) 4 f47) 6 f67) 5 f57) 2 f27) 3 f37) (fT (fT (fT vG 1 gs7) 7 F7) 8 L87) (vn + 1) R2 GB t7 D7 gq m2354 f354_0 (by first | with_reducible assumption | decide | omega | rfl | assumption) (by first | with_reducible assumption | decide | omega | rfl | assumption) (by first | with_reducible assumption | decide | omega | rfl | assumption) (by first | with_reducible assumption | decide | omega | rfl | assumption) (by first | with_reducible assumption | decide | omega | rfl | assumption) (by first | with_reducible assumption | decide | omega | rfl | assumption) (hvn) (by first | with_reducible assumption | decide | omega | rfl | assumption) (by first | with_reducible assumption | decide | omega | rfl | assumption) (by first | with_reducible assumption | decide | omega | rfl | assumption) (by first | with_reducible assumption | decide | omega | rfl | assumption) (f354_1) (hb7.1.1) (fun i hi => hb7.1.2 i hi _ (Nat.le_refl _)) (hAn.frame (fun p h1 h2 => by (rw [f354_2 _ (by omega) (by omega)]); exact ho7 p (by omega))) (by first | with_reducible assumption | decide | omega | rfl | assumption) H.size) (cwV 0 hts gwsRX12_solves_11 rfl rfl rfl hd_yX12_tryIt_RX12 (by decide +kernel)) (fz_pre (va_recv hK hP (ci := 12) (q0 := 0) rfl rfl) hP hK hD) rfl rfl hl.1 rfl (lv_room (Nat.le_of_ble_eq_true rfl)) dX12_solves_362 (by decide +kernel)) hS (fun q _ h => hFc q h) hFc (fun u t9_ H locs ht hvm hw9 hB9 hz1 hk1 hS => ?_)
                          revert u
                          refine fz_p5 ?_
                          intro g362 f2w362 f3w362 gs362 m2362 hw9 hB9
                          try dsimp only at hw9 hB9
                          have hP : va_P (dC, dI) vwCl (WR a k h0 (fT (fT (fT (fT (fT vi 116 fx) 5 (nI (vn + 1))) 6 (nI R2)) 7 (nI GB)) 11 0) (fT vj 12 qd7) (fT (fT (fT (fT (fT (fT (fT (fT (fT vF 0 g354) 4 f47) 6 f67) 5 f57) 2 f27) 3 f37) 0 g362) 2 f2w362) 3 f3w362) (fT (fT (fT (fT vG 1 gs7) 7 F7) 8 L87) 1 gs362)) H := fz_P ht hB9.1
                          have hD : va_D A (WR a k h0 (fT (fT (fT (fT (fT vi 116 fx) 5 (nI (vn + 1))) 6 (nI R2)) 7 (nI GB)) 11 0) (fT vj 12 qd7) (fT (fT (fT (fT (fT (fT (fT (fT (fT vF 0 g354) 4 f47) 6 f67) 5 f57) 2 f27) 3 f37) 0 g362) 2 f2w362) 3 f3w362) (fT (fT (fT (fT vG 1 gs7) 7 F7) 8 L87) 1 gs362)) := hB9.2.weaken (fun _ q _ h => hFc q.1 h)
                          have e9 : fT (fT (fT (fT (fT (fT vF 0 g362) 4 f47) 6 f67) 5 f57) 2 f2w362) 3 f3w362 = fT (fT (fT (fT (fT (fT (fT (fT (fT vF 0 g354) 4 f47) 6 f67) 5 f57) 2 f27) 3 f37) 0 g362) 2 f2w362) 3 f3w362 := ((congrArg (fun g9 => fT (fT g9 2 f2w362) 3 f3w362) ((fT_sw _ _ _ (Nat.ne_of_beq_eq_false rfl)).trans (congrArg (fun g9 => fT g9 3 f37) ((fT_sw _ _ _ (Nat.ne_of_beq_eq_false rfl)).trans (congrArg (fun g9 => fT g9 2 f27) ((fT_sw _ _ _ (Nat.ne_of_beq_eq_false rfl)).trans (congrArg (fun g9 => fT g9 5 f57) ((fT_sw _ _ _ (Nat.ne_of_beq_eq_false rfl)).trans (congrArg (fun g9 => fT g9 6 f67) ((fT_sw _ _ _ (Nat.ne_of_beq_eq_false rfl)).trans (congrArg (fun g9 => fT g9 4 f47) (fT_sm _ _ _ _)))))))))))).trans ((congrArg (fun g9 => fT g9 3 f3w362) ((fT_sw _ _ _ (Nat.ne_of_beq_eq_false rfl)).trans (congrArg (fun g9 => fT g9 3 f37) (fT_sm _ _ _ _)))).trans (fT_sm _ _ _ _))).symm
                          rw [← e9] at hP hD
                          clear e9
                          have e9 : fT (fT (fT vG 1 gs362) 7 F7) 8 L87 = fT (fT (fT (fT vG 1 gs7) 7 F7) 8 L87) 1 gs362 := ((fT_sw _ _ _ (Nat.ne_of_beq_eq_false rfl)).trans (congrArg (fun g9 => fT g9 8 L87) ((fT_sw _ _ _ (Nat.ne_of_beq_eq_false rfl)).trans (congrArg (fun g9 => fT g9 7 F7) (fT_sm _ _ _ _))))).symm
                          rw [← e9] at hP hD
                          clear e9
                          have hP : va_P (dC, dI) vwCl (WR a k h0 (fT (fT (fT (fT (fT vi 116 fx) 5 (nI (vn + 1))) 6 (nI R2)) 7 (nI GB)) 11 0) (fT vj 12 qd7) (fT (fT (fT (fT (fT (fT vF 0 g362) 4 f47) 6 f67) 5 f57) 2 f2w362) 3 f3w362) (fT (fT (fT vG 1 gs362) 7 F7) 8 L87)) H := hP
                          have hD : va_D A (WR a k h0 (fT (fT (fT (fT (fT vi 116 fx) 5 (nI (vn + 1))) 6 (nI R2)) 7 (nI GB)) 11 0) (fT vj 12 qd7) (fT (fT (fT (fT (fT (fT vF 0 g362) 4 f47) 6 f67) 5 f57) 2 f2w362) 3 f3w362) (fT (fT (fT vG 1 gs362) 7 F7) 8 L87)) := hD
                          revert hw9
                          refine fz_a5 ?_
                          intro f362_0 f362_1 f362_2 f362_3 f362_4
                          refine lv_iconst (v := 1) hx hb dX12_solves_365 (by decide) ?_
                          refine W.widen (k := 0) (n := 0) (by decide +kernel) (by decide +kernel) ?_
                          exact W.zret (v := 1) hx hb hr rfl (fun t9_ ht hW => ⟨⟨1, (g362, f2w362, f3w362, f47, f57, f67, gs362, F7, L87, qd7, fx, (nI (vn + 1)), (nI R2), (nI GB), m2362), rfl, by (try dsimp only); exact ⟨f362_0, f362_1, fun q hq => by (rw [f362_2 _ (by omega) (by omega) (by omega), f354_2 _ (by omega) (by omega)]); exact ho7 q (by omega), Or.inr rfl, Or.inr (Or.inr ⟨by rw [f362_3]; exact hD7, f362_4⟩)⟩, by rw [ht]; exact hP, hD⟩, hS.F ht⟩) hS.2.2 dX12_solves_366
                      · have t_332 : ¬ ((k8 : Nat) : Int) > ((nn : Nat) : Int) := toI_ngt c_332 (nI_toInt (by omega)) (nI_toInt (by omega))
                        refine lv_aload_n hx hb dX12_solves_335 rfl (lv_at hl 0 rfl) ?_
                        refine lv_aload_n hx hb dX12_solves_336 rfl (lv_at hl 0 rfl) ?_
                        refine va_get (D := (dC, dI)) (ci := 12) (v := .int (nI R2)) (C := RX12) (T := TX12) (N := 163) (fs := fM (vS a (fT (fT (fT (fT (fT vi 116 fx) 5 (nI (vn + 1))) 6 (nI R2)) 7 (nI GB)) 11 qk7) (fT vj 12 qd7))) hx hb hts iwsRX12_solves_in12 hown hK hP 0 rfl rfl 6 (by decide) (hts (.fieldLink RX12 399 "OptimaWorksModel" "rows" "I") (by decide +kernel)) (fun _ h9 => h9) rfl dX12_solves_337 ?_
                        refine lv_iload hx hb dX12_solves_340 (lv_at hl 3 rfl) ?_
                        refine lv_iadd hx hb dX12_solves_342 ?_
                        refine lv_topi (fun y12 hy12 => ?_)
                        obtain rfl : (nI (R2 + k8)) = y12 := (hy12.trans (nI_add R2 k8)).symm
                        have hFc := allFree hD hS hA
                        refine va_calli (va_runV (As := [.int (nI (R2 + k8))]) (rest := []) ⟨hx, hb, hml, hown, hts⟩ (r_X12_raise l dC dI a k h0 (fT (fT (fT (fT (fT vi 116 fx) 5 (nI (vn + 1))) 6 (nI R2)) 7 (nI GB)) 11 qk7) (fT vj 12 qd7) (fT (fT (fT (fT (fT (fT vF 0 g7) 4 f47) 6 f67) 5 f57) 2 f27) 3 f37) (fT (fT (fT vG 1 gs7) 7 F7) 8 L87) (R2 + k8) (fun i j => mB (30 + i * (vn + 1 + 1) + j)) (vn + 1) R2 GB t7 D7 m7 hB7 (by first | with_reducible assumption | decide | omega | rfl | assumption) (by first | with_reducible assumption | decide | omega | rfl | assumption) (by first | with_reducible assumption | decide | omega | rfl | assumption) (by first | with_reducible assumption | decide | omega | rfl | assumption) (by first | with_reducible assumption | decide | omega | rfl | assumption) (by first | with_reducible assumption | decide | omega | rfl | assumption) (hT7) (hS7) (hsm) (hG7) (by first | with_reducible assumption | decide | omega | rfl | assumption) (by first | with_reducible assumption | decide | omega | rfl | assumption) H.size) (cwV 1 hts gwsRX12_solves_12 rfl rfl rfl hd_yX12_raise_RX12 (by decide +kernel)) (fz_pre (va_recv hK hP (ci := 12) (q0 := 0) rfl rfl) hP hK hD) rfl rfl hl.1 rfl (lv_room (Nat.le_of_ble_eq_true rfl)) dX12_solves_343 (by decide +kernel)) hS (fun q _ h => hFc q h) hFc (fun r343 u t9_ H locs ht hvm hw9 hB9 hz1 hk1 hS => ?_)
                        revert u
                        refine fz_p14 ?_
                        intro g343 f2w343 f3w343 f4343 f5343 f6343 gs343 F343 L8343 qk343 qd343 m2343 t2343 D2343 hw9 hB9
                        try dsimp only at hw9 hB9
                        have hP : va_P (dC, dI) vwCl (WR a k h0 (fT (fT (fT (fT (fT (fT vi 116 fx) 5 (nI (vn + 1))) 6 (nI R2)) 7 (nI GB)) 11 qk7) 11 qk343) (fT (fT vj 12 qd7) 12 qd343) (fT (fT (fT (fT (fT (fT (fT (fT (fT (fT (fT (fT vF 0 g7) 4 f47) 6 f67) 5 f57) 2 f27) 3 f37) 0 g343) 2 f2w343) 3 f3w343) 4 f4343) 5 f5343) 6 f6343) (fT (fT (fT (fT (fT (fT vG 1 gs7) 7 F7) 8 L87) 1 gs343) 7 F343) 8 L8343)) H := fz_P ht hB9.1
                        have hD : va_D A (WR a k h0 (fT (fT (fT (fT (fT (fT vi 116 fx) 5 (nI (vn + 1))) 6 (nI R2)) 7 (nI GB)) 11 qk7) 11 qk343) (fT (fT vj 12 qd7) 12 qd343) (fT (fT (fT (fT (fT (fT (fT (fT (fT (fT (fT (fT vF 0 g7) 4 f47) 6 f67) 5 f57) 2 f27) 3 f37) 0 g343) 2 f2w343) 3 f3w343) 4 f4343) 5 f5343) 6 f6343) (fT (fT (fT (fT (fT (fT vG 1 gs7) 7 F7) 8 L87) 1 gs343) 7 F343) 8 L8343)) := hB9.2.weaken (fun _ q _ h => hFc q.1 h)
                        have e9 : fT (fT (fT (fT (fT vi 116 fx) 5 (nI (vn + 1))) 6 (nI R2)) 7 (nI GB)) 11 qk343 = fT (fT (fT (fT (fT (fT vi 116 fx) 5 (nI (vn + 1))) 6 (nI R2)) 7 (nI GB)) 11 qk7) 11 qk343 := (fT_sm _ _ _ _).symm
                        rw [← e9] at hP hD
                        clear e9
                        have e9 : fT vj 12 qd343 = fT (fT vj 12 qd7) 12 qd343 := (fT_sm _ _ _ _).symm
                        rw [← e9] at hP hD
                        clear e9
                        have e9 : fT (fT (fT (fT (fT (fT vF 0 g343) 4 f4343) 6 f6343) 5 f5343) 2 f2w343) 3 f3w343 = fT (fT (fT (fT (fT (fT (fT (fT (fT (fT (fT (fT vF 0 g7) 4 f47) 6 f67) 5 f57) 2 f27) 3 f37) 0 g343) 2 f2w343) 3 f3w343) 4 f4343) 5 f5343) 6 f6343 := ((congrArg (fun g9 => fT (fT (fT (fT (fT g9 2 f2w343) 3 f3w343) 4 f4343) 5 f5343) 6 f6343) ((fT_sw _ _ _ (Nat.ne_of_beq_eq_false rfl)).trans (congrArg (fun g9 => fT g9 3 f37) ((fT_sw _ _ _ (Nat.ne_of_beq_eq_false rfl)).trans (congrArg (fun g9 => fT g9 2 f27) ((fT_sw _ _ _ (Nat.ne_of_beq_eq_false rfl)).trans (congrArg (fun g9 => fT g9 5 f57) ((fT_sw _ _ _ (Nat.ne_of_beq_eq_false rfl)).trans (congrArg (fun g9 => fT g9 6 f67) ((fT_sw _ _ _ (Nat.ne_of_beq_eq_false rfl)).trans (congrArg (fun g9 => fT g9 4 f47) (fT_sm _ _ _ _)))))))))))).trans ((congrArg (fun g9 => fT (fT (fT (fT g9 3 f3w343) 4 f4343) 5 f5343) 6 f6343) ((fT_sw _ _ _ (Nat.ne_of_beq_eq_false rfl)).trans (congrArg (fun g9 => fT g9 3 f37) (fT_sm _ _ _ _)))).trans ((congrArg (fun g9 => fT (fT (fT g9 4 f4343) 5 f5343) 6 f6343) (fT_sm _ _ _ _)).trans ((congrArg (fun g9 => fT (fT g9 5 f5343) 6 f6343) ((fT_sw _ _ _ (Nat.ne_of_beq_eq_false rfl)).trans (congrArg (fun g9 => fT g9 3 f3w343) ((fT_sw _ _ _ (Nat.ne_of_beq_eq_false rfl)).trans (congrArg (fun g9 => fT g9 2 f2w343) ((fT_sw _ _ _ (Nat.ne_of_beq_eq_false rfl)).trans (congrArg (fun g9 => fT g9 5 f57) ((fT_sw _ _ _ (Nat.ne_of_beq_eq_false rfl)).trans (congrArg (fun g9 => fT g9 6 f67) (fT_sm _ _ _ _)))))))))).trans ((congrArg (fun g9 => fT g9 6 f6343) ((fT_sw _ _ _ (Nat.ne_of_beq_eq_false rfl)).trans (congrArg (fun g9 => fT g9 3 f3w343) ((fT_sw _ _ _ (Nat.ne_of_beq_eq_false rfl)).trans (congrArg (fun g9 => fT g9 2 f2w343) (fT_sm _ _ _ _)))))).trans ((fT_sw _ _ _ (Nat.ne_of_beq_eq_false rfl)).trans (congrArg (fun g9 => fT g9 3 f3w343) ((fT_sw _ _ _ (Nat.ne_of_beq_eq_false rfl)).trans (congrArg (fun g9 => fT g9 2 f2w343) ((fT_sw _ _ _ (Nat.ne_of_beq_eq_false rfl)).trans (congrArg (fun g9 => fT g9 5 f5343) (fT_sm _ _ _ _)))))))))))).symm
                        rw [← e9] at hP hD
                        clear e9
                        have e9 : fT (fT (fT vG 1 gs343) 7 F343) 8 L8343 = fT (fT (fT (fT (fT (fT vG 1 gs7) 7 F7) 8 L87) 1 gs343) 7 F343) 8 L8343 := ((congrArg (fun g9 => fT (fT g9 7 F343) 8 L8343) ((fT_sw _ _ _ (Nat.ne_of_beq_eq_false rfl)).trans (congrArg (fun g9 => fT g9 8 L87) ((fT_sw _ _ _ (Nat.ne_of_beq_eq_false rfl)).trans (congrArg (fun g9 => fT g9 7 F7) (fT_sm _ _ _ _)))))).trans ((congrArg (fun g9 => fT g9 8 L8343) ((fT_sw _ _ _ (Nat.ne_of_beq_eq_false rfl)).trans (congrArg (fun g9 => fT g9 8 L87) (fT_sm _ _ _ _)))).trans (fT_sm _ _ _ _))).symm
                        rw [← e9] at hP hD
                        clear e9
                        have hP : va_P (dC, dI) vwCl (WR a k h0 (fT (fT (fT (fT (fT vi 116 fx) 5 (nI (vn + 1))) 6 (nI R2)) 7 (nI GB)) 11 qk343) (fT vj 12 qd343) (fT (fT (fT (fT (fT (fT vF 0 g343) 4 f4343) 6 f6343) 5 f5343) 2 f2w343) 3 f3w343) (fT (fT (fT vG 1 gs343) 7 F343) 8 L8343)) H := hP
                        have hD : va_D A (WR a k h0 (fT (fT (fT (fT (fT vi 116 fx) 5 (nI (vn + 1))) 6 (nI R2)) 7 (nI GB)) 11 qk343) (fT vj 12 qd343) (fT (fT (fT (fT (fT (fT vF 0 g343) 4 f4343) 6 f6343) 5 f5343) 2 f2w343) 3 f3w343) (fT (fT (fT vG 1 gs343) 7 F343) 8 L8343)) := hD
                        revert hw9
                        refine fz_a6 ?_
                        intro f343_0 f343_1 f343_2 f343_3 f343_4 f343_5
                        refine lv_pop hx hb dX12_solves_346 rfl ?_
                        refine lv_iinc (v := (nI (k8 + 1))) hx hb dX12_solves_347 hl (k := 3) rfl (nI_add k8 1) (by decide) rfl (fun ls (hl : lv_has ls _ ([(4, .int (nI (k8 + 1))), (0, .ref h0), (2, .int al), (3, .int (nI nn))])) => ?_)
                        refine lv_goto (tgt := 329) hx hb dX12_solves_350 (by decide) ?_
                        have hl : lv_has _ _ ([(0, .ref h0), (2, .int al), (3, .int (nI nn)), (4, .int (nI (k8 + 1)))]) := lv_sub hl [1, 2, 3, 0] rfl
                        exact ih329_5 (k8 + 1) t2343 D2343 g343 f2w343 f3w343 f4343 f5343 f6343 gs343 F343 L8343 qk343 qd343 m2343 _ _ _ (f343_0) (by omega) (f343_1) (f343_2) (f343_3) (fun q hq => by (rw [f343_4 _ (by omega)]); exact ho7 q hq) (by omega) hP hD hS hl
          · have t_80 : ¬ ((k5 : Nat) : Int) ≥ ((vn : Nat) : Int) := toI_nge c_80 (nI_toInt (by omega)) (nI_toInt (by omega))
            refine lv_aload_n hx hb dX12_solves_83 rfl (lv_at hl 0 rfl) ?_
            refine va_get (D := (dC, dI)) (ci := 12) (v := .int fx) (C := RX12) (T := TX12) (N := 163) (fs := fM (vS a (fT (fT (fT (fT vi 116 fx) 5 (nI (vn + 1))) 6 (nI R2)) 7 0) vj)) hx hb hts iwsRX12_solves_in12 hown hK hP 0 rfl rfl 116 (by decide) (hts (.fieldLink RX12 829 "OptimaWorksModel" "fixes" "Z") (by decide +kernel)) (fun _ h9 => h9) rfl dX12_solves_84 ?_
            refine W.cut (pc := 110) (fun H locs ls stk =>  stk = [] ∧ va_P (dC, dI) vwCl (WR a k h0 (fT (fT (fT (fT vi 116 fx) 5 (nI (vn + 1))) 6 (nI R2)) 7 0) vj (fT (fT (fT (fT vF 0 g2) 4 f418) 6 f62) 5 f52) vG) H ∧ va_D A (WR a k h0 (fT (fT (fT (fT vi 116 fx) 5 (nI (vn + 1))) 6 (nI R2)) 7 0) vj (fT (fT (fT (fT vF 0 g2) 4 f418) 6 f62) 5 f52) vG) ∧ va_S A s.heap H locs ∧ lv_has ls 6 [(0, .ref h0), (1, .int rx), (2, .int al), (3, .int (nI k5))]) (fun join5 => ?_) ?_
            · refine lv_if_eq (tgt := 110) hx hb dX12_solves_87 (by decide) (fun c_87 => ?_) (fun c_87 => ?_)
              · have t_87 : (fx).toInt = 0 := toI_eq c_87 rfl (by decide)
                have hl : lv_has _ _ ([(0, .ref h0), (1, .int rx), (2, .int al), (3, .int (nI k5))]) := lv_sub hl [0, 1, 2, 3] rfl
                exact join5 _ _ _ _ ⟨rfl, hP, hD, hS, hl⟩
              · have t_87 : ¬ (fx).toInt = 0 := toI_neq c_87 rfl (by decide)
                refine lv_aload_n hx hb dX12_solves_90 rfl (lv_at hl 0 rfl) ?_
                refine va_get (D := (dC, dI)) (ci := 12) (v := .ref (a 58)) (C := RX12) (T := TX12) (N := 163) (fs := fM (vS a (fT (fT (fT (fT vi 116 fx) 5 (nI (vn + 1))) 6 (nI R2)) 7 0) vj)) hx hb hts iwsRX12_solves_in12 hown hK hP 0 rfl rfl 98 (by decide) (hts (.fieldLink RX12 197 "OptimaWorksModel" "whole" "[I") (by decide +kernel)) (fun _ h9 => h9) rfl dX12_solves_91 ?_
                refine lv_iload_n hx hb dX12_solves_94 rfl (lv_at hl 3 rfl) ?_
                refine va_iald (cA := k 58) (n := 9) (f := (vF 58)) hx hb hK hP 59 58 (WR_get 58 (by decide)) (TR_get 58 (by decide)) (vp_in_nI (show k5 < 9 by omega) (by omega)) dX12_solves_95 ?_
                refine lv_topi (fun y13 hy13 => ?_)
                obtain rfl : ((vF 58) k5) = y13 := (hy13.trans (by rw [nI_clamp (by omega)])).symm
                refine lv_iconst (v := 1) hx hb dX12_solves_96 (by decide) ?_
                refine lv_icmp_ne (tgt := 110) hx hb dX12_solves_97 (by decide) (fun c_97 => ?_) (fun c_97 => ?_)
                · have t_97 : (((vF 58) k5)).toInt ≠ 1 := toI_ne c_97 rfl (by decide)
                  have hl : lv_has _ _ ([(0, .ref h0), (1, .int rx), (2, .int al), (3, .int (nI k5))]) := lv_sub hl [0, 1, 2, 3] rfl
                  exact join5 _ _ _ _ ⟨rfl, hP, hD, hS, hl⟩
                · have t_97 : (((vF 58) k5)).toInt = 1 := toI_nne c_97 rfl (by decide)
                  refine lv_aload_n hx hb dX12_solves_100 rfl (lv_at hl 0 rfl) ?_
                  refine va_get (D := (dC, dI)) (ci := 12) (v := .ref (a 6)) (C := RX12) (T := TX12) (N := 163) (fs := fM (vS a (fT (fT (fT (fT vi 116 fx) 5 (nI (vn + 1))) 6 (nI R2)) 7 0) vj)) hx hb hts iwsRX12_solves_in12 hown hK hP 0 rfl rfl 10 (by decide) (hts (.fieldLink RX12 29 "OptimaWorksModel" "still" "[Z") (by decide +kernel)) (fun _ h9 => h9) rfl dX12_solves_101 ?_
                  refine lv_iload_n hx hb dX12_solves_104 rfl (lv_at hl 3 rfl) ?_
                  refine lv_iconst (v := 1) hx hb dX12_solves_105 (by decide) ?_
                  refine va_zast (cA := k 6) (n := 46) (f := f62) hx hb hK hP hD hS 7 6 (WR_get 6 (by decide)) (TR_get 6 (by decide)) (vp_in_nI (show k5 < 46 by omega) (by omega)) dX12_solves_106 (fun H locs hP hD hS => ?_)
                  have e9 : fT (fT (fT (fT vF 0 g2) 4 f418) 6 (upd f62 ((nI k5)).toNatClampNeg (vp_nar FieldType.boolean 1))) 5 f52 = fT (fT (fT (fT (fT vF 0 g2) 4 f418) 6 f62) 5 f52) 6 (upd f62 ((nI k5)).toNatClampNeg (vp_nar FieldType.boolean 1)) := ((fT_sw _ _ _ (Nat.ne_of_beq_eq_false rfl)).trans (congrArg (fun g9 => fT g9 5 f52) (fT_sm _ _ _ _))).symm
                  have hP : va_P (dC, dI) vwCl (WR a k h0 (fT (fT (fT (fT vi 116 fx) 5 (nI (vn + 1))) 6 (nI R2)) 7 0) vj (fT (fT (fT (fT vF 0 g2) 4 f418) 6 (upd f62 ((nI k5)).toNatClampNeg (vp_nar FieldType.boolean 1))) 5 f52) vG) H := by rw [e9, ← WR_F 6 (by decide) _ rfl]; exact hP
                  have hD : va_D A (WR a k h0 (fT (fT (fT (fT vi 116 fx) 5 (nI (vn + 1))) 6 (nI R2)) 7 0) vj (fT (fT (fT (fT vF 0 g2) 4 f418) 6 (upd f62 ((nI k5)).toNatClampNeg (vp_nar FieldType.boolean 1))) 5 f52) vG) := by rw [e9, ← WR_F 6 (by decide) _ rfl]; exact hD
                  clear e9
                  refine lv_goto (tgt := 156) hx hb dX12_solves_107 (by decide) ?_
                  refine lv_iinc (v := (nI (k5 + 1))) hx hb dX12_solves_156 hl (k := 3) rfl (nI_add k5 1) (by decide) rfl (fun ls (hl : lv_has ls _ ([(3, .int (nI (k5 + 1))), (0, .ref h0), (1, .int rx), (2, .int al)])) => ?_)
                  refine lv_goto (tgt := 75) hx hb dX12_solves_159 (by decide) ?_
                  have hl : lv_has _ _ ([(0, .ref h0), (1, .int rx), (2, .int al), (3, .int (nI (k5 + 1)))]) := lv_sub hl [1, 2, 3, 0] rfl
                  exact ih75_1 (k5 + 1) R2 g2 f52 (upd f62 ((nI k5)).toNatClampNeg (vp_nar FieldType.boolean 1)) m2a _ _ _ (hB2) (by omega) (by omega) (hBl2) (h202) (ho2) (by omega) hP hD hS hl
            · rintro H locs ls stk ⟨rfl, hP, hD, hS, hl⟩
              have hmul : R2 * (vn + 1 + 1) ≤ 40 * 10 := Nat.mul_le_mul (by omega) (by omega)
              have bl9 := hM.1 k5 (by omega)
              have bh9 := hM.2.1 k5 (by omega)
              have es9 : (vF 57 k5 - vF 56 k5).toInt = (vF 57 k5).toInt - (vF 56 k5).toInt := subB (by omega) (by omega)
              refine lv_aload_n hx hb dX12_solves_110 rfl (lv_at hl 0 rfl) ?_
              have hFc := allFree hD hS hA
              refine va_calli (va_runV (As := []) (rest := []) ⟨hx, hb, hml, hown, hts⟩ (r_X12_newLine l dC dI a k h0 (fT (fT (fT (fT vi 116 fx) 5 (nI (vn + 1))) 6 (nI R2)) 7 0) vj (fT (fT (fT (fT vF 0 g2) 4 f418) 6 f62) 5 f52) vG (vn + 1) R2 m2a hB2 (by first | with_reducible assumption | decide | omega | rfl | assumption) (by first | with_reducible assumption | decide | omega | rfl | assumption) (by first | with_reducible assumption | decide | omega | rfl | assumption) (by first | with_reducible assumption | decide | omega | rfl | assumption) (by first | with_reducible assumption | decide | omega | rfl | assumption) (by first | with_reducible assumption | decide | omega | rfl | assumption) H.size) (cwV 0 hts gwsRX12_solves_13 rfl rfl rfl hd_yX12_newLine_RX12 (by decide +kernel)) (fz_pre (va_recv hK hP (ci := 12) (q0 := 0) rfl rfl) hP hK hD) rfl rfl hl.1 rfl (lv_room (Nat.le_of_ble_eq_true rfl)) dX12_solves_111 (by decide +kernel)) hS (fun q _ h => hFc q h) hFc (fun r111 u t9_ H locs ht hvm hw9 hB9 hz1 hk1 hS => ?_)
              revert u
              refine fz_p2 ?_
              intro g111 m2111 hw9 hB9
              try dsimp only at hw9 hB9
              have hP : va_P (dC, dI) vwCl (WR a k h0 (fT (fT (fT (fT (fT vi 116 fx) 5 (nI (vn + 1))) 6 (nI R2)) 7 0) 6 (nI (R2 + 1))) vj (fT (fT (fT (fT (fT (fT vF 0 g2) 4 f418) 6 f62) 5 f52) 0 g111) 5 (upd f52 (nI R2).toNatClampNeg (nI ((vn + 1) + R2)))) vG) H := fz_P ht hB9.1
              have hD : va_D A (WR a k h0 (fT (fT (fT (fT (fT vi 116 fx) 5 (nI (vn + 1))) 6 (nI R2)) 7 0) 6 (nI (R2 + 1))) vj (fT (fT (fT (fT (fT (fT vF 0 g2) 4 f418) 6 f62) 5 f52) 0 g111) 5 (upd f52 (nI R2).toNatClampNeg (nI ((vn + 1) + R2)))) vG) := hB9.2.weaken (fun _ q _ h => hFc q.1 h)
              have e9 : fT (fT (fT (fT vi 116 fx) 5 (nI (vn + 1))) 6 (nI (R2 + 1))) 7 0 = fT (fT (fT (fT (fT vi 116 fx) 5 (nI (vn + 1))) 6 (nI R2)) 7 0) 6 (nI (R2 + 1)) := ((fT_sw _ _ _ (Nat.ne_of_beq_eq_false rfl)).trans (congrArg (fun g9 => fT g9 7 0) (fT_sm _ _ _ _))).symm
              rw [← e9] at hP hD
              clear e9
              have e9 : fT (fT (fT (fT vF 0 g111) 4 f418) 6 f62) 5 (upd f52 (nI R2).toNatClampNeg (nI ((vn + 1) + R2))) = fT (fT (fT (fT (fT (fT vF 0 g2) 4 f418) 6 f62) 5 f52) 0 g111) 5 (upd f52 (nI R2).toNatClampNeg (nI ((vn + 1) + R2))) := ((congrArg (fun g9 => fT g9 5 (upd f52 (nI R2).toNatClampNeg (nI ((vn + 1) + R2)))) ((fT_sw _ _ _ (Nat.ne_of_beq_eq_false rfl)).trans (congrArg (fun g9 => fT g9 5 f52) ((fT_sw _ _ _ (Nat.ne_of_beq_eq_false rfl)).trans (congrArg (fun g9 => fT g9 6 f62) ((fT_sw _ _ _ (Nat.ne_of_beq_eq_false rfl)).trans (congrArg (fun g9 => fT g9 4 f418) (fT_sm _ _ _ _)))))))).trans (fT_sm _ _ _ _)).symm
              rw [← e9] at hP hD
              clear e9
              have hP : va_P (dC, dI) vwCl (WR a k h0 (fT (fT (fT (fT vi 116 fx) 5 (nI (vn + 1))) 6 (nI (R2 + 1))) 7 0) vj (fT (fT (fT (fT vF 0 g111) 4 f418) 6 f62) 5 (upd f52 (nI R2).toNatClampNeg (nI ((vn + 1) + R2)))) vG) H := hP
              have hD : va_D A (WR a k h0 (fT (fT (fT (fT vi 116 fx) 5 (nI (vn + 1))) 6 (nI (R2 + 1))) 7 0) vj (fT (fT (fT (fT vF 0 g111) 4 f418) 6 f62) 5 (upd f52 (nI R2).toNatClampNeg (nI ((vn + 1) + R2)))) vG) := hD
              obtain ⟨rfl, f111_0, f111_1, f111_2⟩ := hw9
              refine lv_istore hx hb dX12_solves_114 hl (by decide) rfl (fun ls (hl : lv_has ls _ ([(4, .int (nI R2)), (0, .ref h0), (1, .int rx), (2, .int al), (3, .int (nI k5))])) => ?_)
              refine lv_aload_n hx hb dX12_solves_116 rfl (lv_at hl 1 rfl) ?_
              refine lv_aload_n hx hb dX12_solves_117 rfl (lv_at hl 1 rfl) ?_
              refine lv_iload hx hb dX12_solves_118 (lv_at hl 0 rfl) ?_
              refine lv_iload_n hx hb dX12_solves_120 rfl (lv_at hl 4 rfl) ?_
              have hFc := allFree hD hS hA
              refine va_calli (va_runV (As := [.int (nI R2), .int (nI k5)]) (rest := [.ref h0]) ⟨hx, hb, hml, hown, hts⟩ (r_X12_at l dC dI a k h0 (fT (fT (fT (fT vi 116 fx) 5 (nI (vn + 1))) 6 (nI (R2 + 1))) 7 0) vj (fT (fT (fT (fT vF 0 g111) 4 f418) 6 f62) 5 (upd f52 (nI R2).toNatClampNeg (nI ((vn + 1) + R2)))) vG R2 k5 (vn + 1) (by first | with_reducible assumption | decide | omega | rfl | assumption) H.size) (cwV 2 hts gwsRX12_solves_5 rfl rfl rfl hd_yX12_at_RX12 (by decide +kernel)) (fz_pre (va_recv hK hP (ci := 12) (q0 := 0) rfl rfl) hP hK hD) rfl rfl hl.1 rfl (lv_room (Nat.le_of_ble_eq_true rfl)) dX12_solves_121 (by decide +kernel)) hS (fun q _ h => hFc q h) hFc (fun r121 u t9_ H locs ht hvm hw9 hB9 hz1 hk1 hS => ?_)
              have hP : va_P (dC, dI) vwCl (WR a k h0 (fT (fT (fT (fT vi 116 fx) 5 (nI (vn + 1))) 6 (nI (R2 + 1))) 7 0) vj (fT (fT (fT (fT vF 0 g111) 4 f418) 6 f62) 5 (upd f52 (nI R2).toNatClampNeg (nI ((vn + 1) + R2)))) vG) H := fz_P ht hB9.1
              have hD : va_D A (WR a k h0 (fT (fT (fT (fT vi 116 fx) 5 (nI (vn + 1))) 6 (nI (R2 + 1))) 7 0) vj (fT (fT (fT (fT vF 0 g111) 4 f418) 6 f62) 5 (upd f52 (nI R2).toNatClampNeg (nI ((vn + 1) + R2)))) vG) := hB9.2.weaken (fun _ q _ h => hFc q.1 h)
              obtain rfl := hw9
              refine lv_lconst (v := 1) hx hb dX12_solves_124 (by decide) ?_
              have hFc := allFree hD hS hA
              refine va_callv (va_runV (As := [.int (nI (30 + R2 * ((vn + 1) + 1) + k5)), .long 1]) (rest := []) ⟨hx, hb, hml, hown, hts⟩ (b_X12_put l dC dI a k h0 (fT (fT (fT (fT vi 116 fx) 5 (nI (vn + 1))) 6 (nI (R2 + 1))) 7 0) vj (fT (fT (fT (fT vF 0 g111) 4 f418) 6 f62) 5 (upd f52 (nI R2).toNatClampNeg (nI ((vn + 1) + R2)))) vG (30 + R2 * ((vn + 1) + 1) + k5) 1 1 m2111 f111_0 (by first | with_reducible assumption | decide | omega | rfl | assumption) (by decide) (by first | with_reducible assumption | decide | omega | rfl | assumption) H.size) (cwV 2 hts gwsRX12_solves_8 rfl rfl rfl hd_yX12_put_RX12 (by decide +kernel)) (fz_pre (va_recv hK hP (ci := 12) (q0 := 0) rfl rfl) hP hK hD) rfl rfl hl.1 rfl (lv_room (Nat.le_of_ble_eq_true rfl)) dX12_solves_125 (by decide +kernel)) hS (fun q _ h => hFc q h) hFc (fun g125 t9_ H locs ht hvm hw9 hB9 hz1 hk1 hS => ?_)
              have hP : va_P (dC, dI) vwCl (WR a k h0 (fT (fT (fT (fT vi 116 fx) 5 (nI (vn + 1))) 6 (nI (R2 + 1))) 7 0) vj (fT (fT (fT (fT (fT vF 0 g111) 4 f418) 6 f62) 5 (upd f52 (nI R2).toNatClampNeg (nI ((vn + 1) + R2)))) 0 g125) vG) H := fz_P ht hB9.1
              have hD : va_D A (WR a k h0 (fT (fT (fT (fT vi 116 fx) 5 (nI (vn + 1))) 6 (nI (R2 + 1))) 7 0) vj (fT (fT (fT (fT (fT vF 0 g111) 4 f418) 6 f62) 5 (upd f52 (nI R2).toNatClampNeg (nI ((vn + 1) + R2)))) 0 g125) vG) := hB9.2.weaken (fun _ q _ h => hFc q.1 h)
              have e9 : fT (fT (fT (fT vF 0 g125) 4 f418) 6 f62) 5 (upd f52 (nI R2).toNatClampNeg (nI ((vn + 1) + R2))) = fT (fT (fT (fT (fT vF 0 g111) 4 f418) 6 f62) 5 (upd f52 (nI R2).toNatClampNeg (nI ((vn + 1) + R2)))) 0 g125 := ((fT_sw _ _ _ (Nat.ne_of_beq_eq_false rfl)).trans (congrArg (fun g9 => fT g9 5 (upd f52 (nI R2).toNatClampNeg (nI ((vn + 1) + R2)))) ((fT_sw _ _ _ (Nat.ne_of_beq_eq_false rfl)).trans (congrArg (fun g9 => fT g9 6 f62) ((fT_sw _ _ _ (Nat.ne_of_beq_eq_false rfl)).trans (congrArg (fun g9 => fT g9 4 f418) (fT_sm _ _ _ _))))))).symm
              rw [← e9] at hP hD
              clear e9
              have hP : va_P (dC, dI) vwCl (WR a k h0 (fT (fT (fT (fT vi 116 fx) 5 (nI (vn + 1))) 6 (nI (R2 + 1))) 7 0) vj (fT (fT (fT (fT vF 0 g125) 4 f418) 6 f62) 5 (upd f52 (nI R2).toNatClampNeg (nI ((vn + 1) + R2)))) vG) H := hP
              have hD : va_D A (WR a k h0 (fT (fT (fT (fT vi 116 fx) 5 (nI (vn + 1))) 6 (nI (R2 + 1))) 7 0) vj (fT (fT (fT (fT vF 0 g125) 4 f418) 6 f62) 5 (upd f52 (nI R2).toNatClampNeg (nI ((vn + 1) + R2)))) vG) := hD
              have f125_0 := hw9
              try dsimp only at f125_0
              refine lv_aload_n hx hb dX12_solves_128 rfl (lv_at hl 1 rfl) ?_
              refine lv_aload_n hx hb dX12_solves_129 rfl (lv_at hl 1 rfl) ?_
              refine lv_iload hx hb dX12_solves_130 (lv_at hl 0 rfl) ?_
              refine lv_aload_n hx hb dX12_solves_132 rfl (lv_at hl 1 rfl) ?_
              refine va_get (D := (dC, dI)) (ci := 12) (v := .int (nI (vn + 1))) (C := RX12) (T := TX12) (N := 163) (fs := fM (vS a (fT (fT (fT (fT vi 116 fx) 5 (nI (vn + 1))) 6 (nI (R2 + 1))) 7 0) vj)) hx hb hts iwsRX12_solves_in12 hown hK hP 0 rfl rfl 5 (by decide) (hts (.fieldLink RX12 396 "OptimaWorksModel" "columns" "I") (by decide +kernel)) (fun _ h9 => h9) rfl dX12_solves_133 ?_
              have hFc := allFree hD hS hA
              refine va_calli (va_runV (As := [.int (nI R2), .int (nI (vn + 1))]) (rest := [.ref h0]) ⟨hx, hb, hml, hown, hts⟩ (r_X12_at l dC dI a k h0 (fT (fT (fT (fT vi 116 fx) 5 (nI (vn + 1))) 6 (nI (R2 + 1))) 7 0) vj (fT (fT (fT (fT vF 0 g125) 4 f418) 6 f62) 5 (upd f52 (nI R2).toNatClampNeg (nI ((vn + 1) + R2)))) vG R2 (vn + 1) (vn + 1) (by first | with_reducible assumption | decide | omega | rfl | assumption) H.size) (cwV 2 hts gwsRX12_solves_5 rfl rfl rfl hd_yX12_at_RX12 (by decide +kernel)) (fz_pre (va_recv hK hP (ci := 12) (q0 := 0) rfl rfl) hP hK hD) rfl rfl hl.1 rfl (lv_room (Nat.le_of_ble_eq_true rfl)) dX12_solves_136 (by decide +kernel)) hS (fun q _ h => hFc q h) hFc (fun r136 u t9_ H locs ht hvm hw9 hB9 hz1 hk1 hS => ?_)
              have hP : va_P (dC, dI) vwCl (WR a k h0 (fT (fT (fT (fT vi 116 fx) 5 (nI (vn + 1))) 6 (nI (R2 + 1))) 7 0) vj (fT (fT (fT (fT vF 0 g125) 4 f418) 6 f62) 5 (upd f52 (nI R2).toNatClampNeg (nI ((vn + 1) + R2)))) vG) H := fz_P ht hB9.1
              have hD : va_D A (WR a k h0 (fT (fT (fT (fT vi 116 fx) 5 (nI (vn + 1))) 6 (nI (R2 + 1))) 7 0) vj (fT (fT (fT (fT vF 0 g125) 4 f418) 6 f62) 5 (upd f52 (nI R2).toNatClampNeg (nI ((vn + 1) + R2)))) vG) := hB9.2.weaken (fun _ q _ h => hFc q.1 h)
              obtain rfl := hw9
              refine lv_aload_n hx hb dX12_solves_139 rfl (lv_at hl 1 rfl) ?_
              refine va_get (D := (dC, dI)) (ci := 12) (v := .ref (a 57)) (C := RX12) (T := TX12) (N := 163) (fs := fM (vS a (fT (fT (fT (fT vi 116 fx) 5 (nI (vn + 1))) 6 (nI (R2 + 1))) 7 0) vj)) hx hb hts iwsRX12_solves_in12 hown hK hP 0 rfl rfl 97 (by decide) (hts (.fieldLink RX12 194 "OptimaWorksModel" "high" "[I") (by decide +kernel)) (fun _ h9 => h9) rfl dX12_solves_140 ?_
              refine lv_iload_n hx hb dX12_solves_143 rfl (lv_at hl 4 rfl) ?_
              refine va_iald (cA := k 57) (n := 9) (f := (vF 57)) hx hb hK hP 58 57 (WR_get 57 (by decide)) (TR_get 57 (by decide)) (vp_in_nI (show k5 < 9 by omega) (by omega)) dX12_solves_144 ?_
              refine lv_topi (fun y14 hy14 => ?_)
              obtain rfl : ((vF 57) k5) = y14 := (hy14.trans (by rw [nI_clamp (by omega)])).symm
              refine lv_aload_n hx hb dX12_solves_145 rfl (lv_at hl 1 rfl) ?_
              refine va_get (D := (dC, dI)) (ci := 12) (v := .ref (a 56)) (C := RX12) (T := TX12) (N := 163) (fs := fM (vS a (fT (fT (fT (fT vi 116 fx) 5 (nI (vn + 1))) 6 (nI (R2 + 1))) 7 0) vj)) hx hb hts iwsRX12_solves_in12 hown hK hP 0 rfl rfl 96 (by decide) (hts (.fieldLink RX12 191 "OptimaWorksModel" "low" "[I") (by decide +kernel)) (fun _ h9 => h9) rfl dX12_solves_146 ?_
              refine lv_iload_n hx hb dX12_solves_149 rfl (lv_at hl 4 rfl) ?_
              refine va_iald (cA := k 56) (n := 9) (f := (vF 56)) hx hb hK hP 57 56 (WR_get 56 (by decide)) (TR_get 56 (by decide)) (vp_in_nI (show k5 < 9 by omega) (by omega)) dX12_solves_150 ?_
              refine lv_topi (fun y15 hy15 => ?_)
              obtain rfl : ((vF 56) k5) = y15 := (hy15.trans (by rw [nI_clamp (by omega)])).symm
              refine lv_isub hx hb dX12_solves_151 ?_
              refine lv_i2l hx hb dX12_solves_152 rfl ?_
              have hFc := allFree hD hS hA
              refine va_callv (va_runV (As := [.int (nI (30 + R2 * ((vn + 1) + 1) + (vn + 1))), .long ((((vF 57) k5) - ((vF 56) k5))).toInt64]) (rest := []) ⟨hx, hb, hml, hown, hts⟩ (b_X12_put l dC dI a k h0 (fT (fT (fT (fT vi 116 fx) 5 (nI (vn + 1))) 6 (nI (R2 + 1))) 7 0) vj (fT (fT (fT (fT vF 0 g125) 4 f418) 6 f62) 5 (upd f52 (nI R2).toNatClampNeg (nI ((vn + 1) + R2)))) vG (30 + R2 * ((vn + 1) + 1) + (vn + 1)) (((((vF 57) k5) - ((vF 56) k5))).toInt64) ((vF 57 k5).toInt - (vF 56 k5).toInt) (fT m2111 (30 + R2 * ((vn + 1) + 1) + k5) 1) f125_0 (by first | with_reducible assumption | decide | omega | rfl | assumption) (by rw [i64T, es9]) (by omega) H.size) (cwV 2 hts gwsRX12_solves_8 rfl rfl rfl hd_yX12_put_RX12 (by decide +kernel)) (fz_pre (va_recv hK hP (ci := 12) (q0 := 0) rfl rfl) hP hK hD) rfl rfl hl.1 rfl (lv_room (Nat.le_of_ble_eq_true rfl)) dX12_solves_153 (by decide +kernel)) hS (fun q _ h => hFc q h) hFc (fun g153 t9_ H locs ht hvm hw9 hB9 hz1 hk1 hS => ?_)
              have hP : va_P (dC, dI) vwCl (WR a k h0 (fT (fT (fT (fT vi 116 fx) 5 (nI (vn + 1))) 6 (nI (R2 + 1))) 7 0) vj (fT (fT (fT (fT (fT vF 0 g125) 4 f418) 6 f62) 5 (upd f52 (nI R2).toNatClampNeg (nI ((vn + 1) + R2)))) 0 g153) vG) H := fz_P ht hB9.1
              have hD : va_D A (WR a k h0 (fT (fT (fT (fT vi 116 fx) 5 (nI (vn + 1))) 6 (nI (R2 + 1))) 7 0) vj (fT (fT (fT (fT (fT vF 0 g125) 4 f418) 6 f62) 5 (upd f52 (nI R2).toNatClampNeg (nI ((vn + 1) + R2)))) 0 g153) vG) := hB9.2.weaken (fun _ q _ h => hFc q.1 h)
              have e9 : fT (fT (fT (fT vF 0 g153) 4 f418) 6 f62) 5 (upd f52 (nI R2).toNatClampNeg (nI ((vn + 1) + R2))) = fT (fT (fT (fT (fT vF 0 g125) 4 f418) 6 f62) 5 (upd f52 (nI R2).toNatClampNeg (nI ((vn + 1) + R2)))) 0 g153 := ((fT_sw _ _ _ (Nat.ne_of_beq_eq_false rfl)).trans (congrArg (fun g9 => fT g9 5 (upd f52 (nI R2).toNatClampNeg (nI ((vn + 1) + R2)))) ((fT_sw _ _ _ (Nat.ne_of_beq_eq_false rfl)).trans (congrArg (fun g9 => fT g9 6 f62) ((fT_sw _ _ _ (Nat.ne_of_beq_eq_false rfl)).trans (congrArg (fun g9 => fT g9 4 f418) (fT_sm _ _ _ _))))))).symm
              rw [← e9] at hP hD
              clear e9
              have hP : va_P (dC, dI) vwCl (WR a k h0 (fT (fT (fT (fT vi 116 fx) 5 (nI (vn + 1))) 6 (nI (R2 + 1))) 7 0) vj (fT (fT (fT (fT vF 0 g153) 4 f418) 6 f62) 5 (upd f52 (nI R2).toNatClampNeg (nI ((vn + 1) + R2)))) vG) H := hP
              have hD : va_D A (WR a k h0 (fT (fT (fT (fT vi 116 fx) 5 (nI (vn + 1))) 6 (nI (R2 + 1))) 7 0) vj (fT (fT (fT (fT vF 0 g153) 4 f418) 6 f62) 5 (upd f52 (nI R2).toNatClampNeg (nI ((vn + 1) + R2)))) vG) := hD
              have f153_0 := hw9
              try dsimp only at f153_0
              have hBl9 : BldL (vn + 1) (R2 + 1) (fT (fT m2111 (30 + R2 * ((vn + 1) + 1) + k5) 1) (30 + R2 * ((vn + 1) + 1) + (vn + 1)) ((vF 57 k5).toInt - (vF 56 k5).toInt)) (upd f52 (nI R2).toNatClampNeg (nI (vn + 1 + R2))) := hBl2.more (fun i2 hi2 => by rw [upd_at (by omega), if_neg (by omega)]) (fun p hp => by (rw [fT_ne _ _ (by omega), fT_ne _ _ (by omega), f111_2 _ (by omega)])) (by omega) (by rw [upd_at (by omega), if_pos rfl]) (fun j hj => by rw [fT_ne _ _ (by omega)]; by_cases e9 : j = k5; (rw [e9, fT_eq]; decide); (rw [fT_ne _ _ (by omega), f111_1 j (by omega), if_neg (by omega)]; decide)) (by rw [fT_ne _ _ (by omega), fT_ne _ _ (by omega), f111_1 (vn + 1 - 1) (by omega), if_pos rfl]) (by rw [fT_eq]; omega)
              refine lv_iinc (v := (nI (k5 + 1))) hx hb dX12_solves_156 hl (k := 4) rfl (nI_add k5 1) (by decide) rfl (fun ls (hl : lv_has ls _ ([(3, .int (nI (k5 + 1))), (4, .int (nI R2)), (0, .ref h0), (1, .int rx), (2, .int al)])) => ?_)
              refine lv_goto (tgt := 75) hx hb dX12_solves_159 (by decide) ?_
              have hl : lv_has _ _ ([(0, .ref h0), (1, .int rx), (2, .int al), (3, .int (nI (k5 + 1)))]) := lv_sub hl [2, 3, 4, 0] rfl
              exact ih75_1 (k5 + 1) (R2 + 1) g153 (upd f52 (nI R2).toNatClampNeg (nI ((vn + 1) + R2))) f62 (fT (fT m2111 (30 + R2 * ((vn + 1) + 1) + k5) 1) (30 + R2 * ((vn + 1) + 1) + (vn + 1)) ((vF 57 k5).toInt - (vF 56 k5).toInt)) _ _ _ (f153_0) (by omega) (by omega) (hBl9) (by (rw [fT_ne _ _ (by omega), fT_ne _ _ (by omega), f111_2 _ (by omega)]); exact h202) (fun q hq => by (rw [fT_ne _ _ (by omega), fT_ne _ _ (by omega), f111_2 _ (by omega)]); exact ho2 q hq) (by omega) hP hD hS hl
      · have t_28 : ¬ ((r5 : Nat) : Int) ≥ ((mr : Nat) : Int) := toI_nge c_28 (nI_toInt (by omega)) (nI_toInt (by omega))
        refine lv_iload_n hx hb dX12_solves_31 rfl (lv_at hl 1 rfl) ?_
        refine lv_if_eq (tgt := 45) hx hb dX12_solves_32 (by decide) (fun c_32 => ?_) (fun c_32 => ?_)
        · have t_32 : (rx).toInt = 0 := toI_eq c_32 rfl (by decide)
          refine lv_aload_n hx hb dX12_solves_45 rfl (lv_at hl 0 rfl) ?_
          refine lv_iconst (v := 3) hx hb dX12_solves_46 (by decide) ?_
          refine lv_iload_n hx hb dX12_solves_47 rfl (lv_at hl 3 rfl) ?_
          refine lv_imul hx hb dX12_solves_48 ?_
          refine lv_topi (fun y16 hy16 => ?_)
          obtain rfl : (nI (3 * r5)) = y16 := (hy16.trans (pk_mul 3 r5)).symm
          refine lv_iload_n hx hb dX12_solves_49 rfl (lv_at hl 1 rfl) ?_
          refine lv_if_eq (tgt := 57) hx hb dX12_solves_50 (by decide) (fun c_50 => ?_) (fun c_50 => ?_)
          · have t_50 : (rx).toInt = 0 := toI_eq c_50 rfl (by decide)
            obtain ⟨wk, dk, ek1, ek2, ek3, ek4, ek5⟩ := hch c_50 r5 (by omega)
            refine lv_aload_n hx hb dX12_solves_57 rfl (lv_at hl 0 rfl) ?_
            refine va_get (D := (dC, dI)) (ci := 12) (v := .ref (a 69)) (C := RX12) (T := TX12) (N := 163) (fs := fM (vS a (fT (fT (fT (fT vi 116 fx) 5 (nI (vn + 1))) 6 (nI R)) 7 0) vj)) hx hb hts iwsRX12_solves_in12 hown hK hP 0 rfl rfl 114 (by decide) (hts (.fieldLink RX12 230 "OptimaWorksModel" "chosen" "[I") (by decide +kernel)) (fun _ h9 => h9) rfl dX12_solves_58 ?_
            refine lv_iload_n hx hb dX12_solves_61 rfl (lv_at hl 3 rfl) ?_
            refine va_iald (cA := k 69) (n := 13) (f := (vF 69)) hx hb hK hP 70 69 (WR_get 69 (by decide)) (TR_get 69 (by decide)) (vp_in_nI (show r5 < 13 by omega) (by omega)) dX12_solves_62 ?_
            refine lv_topi (fun y17 hy17 => ?_)
            obtain rfl : ((vF 69) r5) = y17 := (hy17.trans (by rw [nI_clamp (by omega)])).symm
            refine lv_topi (fun y18 hy18 => ?_)
            obtain rfl : (nI dk) = y18 := (hy18.trans (ek4)).symm
            refine lv_iadd hx hb dX12_solves_63 ?_
            refine lv_topi (fun y19 hy19 => ?_)
            obtain rfl : (nI ((3 * r5) + dk)) = y19 := (hy19.trans (nI_add (3 * r5) dk)).symm
            have hFc := allFree hD hS hA
            refine va_callv (va_runV (As := [.int (nI ((3 * r5) + dk))]) (rest := []) ⟨hx, hb, hml, hown, hts⟩ (r_X12_waysOf l dC dI a k h0 (fT (fT (fT (fT vi 116 fx) 5 (nI (vn + 1))) 6 (nI R)) 7 0) vj (fT (fT (fT (fT vF 0 g1) 4 f418) 6 f618) 5 f51) vG ((3 * r5) + dk) (vn + 1) R gq m1 hB1 (by first | with_reducible assumption | decide | omega | rfl | assumption) (by first | with_reducible assumption | decide | omega | rfl | assumption) (by first | with_reducible assumption | decide | omega | rfl | assumption) (hvn) (by first | with_reducible assumption | decide | omega | rfl | assumption) (by first | with_reducible assumption | decide | omega | rfl | assumption) (hBl) (by first | with_reducible assumption | decide | omega | rfl | assumption) (by omega) H.size) (cwV 1 hts gwsRX12_solves_14 rfl rfl rfl hd_yX12_waysOf_RX12 (by decide +kernel)) (fz_pre (va_recv hK hP (ci := 12) (q0 := 0) rfl rfl) hP hK hD) rfl rfl hl.1 rfl (lv_room (Nat.le_of_ble_eq_true rfl)) dX12_solves_64 (by decide +kernel)) hS (fun q _ h => hFc q h) hFc (fun u t9_ H locs ht hvm hw9 hB9 hz1 hk1 hS => ?_)
            revert u
            refine fz_p4 ?_
            intro g64 f564 m264 dr64 hw9 hB9
            try dsimp only at hw9 hB9
            have hP : va_P (dC, dI) vwCl (WR a k h0 (fT (fT (fT (fT (fT vi 116 fx) 5 (nI (vn + 1))) 6 (nI R)) 7 0) 6 (nI (R + dr64))) vj (fT (fT (fT (fT (fT (fT vF 0 g1) 4 f418) 6 f618) 5 f51) 0 g64) 5 f564) vG) H := fz_P ht hB9.1
            have hD : va_D A (WR a k h0 (fT (fT (fT (fT (fT vi 116 fx) 5 (nI (vn + 1))) 6 (nI R)) 7 0) 6 (nI (R + dr64))) vj (fT (fT (fT (fT (fT (fT vF 0 g1) 4 f418) 6 f618) 5 f51) 0 g64) 5 f564) vG) := hB9.2.weaken (fun _ q _ h => hFc q.1 h)
            have e9 : fT (fT (fT (fT vi 116 fx) 5 (nI (vn + 1))) 6 (nI (R + dr64))) 7 0 = fT (fT (fT (fT (fT vi 116 fx) 5 (nI (vn + 1))) 6 (nI R)) 7 0) 6 (nI (R + dr64)) := ((fT_sw _ _ _ (Nat.ne_of_beq_eq_false rfl)).trans (congrArg (fun g9 => fT g9 7 0) (fT_sm _ _ _ _))).symm
            rw [← e9] at hP hD
            clear e9
            have e9 : fT (fT (fT (fT vF 0 g64) 4 f418) 6 f618) 5 f564 = fT (fT (fT (fT (fT (fT vF 0 g1) 4 f418) 6 f618) 5 f51) 0 g64) 5 f564 := ((congrArg (fun g9 => fT g9 5 f564) ((fT_sw _ _ _ (Nat.ne_of_beq_eq_false rfl)).trans (congrArg (fun g9 => fT g9 5 f51) ((fT_sw _ _ _ (Nat.ne_of_beq_eq_false rfl)).trans (congrArg (fun g9 => fT g9 6 f618) ((fT_sw _ _ _ (Nat.ne_of_beq_eq_false rfl)).trans (congrArg (fun g9 => fT g9 4 f418) (fT_sm _ _ _ _)))))))).trans (fT_sm _ _ _ _)).symm
            rw [← e9] at hP hD
            clear e9
            have hP : va_P (dC, dI) vwCl (WR a k h0 (fT (fT (fT (fT vi 116 fx) 5 (nI (vn + 1))) 6 (nI (R + dr64))) 7 0) vj (fT (fT (fT (fT vF 0 g64) 4 f418) 6 f618) 5 f564) vG) H := hP
            have hD : va_D A (WR a k h0 (fT (fT (fT (fT vi 116 fx) 5 (nI (vn + 1))) 6 (nI (R + dr64))) 7 0) vj (fT (fT (fT (fT vF 0 g64) 4 f418) 6 f618) 5 f564) vG) := hD
            revert hw9
            refine fz_a4 ?_
            intro f64_0 f64_1 f64_2 f64_3
            refine lv_iinc (v := (nI (r5 + 1))) hx hb dX12_solves_67 hl (k := 3) rfl (nI_add r5 1) (by decide) rfl (fun ls (hl : lv_has ls _ ([(3, .int (nI (r5 + 1))), (0, .ref h0), (1, .int rx), (2, .int al)])) => ?_)
            refine lv_goto (tgt := 23) hx hb dX12_solves_70 (by decide) ?_
            have hl : lv_has _ _ ([(0, .ref h0), (1, .int rx), (2, .int al), (3, .int (nI (r5 + 1)))]) := lv_sub hl [1, 2, 3, 0] rfl
            exact ih23 (r5 + 1) (R + dr64) g64 f564 m264 _ _ _ (f64_0) (by omega) (by (have h9 := f64_2); omega) (f64_1) (by (rw [f64_3 _ (by omega)]); exact h20) (fun q hq => by (rw [f64_3 _ (by omega)]); exact ho q hq) (by omega) hP hD hS hl
          · have t_50 : ¬ (rx).toInt = 0 := toI_neq c_50 rfl (by decide)
            refine lv_iconst (v := 0) hx hb dX12_solves_53 (by decide) ?_
            refine lv_goto (tgt := 63) hx hb dX12_solves_54 (by decide) ?_
            refine lv_iadd hx hb dX12_solves_63 ?_
            refine lv_topi (fun y20 hy20 => ?_)
            obtain rfl : (nI ((3 * r5) + 0)) = y20 := (hy20.trans (nI_add (3 * r5) 0)).symm
            have hFc := allFree hD hS hA
            refine va_callv (va_runV (As := [.int (nI ((3 * r5) + 0))]) (rest := []) ⟨hx, hb, hml, hown, hts⟩ (r_X12_waysOf l dC dI a k h0 (fT (fT (fT (fT vi 116 fx) 5 (nI (vn + 1))) 6 (nI R)) 7 0) vj (fT (fT (fT (fT vF 0 g1) 4 f418) 6 f618) 5 f51) vG ((3 * r5) + 0) (vn + 1) R gq m1 hB1 (by first | with_reducible assumption | decide | omega | rfl | assumption) (by first | with_reducible assumption | decide | omega | rfl | assumption) (by first | with_reducible assumption | decide | omega | rfl | assumption) (hvn) (by first | with_reducible assumption | decide | omega | rfl | assumption) (by first | with_reducible assumption | decide | omega | rfl | assumption) (hBl) (by first | with_reducible assumption | decide | omega | rfl | assumption) (by omega) H.size) (cwV 1 hts gwsRX12_solves_14 rfl rfl rfl hd_yX12_waysOf_RX12 (by decide +kernel)) (fz_pre (va_recv hK hP (ci := 12) (q0 := 0) rfl rfl) hP hK hD) rfl rfl hl.1 rfl (lv_room (Nat.le_of_ble_eq_true rfl)) dX12_solves_64 (by decide +kernel)) hS (fun q _ h => hFc q h) hFc (fun u t9_ H locs ht hvm hw9 hB9 hz1 hk1 hS => ?_)
            revert u
            refine fz_p4 ?_
            intro g64_1 f564_1 m264_1 dr64_1 hw9 hB9
            try dsimp only at hw9 hB9
            have hP : va_P (dC, dI) vwCl (WR a k h0 (fT (fT (fT (fT (fT vi 116 fx) 5 (nI (vn + 1))) 6 (nI R)) 7 0) 6 (nI (R + dr64_1))) vj (fT (fT (fT (fT (fT (fT vF 0 g1) 4 f418) 6 f618) 5 f51) 0 g64_1) 5 f564_1) vG) H := fz_P ht hB9.1
            have hD : va_D A (WR a k h0 (fT (fT (fT (fT (fT vi 116 fx) 5 (nI (vn + 1))) 6 (nI R)) 7 0) 6 (nI (R + dr64_1))) vj (fT (fT (fT (fT (fT (fT vF 0 g1) 4 f418) 6 f618) 5 f51) 0 g64_1) 5 f564_1) vG) := hB9.2.weaken (fun _ q _ h => hFc q.1 h)
            have e9 : fT (fT (fT (fT vi 116 fx) 5 (nI (vn + 1))) 6 (nI (R + dr64_1))) 7 0 = fT (fT (fT (fT (fT vi 116 fx) 5 (nI (vn + 1))) 6 (nI R)) 7 0) 6 (nI (R + dr64_1)) := ((fT_sw _ _ _ (Nat.ne_of_beq_eq_false rfl)).trans (congrArg (fun g9 => fT g9 7 0) (fT_sm _ _ _ _))).symm
            rw [← e9] at hP hD
            clear e9
            have e9 : fT (fT (fT (fT vF 0 g64_1) 4 f418) 6 f618) 5 f564_1 = fT (fT (fT (fT (fT (fT vF 0 g1) 4 f418) 6 f618) 5 f51) 0 g64_1) 5 f564_1 := ((congrArg (fun g9 => fT g9 5 f564_1) ((fT_sw _ _ _ (Nat.ne_of_beq_eq_false rfl)).trans (congrArg (fun g9 => fT g9 5 f51) ((fT_sw _ _ _ (Nat.ne_of_beq_eq_false rfl)).trans (congrArg (fun g9 => fT g9 6 f618) ((fT_sw _ _ _ (Nat.ne_of_beq_eq_false rfl)).trans (congrArg (fun g9 => fT g9 4 f418) (fT_sm _ _ _ _)))))))).trans (fT_sm _ _ _ _)).symm
            rw [← e9] at hP hD
            clear e9
            have hP : va_P (dC, dI) vwCl (WR a k h0 (fT (fT (fT (fT vi 116 fx) 5 (nI (vn + 1))) 6 (nI (R + dr64_1))) 7 0) vj (fT (fT (fT (fT vF 0 g64_1) 4 f418) 6 f618) 5 f564_1) vG) H := hP
            have hD : va_D A (WR a k h0 (fT (fT (fT (fT vi 116 fx) 5 (nI (vn + 1))) 6 (nI (R + dr64_1))) 7 0) vj (fT (fT (fT (fT vF 0 g64_1) 4 f418) 6 f618) 5 f564_1) vG) := hD
            revert hw9
            refine fz_a4 ?_
            intro f64_1_0 f64_1_1 f64_1_2 f64_1_3
            refine lv_iinc (v := (nI (r5 + 1))) hx hb dX12_solves_67 hl (k := 3) rfl (nI_add r5 1) (by decide) rfl (fun ls (hl : lv_has ls _ ([(3, .int (nI (r5 + 1))), (0, .ref h0), (1, .int rx), (2, .int al)])) => ?_)
            refine lv_goto (tgt := 23) hx hb dX12_solves_70 (by decide) ?_
            have hl : lv_has _ _ ([(0, .ref h0), (1, .int rx), (2, .int al), (3, .int (nI (r5 + 1)))]) := lv_sub hl [1, 2, 3, 0] rfl
            exact ih23 (r5 + 1) (R + dr64_1) g64_1 f564_1 m264_1 _ _ _ (f64_1_0) (by omega) (by (have h9 := f64_1_2); omega) (f64_1_1) (by (rw [f64_1_3 _ (by omega)]); exact h20) (fun q hq => by (rw [f64_1_3 _ (by omega)]); exact ho q hq) (by omega) hP hD hS hl
        · have t_32 : ¬ (rx).toInt = 0 := toI_neq c_32 rfl (by decide)
          refine lv_aload_n hx hb dX12_solves_35 rfl (lv_at hl 0 rfl) ?_
          refine va_get (D := (dC, dI)) (ci := 12) (v := .ref (a 59)) (C := RX12) (T := TX12) (N := 163) (fs := fM (vS a (fT (fT (fT (fT vi 116 fx) 5 (nI (vn + 1))) 6 (nI R)) 7 0) vj)) hx hb hts iwsRX12_solves_in12 hown hK hP 0 rfl rfl 99 (by decide) (hts (.fieldLink RX12 200 "OptimaWorksModel" "wayMany" "[I") (by decide +kernel)) (fun _ h9 => h9) rfl dX12_solves_36 ?_
          refine lv_iload_n hx hb dX12_solves_39 rfl (lv_at hl 3 rfl) ?_
          refine va_iald (cA := k 59) (n := 13) (f := (vF 59)) hx hb hK hP 60 59 (WR_get 59 (by decide)) (TR_get 59 (by decide)) (vp_in_nI (show r5 < 13 by omega) (by omega)) dX12_solves_40 ?_
          refine lv_topi (fun y21 hy21 => ?_)
          obtain rfl : ((vF 59) r5) = y21 := (hy21.trans (by rw [nI_clamp (by omega)])).symm
          refine lv_iconst (v := 1) hx hb dX12_solves_41 (by decide) ?_
          refine lv_icmp_ne (tgt := 67) hx hb dX12_solves_42 (by decide) (fun c_42 => ?_) (fun c_42 => ?_)
          · have t_42 : (((vF 59) r5)).toInt ≠ 1 := toI_ne c_42 rfl (by decide)
            refine lv_iinc (v := (nI (r5 + 1))) hx hb dX12_solves_67 hl (k := 3) rfl (nI_add r5 1) (by decide) rfl (fun ls (hl : lv_has ls _ ([(3, .int (nI (r5 + 1))), (0, .ref h0), (1, .int rx), (2, .int al)])) => ?_)
            refine lv_goto (tgt := 23) hx hb dX12_solves_70 (by decide) ?_
            have hl : lv_has _ _ ([(0, .ref h0), (1, .int rx), (2, .int al), (3, .int (nI (r5 + 1)))]) := lv_sub hl [1, 2, 3, 0] rfl
            exact ih23 (r5 + 1) R g1 f51 m1 _ _ _ (hB1) (by omega) (by omega) (hBl) (h20) (ho) (by omega) hP hD hS hl
          · have t_42 : (((vF 59) r5)).toInt = 1 := toI_nne c_42 rfl (by decide)
            refine lv_aload_n hx hb dX12_solves_45 rfl (lv_at hl 0 rfl) ?_
            refine lv_iconst (v := 3) hx hb dX12_solves_46 (by decide) ?_
            refine lv_iload_n hx hb dX12_solves_47 rfl (lv_at hl 3 rfl) ?_
            refine lv_imul hx hb dX12_solves_48 ?_
            refine lv_topi (fun y22 hy22 => ?_)
            obtain rfl : (nI (3 * r5)) = y22 := (hy22.trans (pk_mul 3 r5)).symm
            refine lv_iload_n hx hb dX12_solves_49 rfl (lv_at hl 1 rfl) ?_
            refine lv_if_eq (tgt := 57) hx hb dX12_solves_50 (by decide) (fun c_50 => ?_) (fun c_50 => ?_)
            · have t_50 : (rx).toInt = 0 := toI_eq c_50 rfl (by decide)
              obtain ⟨wk, dk, ek1, ek2, ek3, ek4, ek5⟩ := hch c_50 r5 (by omega)
              refine lv_aload_n hx hb dX12_solves_57 rfl (lv_at hl 0 rfl) ?_
              refine va_get (D := (dC, dI)) (ci := 12) (v := .ref (a 69)) (C := RX12) (T := TX12) (N := 163) (fs := fM (vS a (fT (fT (fT (fT vi 116 fx) 5 (nI (vn + 1))) 6 (nI R)) 7 0) vj)) hx hb hts iwsRX12_solves_in12 hown hK hP 0 rfl rfl 114 (by decide) (hts (.fieldLink RX12 230 "OptimaWorksModel" "chosen" "[I") (by decide +kernel)) (fun _ h9 => h9) rfl dX12_solves_58 ?_
              refine lv_iload_n hx hb dX12_solves_61 rfl (lv_at hl 3 rfl) ?_
              refine va_iald (cA := k 69) (n := 13) (f := (vF 69)) hx hb hK hP 70 69 (WR_get 69 (by decide)) (TR_get 69 (by decide)) (vp_in_nI (show r5 < 13 by omega) (by omega)) dX12_solves_62 ?_
              refine lv_topi (fun y23 hy23 => ?_)
              obtain rfl : ((vF 69) r5) = y23 := (hy23.trans (by rw [nI_clamp (by omega)])).symm
              refine lv_topi (fun y24 hy24 => ?_)
              obtain rfl : (nI dk) = y24 := (hy24.trans (ek4)).symm
              refine lv_iadd hx hb dX12_solves_63 ?_
              refine lv_topi (fun y25 hy25 => ?_)
              obtain rfl : (nI ((3 * r5) + dk)) = y25 := (hy25.trans (nI_add (3 * r5) dk)).symm
              have hFc := allFree hD hS hA
              refine va_callv (va_runV (As := [.int (nI ((3 * r5) + dk))]) (rest := []) ⟨hx, hb, hml, hown, hts⟩ (r_X12_waysOf l dC dI a k h0 (fT (fT (fT (fT vi 116 fx) 5 (nI (vn + 1))) 6 (nI R)) 7 0) vj (fT (fT (fT (fT vF 0 g1) 4 f418) 6 f618) 5 f51) vG ((3 * r5) + dk) (vn + 1) R gq m1 hB1 (by first | with_reducible assumption | decide | omega | rfl | assumption) (by first | with_reducible assumption | decide | omega | rfl | assumption) (by first | with_reducible assumption | decide | omega | rfl | assumption) (hvn) (by first | with_reducible assumption | decide | omega | rfl | assumption) (by first | with_reducible assumption | decide | omega | rfl | assumption) (hBl) (by first | with_reducible assumption | decide | omega | rfl | assumption) (by omega) H.size) (cwV 1 hts gwsRX12_solves_14 rfl rfl rfl hd_yX12_waysOf_RX12 (by decide +kernel)) (fz_pre (va_recv hK hP (ci := 12) (q0 := 0) rfl rfl) hP hK hD) rfl rfl hl.1 rfl (lv_room (Nat.le_of_ble_eq_true rfl)) dX12_solves_64 (by decide +kernel)) hS (fun q _ h => hFc q h) hFc (fun u t9_ H locs ht hvm hw9 hB9 hz1 hk1 hS => ?_)
              revert u
              refine fz_p4 ?_
              intro g64_2 f564_2 m264_2 dr64_2 hw9 hB9
              try dsimp only at hw9 hB9
              have hP : va_P (dC, dI) vwCl (WR a k h0 (fT (fT (fT (fT (fT vi 116 fx) 5 (nI (vn + 1))) 6 (nI R)) 7 0) 6 (nI (R + dr64_2))) vj (fT (fT (fT (fT (fT (fT vF 0 g1) 4 f418) 6 f618) 5 f51) 0 g64_2) 5 f564_2) vG) H := fz_P ht hB9.1
              have hD : va_D A (WR a k h0 (fT (fT (fT (fT (fT vi 116 fx) 5 (nI (vn + 1))) 6 (nI R)) 7 0) 6 (nI (R + dr64_2))) vj (fT (fT (fT (fT (fT (fT vF 0 g1) 4 f418) 6 f618) 5 f51) 0 g64_2) 5 f564_2) vG) := hB9.2.weaken (fun _ q _ h => hFc q.1 h)
              have e9 : fT (fT (fT (fT vi 116 fx) 5 (nI (vn + 1))) 6 (nI (R + dr64_2))) 7 0 = fT (fT (fT (fT (fT vi 116 fx) 5 (nI (vn + 1))) 6 (nI R)) 7 0) 6 (nI (R + dr64_2)) := ((fT_sw _ _ _ (Nat.ne_of_beq_eq_false rfl)).trans (congrArg (fun g9 => fT g9 7 0) (fT_sm _ _ _ _))).symm
              rw [← e9] at hP hD
              clear e9
              have e9 : fT (fT (fT (fT vF 0 g64_2) 4 f418) 6 f618) 5 f564_2 = fT (fT (fT (fT (fT (fT vF 0 g1) 4 f418) 6 f618) 5 f51) 0 g64_2) 5 f564_2 := ((congrArg (fun g9 => fT g9 5 f564_2) ((fT_sw _ _ _ (Nat.ne_of_beq_eq_false rfl)).trans (congrArg (fun g9 => fT g9 5 f51) ((fT_sw _ _ _ (Nat.ne_of_beq_eq_false rfl)).trans (congrArg (fun g9 => fT g9 6 f618) ((fT_sw _ _ _ (Nat.ne_of_beq_eq_false rfl)).trans (congrArg (fun g9 => fT g9 4 f418) (fT_sm _ _ _ _)))))))).trans (fT_sm _ _ _ _)).symm
              rw [← e9] at hP hD
              clear e9
              have hP : va_P (dC, dI) vwCl (WR a k h0 (fT (fT (fT (fT vi 116 fx) 5 (nI (vn + 1))) 6 (nI (R + dr64_2))) 7 0) vj (fT (fT (fT (fT vF 0 g64_2) 4 f418) 6 f618) 5 f564_2) vG) H := hP
              have hD : va_D A (WR a k h0 (fT (fT (fT (fT vi 116 fx) 5 (nI (vn + 1))) 6 (nI (R + dr64_2))) 7 0) vj (fT (fT (fT (fT vF 0 g64_2) 4 f418) 6 f618) 5 f564_2) vG) := hD
              revert hw9
              refine fz_a4 ?_
              intro f64_2_0 f64_2_1 f64_2_2 f64_2_3
              refine lv_iinc (v := (nI (r5 + 1))) hx hb dX12_solves_67 hl (k := 3) rfl (nI_add r5 1) (by decide) rfl (fun ls (hl : lv_has ls _ ([(3, .int (nI (r5 + 1))), (0, .ref h0), (1, .int rx), (2, .int al)])) => ?_)
              refine lv_goto (tgt := 23) hx hb dX12_solves_70 (by decide) ?_
              have hl : lv_has _ _ ([(0, .ref h0), (1, .int rx), (2, .int al), (3, .int (nI (r5 + 1)))]) := lv_sub hl [1, 2, 3, 0] rfl
              exact ih23 (r5 + 1) (R + dr64_2) g64_2 f564_2 m264_2 _ _ _ (f64_2_0) (by omega) (by (have h9 := f64_2_2); omega) (f64_2_1) (by (rw [f64_2_3 _ (by omega)]); exact h20) (fun q hq => by (rw [f64_2_3 _ (by omega)]); exact ho q hq) (by omega) hP hD hS hl
            · have t_50 : ¬ (rx).toInt = 0 := toI_neq c_50 rfl (by decide)
              refine lv_iconst (v := 0) hx hb dX12_solves_53 (by decide) ?_
              refine lv_goto (tgt := 63) hx hb dX12_solves_54 (by decide) ?_
              refine lv_iadd hx hb dX12_solves_63 ?_
              refine lv_topi (fun y26 hy26 => ?_)
              obtain rfl : (nI ((3 * r5) + 0)) = y26 := (hy26.trans (nI_add (3 * r5) 0)).symm
              have hFc := allFree hD hS hA
              refine va_callv (va_runV (As := [.int (nI ((3 * r5) + 0))]) (rest := []) ⟨hx, hb, hml, hown, hts⟩ (r_X12_waysOf l dC dI a k h0 (fT (fT (fT (fT vi 116 fx) 5 (nI (vn + 1))) 6 (nI R)) 7 0) vj (fT (fT (fT (fT vF 0 g1) 4 f418) 6 f618) 5 f51) vG ((3 * r5) + 0) (vn + 1) R gq m1 hB1 (by first | with_reducible assumption | decide | omega | rfl | assumption) (by first | with_reducible assumption | decide | omega | rfl | assumption) (by first | with_reducible assumption | decide | omega | rfl | assumption) (hvn) (by first | with_reducible assumption | decide | omega | rfl | assumption) (by first | with_reducible assumption | decide | omega | rfl | assumption) (hBl) (by first | with_reducible assumption | decide | omega | rfl | assumption) (by omega) H.size) (cwV 1 hts gwsRX12_solves_14 rfl rfl rfl hd_yX12_waysOf_RX12 (by decide +kernel)) (fz_pre (va_recv hK hP (ci := 12) (q0 := 0) rfl rfl) hP hK hD) rfl rfl hl.1 rfl (lv_room (Nat.le_of_ble_eq_true rfl)) dX12_solves_64 (by decide +kernel)) hS (fun q _ h => hFc q h) hFc (fun u t9_ H locs ht hvm hw9 hB9 hz1 hk1 hS => ?_)
              revert u
              refine fz_p4 ?_
              intro g64_3 f564_3 m264_3 dr64_3 hw9 hB9
              try dsimp only at hw9 hB9
              have hP : va_P (dC, dI) vwCl (WR a k h0 (fT (fT (fT (fT (fT vi 116 fx) 5 (nI (vn + 1))) 6 (nI R)) 7 0) 6 (nI (R + dr64_3))) vj (fT (fT (fT (fT (fT (fT vF 0 g1) 4 f418) 6 f618) 5 f51) 0 g64_3) 5 f564_3) vG) H := fz_P ht hB9.1
              have hD : va_D A (WR a k h0 (fT (fT (fT (fT (fT vi 116 fx) 5 (nI (vn + 1))) 6 (nI R)) 7 0) 6 (nI (R + dr64_3))) vj (fT (fT (fT (fT (fT (fT vF 0 g1) 4 f418) 6 f618) 5 f51) 0 g64_3) 5 f564_3) vG) := hB9.2.weaken (fun _ q _ h => hFc q.1 h)
              have e9 : fT (fT (fT (fT vi 116 fx) 5 (nI (vn + 1))) 6 (nI (R + dr64_3))) 7 0 = fT (fT (fT (fT (fT vi 116 fx) 5 (nI (vn + 1))) 6 (nI R)) 7 0) 6 (nI (R + dr64_3)) := ((fT_sw _ _ _ (Nat.ne_of_beq_eq_false rfl)).trans (congrArg (fun g9 => fT g9 7 0) (fT_sm _ _ _ _))).symm
              rw [← e9] at hP hD
              clear e9
              have e9 : fT (fT (fT (fT vF 0 g64_3) 4 f418) 6 f618) 5 f564_3 = fT (fT (fT (fT (fT (fT vF 0 g1) 4 f418) 6 f618) 5 f51) 0 g64_3) 5 f564_3 := ((congrArg (fun g9 => fT g9 5 f564_3) ((fT_sw _ _ _ (Nat.ne_of_beq_eq_false rfl)).trans (congrArg (fun g9 => fT g9 5 f51) ((fT_sw _ _ _ (Nat.ne_of_beq_eq_false rfl)).trans (congrArg (fun g9 => fT g9 6 f618) ((fT_sw _ _ _ (Nat.ne_of_beq_eq_false rfl)).trans (congrArg (fun g9 => fT g9 4 f418) (fT_sm _ _ _ _)))))))).trans (fT_sm _ _ _ _)).symm
              rw [← e9] at hP hD
              clear e9
              have hP : va_P (dC, dI) vwCl (WR a k h0 (fT (fT (fT (fT vi 116 fx) 5 (nI (vn + 1))) 6 (nI (R + dr64_3))) 7 0) vj (fT (fT (fT (fT vF 0 g64_3) 4 f418) 6 f618) 5 f564_3) vG) H := hP
              have hD : va_D A (WR a k h0 (fT (fT (fT (fT vi 116 fx) 5 (nI (vn + 1))) 6 (nI (R + dr64_3))) 7 0) vj (fT (fT (fT (fT vF 0 g64_3) 4 f418) 6 f618) 5 f564_3) vG) := hD
              revert hw9
              refine fz_a4 ?_
              intro f64_3_0 f64_3_1 f64_3_2 f64_3_3
              refine lv_iinc (v := (nI (r5 + 1))) hx hb dX12_solves_67 hl (k := 3) rfl (nI_add r5 1) (by decide) rfl (fun ls (hl : lv_has ls _ ([(3, .int (nI (r5 + 1))), (0, .ref h0), (1, .int rx), (2, .int al)])) => ?_)
              refine lv_goto (tgt := 23) hx hb dX12_solves_70 (by decide) ?_
              have hl : lv_has _ _ ([(0, .ref h0), (1, .int rx), (2, .int al), (3, .int (nI (r5 + 1)))]) := lv_sub hl [1, 2, 3, 0] rfl
              exact ih23 (r5 + 1) (R + dr64_3) g64_3 f564_3 m264_3 _ _ _ (f64_3_0) (by omega) (by (have h9 := f64_3_2); omega) (f64_3_1) (by (rw [f64_3_3 _ (by omega)]); exact h20) (fun q hq => by (rw [f64_3_3 _ (by omega)]); exact ho q hq) (by omega) hP hD hS hl

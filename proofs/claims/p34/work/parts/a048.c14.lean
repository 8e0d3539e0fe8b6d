theorem dX12_pivotsQuick_0 : decode cX12_pivotsQuick 0 = .ok (.aload_n 0, 1) := dk_42 (by decide +kernel)
theorem dX12_pivotsQuick_1 : decode cX12_pivotsQuick 1 = .ok (.getfield 33, 3) := dk_180 (by decide +kernel)
theorem dX12_pivotsQuick_4 : decode cX12_pivotsQuick 4 = .ok (.aload_n 0, 1) := dk_42 (by decide +kernel)
theorem dX12_pivotsQuick_5 : decode cX12_pivotsQuick 5 = .ok (.iload_n 1, 1) := dk_27 (by decide +kernel)
theorem dX12_pivotsQuick_6 : decode cX12_pivotsQuick 6 = .ok (.iload_n 2, 1) := dk_28 (by decide +kernel)
theorem dX12_pivotsQuick_7 : decode cX12_pivotsQuick 7 = .ok (.invokevirtual 430, 3) := dk_182 (by decide +kernel)
theorem dX12_pivotsQuick_10 : decode cX12_pivotsQuick 10 = .ok (.laload, 1) := dk_47 (by decide +kernel)
theorem dX12_pivotsQuick_11 : decode cX12_pivotsQuick 11 = .ok (.lstore_n 3, 1) := dk_66 (by decide +kernel)
theorem dX12_pivotsQuick_12 : decode cX12_pivotsQuick 12 = .ok (.lload_n 3, 1) := dk_33 (by decide +kernel)
theorem dX12_pivotsQuick_13 : decode cX12_pivotsQuick 13 = .ok (.lconst 0, 1) := dk_9 (by decide +kernel)
theorem dX12_pivotsQuick_14 : decode cX12_pivotsQuick 14 = .ok (.lcmp, 1) := dk_148 (by decide +kernel)
theorem dX12_pivotsQuick_15 : decode cX12_pivotsQuick 15 = .ok (.ifCond .ge 7, 3) := dk_156 (by decide +kernel)
theorem dX12_pivotsQuick_18 : decode cX12_pivotsQuick 18 = .ok (.iconst (-1), 1) := dk_2 (by decide +kernel)
theorem dX12_pivotsQuick_19 : decode cX12_pivotsQuick 19 = .ok (.goto 4, 3) := dk_167 (by decide +kernel)
theorem dX12_pivotsQuick_22 : decode cX12_pivotsQuick 22 = .ok (.iconst 1, 1) := dk_4 (by decide +kernel)
theorem dX12_pivotsQuick_23 : decode cX12_pivotsQuick 23 = .ok (.istore 5, 2) := dk_54 (by decide +kernel)
theorem dX12_pivotsQuick_25 : decode cX12_pivotsQuick 25 = .ok (.iconst 0, 1) := dk_3 (by decide +kernel)
theorem dX12_pivotsQuick_26 : decode cX12_pivotsQuick 26 = .ok (.istore 6, 2) := dk_54 (by decide +kernel)
theorem dX12_pivotsQuick_28 : decode cX12_pivotsQuick 28 = .ok (.iload 6, 2) := dk_21 (by decide +kernel)
theorem dX12_pivotsQuick_30 : decode cX12_pivotsQuick 30 = .ok (.aload_n 0, 1) := dk_42 (by decide +kernel)
theorem dX12_pivotsQuick_31 : decode cX12_pivotsQuick 31 = .ok (.getfield 399, 3) := dk_180 (by decide +kernel)
theorem dX12_pivotsQuick_34 : decode cX12_pivotsQuick 34 = .ok (.aload_n 0, 1) := dk_42 (by decide +kernel)
theorem dX12_pivotsQuick_35 : decode cX12_pivotsQuick 35 = .ok (.getfield 402, 3) := dk_180 (by decide +kernel)
theorem dX12_pivotsQuick_38 : decode cX12_pivotsQuick 38 = .ok (.iadd, 1) := dk_96 (by decide +kernel)
theorem dX12_pivotsQuick_39 : decode cX12_pivotsQuick 39 = .ok (.if_icmp .ge 166, 3) := dk_162 (by decide +kernel)
theorem dX12_pivotsQuick_42 : decode cX12_pivotsQuick 42 = .ok (.iconst 0, 1) := dk_3 (by decide +kernel)
theorem dX12_pivotsQuick_43 : decode cX12_pivotsQuick 43 = .ok (.istore 7, 2) := dk_54 (by decide +kernel)
theorem dX12_pivotsQuick_45 : decode cX12_pivotsQuick 45 = .ok (.iload 7, 2) := dk_21 (by decide +kernel)
theorem dX12_pivotsQuick_47 : decode cX12_pivotsQuick 47 = .ok (.aload_n 0, 1) := dk_42 (by decide +kernel)
theorem dX12_pivotsQuick_48 : decode cX12_pivotsQuick 48 = .ok (.getfield 396, 3) := dk_180 (by decide +kernel)
theorem dX12_pivotsQuick_51 : decode cX12_pivotsQuick 51 = .ok (.if_icmp .gt 148, 3) := dk_163 (by decide +kernel)
theorem dX12_pivotsQuick_54 : decode cX12_pivotsQuick 54 = .ok (.aload_n 0, 1) := dk_42 (by decide +kernel)
theorem dX12_pivotsQuick_55 : decode cX12_pivotsQuick 55 = .ok (.getfield 33, 3) := dk_180 (by decide +kernel)
theorem dX12_pivotsQuick_58 : decode cX12_pivotsQuick 58 = .ok (.aload_n 0, 1) := dk_42 (by decide +kernel)
theorem dX12_pivotsQuick_59 : decode cX12_pivotsQuick 59 = .ok (.iload 6, 2) := dk_21 (by decide +kernel)
theorem dX12_pivotsQuick_61 : decode cX12_pivotsQuick 61 = .ok (.iload 7, 2) := dk_21 (by decide +kernel)
theorem dX12_pivotsQuick_63 : decode cX12_pivotsQuick 63 = .ok (.invokevirtual 430, 3) := dk_182 (by decide +kernel)
theorem dX12_pivotsQuick_66 : decode cX12_pivotsQuick 66 = .ok (.laload, 1) := dk_47 (by decide +kernel)
theorem dX12_pivotsQuick_67 : decode cX12_pivotsQuick 67 = .ok (.lstore 8, 2) := dk_55 (by decide +kernel)
theorem dX12_pivotsQuick_69 : decode cX12_pivotsQuick 69 = .ok (.iload 6, 2) := dk_21 (by decide +kernel)
theorem dX12_pivotsQuick_71 : decode cX12_pivotsQuick 71 = .ok (.iload_n 1, 1) := dk_27 (by decide +kernel)
theorem dX12_pivotsQuick_72 : decode cX12_pivotsQuick 72 = .ok (.if_icmp .ne 29, 3) := dk_160 (by decide +kernel)
theorem dX12_pivotsQuick_75 : decode cX12_pivotsQuick 75 = .ok (.iload 7, 2) := dk_21 (by decide +kernel)
theorem dX12_pivotsQuick_77 : decode cX12_pivotsQuick 77 = .ok (.iload_n 2, 1) := dk_28 (by decide +kernel)
theorem dX12_pivotsQuick_78 : decode cX12_pivotsQuick 78 = .ok (.if_icmp .ne 14, 3) := dk_160 (by decide +kernel)
theorem dX12_pivotsQuick_81 : decode cX12_pivotsQuick 81 = .ok (.iload 5, 2) := dk_21 (by decide +kernel)
theorem dX12_pivotsQuick_83 : decode cX12_pivotsQuick 83 = .ok (.i2l, 1) := dk_133 (by decide +kernel)
theorem dX12_pivotsQuick_84 : decode cX12_pivotsQuick 84 = .ok (.aload_n 0, 1) := dk_42 (by decide +kernel)
theorem dX12_pivotsQuick_85 : decode cX12_pivotsQuick 85 = .ok (.getfield 426, 3) := dk_180 (by decide +kernel)
theorem dX12_pivotsQuick_88 : decode cX12_pivotsQuick 88 = .ok (.lmul, 1) := dk_105 (by decide +kernel)
theorem dX12_pivotsQuick_89 : decode cX12_pivotsQuick 89 = .ok (.goto 67, 3) := dk_167 (by decide +kernel)
theorem dX12_pivotsQuick_92 : decode cX12_pivotsQuick 92 = .ok (.iload 5, 2) := dk_21 (by decide +kernel)
theorem dX12_pivotsQuick_94 : decode cX12_pivotsQuick 94 = .ok (.i2l, 1) := dk_133 (by decide +kernel)
theorem dX12_pivotsQuick_95 : decode cX12_pivotsQuick 95 = .ok (.lload 8, 2) := dk_22 (by decide +kernel)
theorem dX12_pivotsQuick_97 : decode cX12_pivotsQuick 97 = .ok (.lmul, 1) := dk_105 (by decide +kernel)
theorem dX12_pivotsQuick_98 : decode cX12_pivotsQuick 98 = .ok (.goto 58, 3) := dk_167 (by decide +kernel)
theorem dX12_pivotsQuick_101 : decode cX12_pivotsQuick 101 = .ok (.iload 7, 2) := dk_21 (by decide +kernel)
theorem dX12_pivotsQuick_103 : decode cX12_pivotsQuick 103 = .ok (.iload_n 2, 1) := dk_28 (by decide +kernel)
theorem dX12_pivotsQuick_104 : decode cX12_pivotsQuick 104 = .ok (.if_icmp .ne 13, 3) := dk_160 (by decide +kernel)
theorem dX12_pivotsQuick_107 : decode cX12_pivotsQuick 107 = .ok (.iload 5, 2) := dk_21 (by decide +kernel)
theorem dX12_pivotsQuick_109 : decode cX12_pivotsQuick 109 = .ok (.ineg, 1) := dk_116 (by decide +kernel)
theorem dX12_pivotsQuick_110 : decode cX12_pivotsQuick 110 = .ok (.i2l, 1) := dk_133 (by decide +kernel)
theorem dX12_pivotsQuick_111 : decode cX12_pivotsQuick 111 = .ok (.lload 8, 2) := dk_22 (by decide +kernel)
theorem dX12_pivotsQuick_113 : decode cX12_pivotsQuick 113 = .ok (.lmul, 1) := dk_105 (by decide +kernel)
theorem dX12_pivotsQuick_114 : decode cX12_pivotsQuick 114 = .ok (.goto 42, 3) := dk_167 (by decide +kernel)
theorem dX12_pivotsQuick_117 : decode cX12_pivotsQuick 117 = .ok (.iload 5, 2) := dk_21 (by decide +kernel)
theorem dX12_pivotsQuick_119 : decode cX12_pivotsQuick 119 = .ok (.i2l, 1) := dk_133 (by decide +kernel)
theorem dX12_pivotsQuick_120 : decode cX12_pivotsQuick 120 = .ok (.lload 8, 2) := dk_22 (by decide +kernel)
theorem dX12_pivotsQuick_122 : decode cX12_pivotsQuick 122 = .ok (.lload_n 3, 1) := dk_33 (by decide +kernel)
theorem dX12_pivotsQuick_123 : decode cX12_pivotsQuick 123 = .ok (.lmul, 1) := dk_105 (by decide +kernel)
theorem dX12_pivotsQuick_124 : decode cX12_pivotsQuick 124 = .ok (.aload_n 0, 1) := dk_42 (by decide +kernel)
theorem dX12_pivotsQuick_125 : decode cX12_pivotsQuick 125 = .ok (.getfield 33, 3) := dk_180 (by decide +kernel)
theorem dX12_pivotsQuick_128 : decode cX12_pivotsQuick 128 = .ok (.aload_n 0, 1) := dk_42 (by decide +kernel)
theorem dX12_pivotsQuick_129 : decode cX12_pivotsQuick 129 = .ok (.iload 6, 2) := dk_21 (by decide +kernel)
theorem dX12_pivotsQuick_131 : decode cX12_pivotsQuick 131 = .ok (.iload_n 2, 1) := dk_28 (by decide +kernel)
theorem dX12_pivotsQuick_132 : decode cX12_pivotsQuick 132 = .ok (.invokevirtual 430, 3) := dk_182 (by decide +kernel)
theorem dX12_pivotsQuick_135 : decode cX12_pivotsQuick 135 = .ok (.laload, 1) := dk_47 (by decide +kernel)
theorem dX12_pivotsQuick_136 : decode cX12_pivotsQuick 136 = .ok (.aload_n 0, 1) := dk_42 (by decide +kernel)
theorem dX12_pivotsQuick_137 : decode cX12_pivotsQuick 137 = .ok (.getfield 33, 3) := dk_180 (by decide +kernel)
theorem dX12_pivotsQuick_140 : decode cX12_pivotsQuick 140 = .ok (.aload_n 0, 1) := dk_42 (by decide +kernel)
theorem dX12_pivotsQuick_141 : decode cX12_pivotsQuick 141 = .ok (.iload_n 1, 1) := dk_27 (by decide +kernel)
theorem dX12_pivotsQuick_142 : decode cX12_pivotsQuick 142 = .ok (.iload 7, 2) := dk_21 (by decide +kernel)
theorem dX12_pivotsQuick_144 : decode cX12_pivotsQuick 144 = .ok (.invokevirtual 430, 3) := dk_182 (by decide +kernel)
theorem dX12_pivotsQuick_147 : decode cX12_pivotsQuick 147 = .ok (.laload, 1) := dk_47 (by decide +kernel)
theorem dX12_pivotsQuick_148 : decode cX12_pivotsQuick 148 = .ok (.lmul, 1) := dk_105 (by decide +kernel)
theorem dX12_pivotsQuick_149 : decode cX12_pivotsQuick 149 = .ok (.lsub, 1) := dk_101 (by decide +kernel)
theorem dX12_pivotsQuick_150 : decode cX12_pivotsQuick 150 = .ok (.aload_n 0, 1) := dk_42 (by decide +kernel)
theorem dX12_pivotsQuick_151 : decode cX12_pivotsQuick 151 = .ok (.getfield 426, 3) := dk_180 (by decide +kernel)
theorem dX12_pivotsQuick_154 : decode cX12_pivotsQuick 154 = .ok (.ldiv, 1) := dk_109 (by decide +kernel)
theorem dX12_pivotsQuick_155 : decode cX12_pivotsQuick 155 = .ok (.lmul, 1) := dk_105 (by decide +kernel)
theorem dX12_pivotsQuick_156 : decode cX12_pivotsQuick 156 = .ok (.lstore 10, 2) := dk_55 (by decide +kernel)
theorem dX12_pivotsQuick_158 : decode cX12_pivotsQuick 158 = .ok (.lload 10, 2) := dk_22 (by decide +kernel)
theorem dX12_pivotsQuick_160 : decode cX12_pivotsQuick 160 = .ok (.ldc2_w 422, 3) := dk_20 (by decide +kernel)
theorem dX12_pivotsQuick_163 : decode cX12_pivotsQuick 163 = .ok (.lcmp, 1) := dk_148 (by decide +kernel)
theorem dX12_pivotsQuick_164 : decode cX12_pivotsQuick 164 = .ok (.ifCond .ge 12, 3) := dk_156 (by decide +kernel)
theorem dX12_pivotsQuick_167 : decode cX12_pivotsQuick 167 = .ok (.lload 10, 2) := dk_22 (by decide +kernel)
theorem dX12_pivotsQuick_169 : decode cX12_pivotsQuick 169 = .ok (.ldc2_w 424, 3) := dk_20 (by decide +kernel)
theorem dX12_pivotsQuick_172 : decode cX12_pivotsQuick 172 = .ok (.lcmp, 1) := dk_148 (by decide +kernel)
theorem dX12_pivotsQuick_173 : decode cX12_pivotsQuick 173 = .ok (.ifCond .gt 5, 3) := dk_157 (by decide +kernel)
theorem dX12_pivotsQuick_176 : decode cX12_pivotsQuick 176 = .ok (.iconst 0, 1) := dk_3 (by decide +kernel)
theorem dX12_pivotsQuick_177 : decode cX12_pivotsQuick 177 = .ok (.ireturn, 1) := dk_172 (by decide +kernel)
theorem dX12_pivotsQuick_178 : decode cX12_pivotsQuick 178 = .ok (.aload_n 0, 1) := dk_42 (by decide +kernel)
theorem dX12_pivotsQuick_179 : decode cX12_pivotsQuick 179 = .ok (.getfield 36, 3) := dk_180 (by decide +kernel)
theorem dX12_pivotsQuick_182 : decode cX12_pivotsQuick 182 = .ok (.aload_n 0, 1) := dk_42 (by decide +kernel)
theorem dX12_pivotsQuick_183 : decode cX12_pivotsQuick 183 = .ok (.iload 6, 2) := dk_21 (by decide +kernel)
theorem dX12_pivotsQuick_185 : decode cX12_pivotsQuick 185 = .ok (.iload 7, 2) := dk_21 (by decide +kernel)
theorem dX12_pivotsQuick_187 : decode cX12_pivotsQuick 187 = .ok (.invokevirtual 430, 3) := dk_182 (by decide +kernel)
theorem dX12_pivotsQuick_190 : decode cX12_pivotsQuick 190 = .ok (.lload 10, 2) := dk_22 (by decide +kernel)
theorem dX12_pivotsQuick_192 : decode cX12_pivotsQuick 192 = .ok (.lastore, 1) := dk_80 (by decide +kernel)
theorem dX12_pivotsQuick_193 : decode cX12_pivotsQuick 193 = .ok (.iinc 7 1, 3) := dk_132 (by decide +kernel)
theorem dX12_pivotsQuick_196 : decode cX12_pivotsQuick 196 = .ok (.goto (-151), 3) := dk_167 (by decide +kernel)
theorem dX12_pivotsQuick_199 : decode cX12_pivotsQuick 199 = .ok (.iinc 6 1, 3) := dk_132 (by decide +kernel)
theorem dX12_pivotsQuick_202 : decode cX12_pivotsQuick 202 = .ok (.goto (-174), 3) := dk_167 (by decide +kernel)
theorem dX12_pivotsQuick_205 : decode cX12_pivotsQuick 205 = .ok (.aload_n 0, 1) := dk_42 (by decide +kernel)
theorem dX12_pivotsQuick_206 : decode cX12_pivotsQuick 206 = .ok (.getfield 399, 3) := dk_180 (by decide +kernel)
theorem dX12_pivotsQuick_209 : decode cX12_pivotsQuick 209 = .ok (.aload_n 0, 1) := dk_42 (by decide +kernel)
theorem dX12_pivotsQuick_210 : decode cX12_pivotsQuick 210 = .ok (.getfield 402, 3) := dk_180 (by decide +kernel)
theorem dX12_pivotsQuick_213 : decode cX12_pivotsQuick 213 = .ok (.iadd, 1) := dk_96 (by decide +kernel)
theorem dX12_pivotsQuick_214 : decode cX12_pivotsQuick 214 = .ok (.aload_n 0, 1) := dk_42 (by decide +kernel)
theorem dX12_pivotsQuick_215 : decode cX12_pivotsQuick 215 = .ok (.getfield 396, 3) := dk_180 (by decide +kernel)
theorem dX12_pivotsQuick_218 : decode cX12_pivotsQuick 218 = .ok (.iconst 1, 1) := dk_4 (by decide +kernel)
theorem dX12_pivotsQuick_219 : decode cX12_pivotsQuick 219 = .ok (.iadd, 1) := dk_96 (by decide +kernel)
theorem dX12_pivotsQuick_220 : decode cX12_pivotsQuick 220 = .ok (.imul, 1) := dk_104 (by decide +kernel)
theorem dX12_pivotsQuick_221 : decode cX12_pivotsQuick 221 = .ok (.istore 6, 2) := dk_54 (by decide +kernel)
theorem dX12_pivotsQuick_223 : decode cX12_pivotsQuick 223 = .ok (.iconst 0, 1) := dk_3 (by decide +kernel)
theorem dX12_pivotsQuick_224 : decode cX12_pivotsQuick 224 = .ok (.istore 7, 2) := dk_54 (by decide +kernel)
theorem dX12_pivotsQuick_226 : decode cX12_pivotsQuick 226 = .ok (.iload 7, 2) := dk_21 (by decide +kernel)
theorem dX12_pivotsQuick_228 : decode cX12_pivotsQuick 228 = .ok (.iload 6, 2) := dk_21 (by decide +kernel)
theorem dX12_pivotsQuick_230 : decode cX12_pivotsQuick 230 = .ok (.if_icmp .ge 23, 3) := dk_162 (by decide +kernel)
theorem dX12_pivotsQuick_233 : decode cX12_pivotsQuick 233 = .ok (.aload_n 0, 1) := dk_42 (by decide +kernel)
theorem dX12_pivotsQuick_234 : decode cX12_pivotsQuick 234 = .ok (.getfield 33, 3) := dk_180 (by decide +kernel)
theorem dX12_pivotsQuick_237 : decode cX12_pivotsQuick 237 = .ok (.iload 7, 2) := dk_21 (by decide +kernel)
theorem dX12_pivotsQuick_239 : decode cX12_pivotsQuick 239 = .ok (.aload_n 0, 1) := dk_42 (by decide +kernel)
theorem dX12_pivotsQuick_240 : decode cX12_pivotsQuick 240 = .ok (.getfield 36, 3) := dk_180 (by decide +kernel)
theorem dX12_pivotsQuick_243 : decode cX12_pivotsQuick 243 = .ok (.iload 7, 2) := dk_21 (by decide +kernel)
theorem dX12_pivotsQuick_245 : decode cX12_pivotsQuick 245 = .ok (.laload, 1) := dk_47 (by decide +kernel)
theorem dX12_pivotsQuick_246 : decode cX12_pivotsQuick 246 = .ok (.lastore, 1) := dk_80 (by decide +kernel)
theorem dX12_pivotsQuick_247 : decode cX12_pivotsQuick 247 = .ok (.iinc 7 1, 3) := dk_132 (by decide +kernel)
theorem dX12_pivotsQuick_250 : decode cX12_pivotsQuick 250 = .ok (.goto (-24), 3) := dk_167 (by decide +kernel)
theorem dX12_pivotsQuick_253 : decode cX12_pivotsQuick 253 = .ok (.aload_n 0, 1) := dk_42 (by decide +kernel)
theorem dX12_pivotsQuick_254 : decode cX12_pivotsQuick 254 = .ok (.iload 5, 2) := dk_21 (by decide +kernel)
theorem dX12_pivotsQuick_256 : decode cX12_pivotsQuick 256 = .ok (.i2l, 1) := dk_133 (by decide +kernel)
theorem dX12_pivotsQuick_257 : decode cX12_pivotsQuick 257 = .ok (.lload_n 3, 1) := dk_33 (by decide +kernel)
theorem dX12_pivotsQuick_258 : decode cX12_pivotsQuick 258 = .ok (.lmul, 1) := dk_105 (by decide +kernel)
theorem dX12_pivotsQuick_259 : decode cX12_pivotsQuick 259 = .ok (.putfield 426, 3) := dk_181 (by decide +kernel)
theorem dX12_pivotsQuick_262 : decode cX12_pivotsQuick 262 = .ok (.aload_n 0, 1) := dk_42 (by decide +kernel)
theorem dX12_pivotsQuick_263 : decode cX12_pivotsQuick 263 = .ok (.iload_n 1, 1) := dk_27 (by decide +kernel)
theorem dX12_pivotsQuick_264 : decode cX12_pivotsQuick 264 = .ok (.iload_n 2, 1) := dk_28 (by decide +kernel)
theorem dX12_pivotsQuick_265 : decode cX12_pivotsQuick 265 = .ok (.invokevirtual 433, 3) := dk_182 (by decide +kernel)
theorem dX12_pivotsQuick_268 : decode cX12_pivotsQuick 268 = .ok (.iconst 1, 1) := dk_4 (by decide +kernel)
theorem dX12_pivotsQuick_269 : decode cX12_pivotsQuick 269 = .ok (.ireturn, 1) := dk_172 (by decide +kernel)
def wsRX12_pivotsQuick : List Cond := .code yX12_pivotsQuick cX12_pivotsQuick 12 (some .boolean) :: ([.fieldLink RX12 33 "OptimaWorksModel" "fast" "[J", .fieldLink RX12 399 "OptimaWorksModel" "rows" "I", .fieldLink RX12 402 "OptimaWorksModel" "goals" "I", .fieldLink RX12 396 "OptimaWorksModel" "columns" "I", .fieldLink RX12 426 "OptimaWorksModel" "quickDivisor" "J", .fieldLink RX12 36 "OptimaWorksModel" "later" "[J", .constantLong RX12 422 2147483648, .constantLong RX12 424 (-2147483648)] ++ wsX120 ++ (wsV RX12 430 RX12 yX12_place1 wsRX12_place1) ++ (wsV RX12 433 RX12 yX12_exchange wsRX12_exchange))
theorem iwsRX12_pivotsQuick_in12 : ∀ w ∈ wsX120, w ∈ wsRX12_pivotsQuick := fun _ h => List.mem_cons_of_mem _ (List.mem_append_left _ (List.mem_append_left _ (List.mem_append_right _ h)))
theorem gwsRX12_pivotsQuick_0 : GoodIn wsRX12_pivotsQuick (wsV RX12 430 RX12 yX12_place1 wsRX12_place1) := goodIn_sub (fun _ h => List.mem_cons_of_mem _ (List.mem_append_left _ (List.mem_append_right _ h))) (gdV (by decide +kernel) gdwsRX12_place1)
theorem gwsRX12_pivotsQuick_1 : GoodIn wsRX12_pivotsQuick (wsV RX12 433 RX12 yX12_exchange wsRX12_exchange) := goodIn_sub (fun _ h => List.mem_cons_of_mem _ (List.mem_append_right _ h)) (gdV (by decide +kernel) gdwsRX12_exchange)
theorem gdwsRX12_pivotsQuick : wsRX12_pivotsQuick.all goodWord = true := gdC rfl (gdA (gdA (gdA (by decide +kernel : ([.fieldLink RX12 33 "OptimaWorksModel" "fast" "[J", .fieldLink RX12 399 "OptimaWorksModel" "rows" "I", .fieldLink RX12 402 "OptimaWorksModel" "goals" "I", .fieldLink RX12 396 "OptimaWorksModel" "columns" "I", .fieldLink RX12 426 "OptimaWorksModel" "quickDivisor" "J", .fieldLink RX12 36 "OptimaWorksModel" "later" "[J", .constantLong RX12 422 2147483648, .constantLong RX12 424 (-2147483648)] : List Cond).all goodWord = true) gdwsX120) (gdV (by decide +kernel) gdwsRX12_place1)) (gdV (by decide +kernel) gdwsRX12_exchange))
set_option maxHeartbeats 4000000 in
set_option maxRecDepth 100000 in
/-- pivotsQuick(r, c) -/
theorem r_X12_pivotsQuick (l : Launch) (dC : Nat → ClassId) (dI : Nat → Nat → Nat) (a : Nat → Nat) (k : Nat → ClassId) (h0 : Nat) (vi : Nat → Int32) (vj : Nat → Int64) (vF : Nat → Nat → Int32) (vG : Nat → Nat → Int64) (rn : Nat) (cn : Nat) (C : Nat) (R : Nat) (Gq : Nat) (t : Nat → Nat → Int) (D : Int) (hC : vi 5 = nI C) (hR : vi 6 = nI R) (hG : vi 7 = nI Gq) (hC45 : 0 < C ∧ C ≤ 45) (hT60 : R + Gq < 60) (hsz : (R + Gq) * (C + 1) ≤ 970) (hQ : TabQ C (R + Gq) (vG 7) (vj 12) t D) (hrn : rn < R) (hcn : cn < C) (hDp : 0 < D) (hp0 : t rn cn ≠ 0) (sz : Nat) : Met l yX12_pivotsQuick wsRX12_pivotsQuick ({ frames := 1, cells := 0, slots := 0, locals := 23 }) (va_Pc [.ref h0, .int (nI rn), .int (nI cn)] (fun U => U.heap.size = sz ∧ va_P (dC, dI) vwCl (WR a k h0 vi vj vF vG) U.heap ∧ va_K (dC, dI) vwCl (tX12 k) U ∧ va_D (fun _ => True) (WR a k h0 vi vj vF vG))) (va_Qi (fun (r : Int32) (u : (Int64) × (Nat → Int64) × (Nat → Int64) × (Nat → Int32) × (Nat → Int32)) => (r = 0 ∧ (u.2.1) = (vG 7) ∧ (u.1) = (vj 12) ∧ (u.2.2.2.1) = (vF 4) ∧ (u.2.2.2.2) = (vF 5)) ∨ (r = 1 ∧ (TabQ C (R + Gq) (u.2.1) (u.1) (nvT rn cn (sgI (t rn cn)) t D) ((sgI (t rn cn)) * t rn cn)) ∧ (u.2.2.2.1) = (upd (vF 4) (nI cn).toNatClampNeg (vF 5 rn)) ∧ (u.2.2.2.2) = (upd (vF 5) (nI rn).toNatClampNeg (vF 4 cn)))) (fun (u : (Int64) × (Nat → Int64) × (Nat → Int64) × (Nat → Int32) × (Nat → Int32)) t => va_P (dC, dI) vwCl (WR a k h0 vi (fT vj 12 (u.1)) (fT (fT vF 4 (u.2.2.2.1)) 5 (u.2.2.2.2)) (fT (fT vG 8 (u.2.2.1)) 7 (u.2.1))) t.heap ∧ va_D (va_A (WR a k h0 vi vj vF vG) sz) (WR a k h0 vi (fT vj 12 (u.1)) (fT (fT vF 4 (u.2.2.2.1)) 5 (u.2.2.2.2)) (fT (fT vG 8 (u.2.2.1)) 7 (u.2.1)))) (va_A (WR a k h0 vi vj vF vG) sz)) 0 0 (va_A (WR a k h0 vi vj vF vG) sz) := by
  refine Met.ofW (cc := cX12_pivotsQuick) (maxL := 12) (ret := (some .boolean)) (by decide) rfl ?_
  intro p e s m args below meth c s₁ B hml hv
  obtain ⟨rfl, hsz, hP, hK, hD0⟩ := hv
  have hx := B.exec
  have hb := B.bytes
  have hr := B.returns
  have hts := atoms_spec (ws := wsRX12_pivotsQuick) B.pre
  have hown : s.vm.findClass RX12 = some m.cls := findClass_of_methodNamed B.named
  have hlocks := B.notSynchronized
  subst hsz
  have hD := hD0.self (sz := s.heap.size)
  generalize hAe : va_A (WR a k h0 vi vj vF vG) s.heap.size = A at hD ⊢
  have hA : ∀ q : Nat, s.heap.size ≤ q → A q := fun q h => by rw [← hAe]; exact Or.inr h
  have hS : va_S A s.heap s.heap [] := va_S.rf
  have hl := lv_entry ([.ref h0, .int (nI rn), .int (nI cn)]) (n := 12) (Nat.le_of_ble_eq_true rfl)
  rw [lg_entry_eq]
  generalize (lg_sl ([.ref h0, .int (nI rn), .int (nI cn)]) ++ List.replicate (12 - (lg_sl ([.ref h0, .int (nI rn), .int (nI cn)])).length) Slot.unset).toArray = ls at hl ⊢
  have hl : lv_has ls 12 [(0, .ref h0), (1, .int (nI rn)), (2, .int (nI cn))] := hl
  have hpr := pl_lt (C := C) (show rn < R + Gq by omega) (show cn ≤ C by omega)
  have ep0 := hQ.2.1 rn (by omega) cn (by omega)
  refine lv_aload_n hx hb dX12_pivotsQuick_0 rfl (lv_at hl 0 rfl) ?_
  refine va_get (D := (dC, dI)) (ci := 12) (v := .ref (a 7)) (C := RX12) (T := TX12) (N := 163) (fs := fM (vS a vi vj)) hx hb hts iwsRX12_pivotsQuick_in12 hown hK hP 0 rfl rfl 13 (by decide) (hts (.fieldLink RX12 33 "OptimaWorksModel" "fast" "[J") (by decide +kernel)) (fun _ h9 => h9) rfl dX12_pivotsQuick_1 ?_
  refine lv_aload_n hx hb dX12_pivotsQuick_4 rfl (lv_at hl 0 rfl) ?_
  refine lv_iload_n hx hb dX12_pivotsQuick_5 rfl (lv_at hl 1 rfl) ?_
  refine lv_iload_n hx hb dX12_pivotsQuick_6 rfl (lv_at hl 2 rfl) ?_
  have hFc := allFree hD hS hA
  refine va_calli (va_runV (As := [.int (nI rn), .int (nI cn)]) (rest := [.ref (a 7)]) ⟨hx, hb, hml, hown, hts⟩ (r_X12_place1 l dC dI a k h0 vi vj vF vG rn cn C (by first | assumption | decide | omega | rfl) s.heap.size) (cwV 2 hts gwsRX12_pivotsQuick_0 rfl rfl rfl (by decide +kernel) ⟨by decide +kernel, by decide +kernel⟩) ⟨fun a U g mk q => by obtain ⟨q0, q1, qP, qK, qD⟩ := q; exact ⟨q0, q1, qP, va_K.moved (u := U) (U := U.calling g mk a) (Vm.Alike.refl U.vm) qK, qD⟩, va_recv hK hP (ci := 12) (q0 := 0) rfl rfl, fun U hU9 hW => ⟨rfl, by rw [hU9], by rw [hU9]; exact hP, va_K.moved hW.alike hK, hD.weaken (fun _ _ _ _ => trivial)⟩⟩ rfl rfl hl.1 rfl (lv_room (Nat.le_of_ble_eq_true rfl)) dX12_pivotsQuick_7 ⟨by decide +kernel, by decide +kernel⟩) hS (fun q _ h => hFc q h) hFc (fun r7 u t9_ H1 locs ht hvm hw9 hB9 hz1 hk1 hS => ?_)
  obtain ⟨hP1, hD1⟩ := hB9
  rw [ht] at hP1
  have hP := hP1
  have hD := hD1.weaken (fun _ q _ h => hFc q.1 h)
  generalize H1 = H at hP hS ⊢
  have hP : va_P (dC, dI) vwCl (WR a k h0 vi vj vF vG) H := hP
  have hD : va_D A (WR a k h0 vi vj vF vG) := hD
  obtain rfl := hw9
  refine va_lald (cA := k 7) (n := 1000) (f := (vG 7)) hx hb hK hP 8 7 (WR_get 7 (by decide)) (TR_get 7 (by decide)) (vp_in_nI (show (rn * (C + 1) + cn) < 1000 by omega) (by omega)) dX12_pivotsQuick_10 ?_
  refine lv_topl (fun y1 hy1 => ?_)
  obtain rfl : ((vG 7) (rn * (C + 1) + cn)) = y1 := (hy1.trans (by rw [nI_clamp (by omega)])).symm
  refine lv_lstore_n hx hb dX12_pivotsQuick_11 rfl hl (by decide) rfl (fun ls (hl : lv_has ls _ ([(3, .long ((vG 7) (rn * (C + 1) + cn))), (0, .ref h0), (1, .int (nI rn)), (2, .int (nI cn))])) => ?_)
  refine lv_lload_n hx hb dX12_pivotsQuick_12 rfl (lv_at hl 0 rfl) ?_
  refine lv_lconst (v := 0) hx hb dX12_pivotsQuick_13 (by decide) ?_
  refine W.lcmp hx hb dX12_pivotsQuick_14 ?_
  refine lv_if_ge (tgt := 22) hx hb dX12_pivotsQuick_15 (by decide) (fun c_15 => ?_) (fun c_15 => ?_)
  · have t_15 : (((vG 7) (rn * (C + 1) + cn))).toInt ≥ 0 := toL_ge c_15 rfl (by decide)
    refine lv_iconst (v := 1) hx hb dX12_pivotsQuick_22 (by decide) ?_
    refine lv_istore hx hb dX12_pivotsQuick_23 hl (by decide) rfl (fun ls (hl : lv_has ls _ ([(5, .int 1), (3, .long ((vG 7) (rn * (C + 1) + cn))), (0, .ref h0), (1, .int (nI rn)), (2, .int (nI cn))])) => ?_)
    refine lv_iconst (v := 0) hx hb dX12_pivotsQuick_25 (by decide) ?_
    refine lv_istore hx hb dX12_pivotsQuick_26 hl (by decide) rfl (fun ls (hl : lv_has ls _ ([(6, .int 0), (5, .int 1), (3, .long ((vG 7) (rn * (C + 1) + cn))), (0, .ref h0), (1, .int (nI rn)), (2, .int (nI cn))])) => ?_)
    have e9 : fT vG 8 (vG 8) = vG := by funext q9; by_cases h9_8 : q9 = 8; (subst h9_8; exact (fT_eq _ _ _).trans (Eq.trans (by first | rfl | assumption | (symm; assumption) | (subst_vars; rfl)) (Eq.refl _).symm)); exact (fT_ne _ _ h9_8).trans (Eq.refl _).symm
    have hP : va_P (dC, dI) vwCl (WR a k h0 vi vj vF (fT vG 8 (vG 8))) H := by rw [e9]; exact hP
    have hD : va_D A (WR a k h0 vi vj vF (fT vG 8 (vG 8))) := by rw [e9]; exact hD
    clear e9
    have hl : lv_has _ _ ([(0, .ref h0), (1, .int (nI rn)), (2, .int (nI cn)), (3, .long ((vG 7) (rn * (C + 1) + cn))), (5, .int 1), (6, .int (nI 0))]) := lv_sub hl [3, 4, 5, 2, 1, 0] rfl
    refine (fun (loop : ∀ (n9 : Nat) (i : Nat) (L8 : Nat → Int64) (H : Heap) (locs : List Loc) (ls : Array Slot), (i ≤ R + Gq) → (∀ p, p < i * (C + 1) → -2147483648 < (L8 p).toInt ∧ (L8 p).toInt < 2147483648) → (∀ i2 j2, i2 < R + Gq → j2 ≤ C → i2 * (C + 1) + j2 < i * (C + 1) → (L8 (i2 * (C + 1) + j2)).toInt = nvT rn cn (sgI (t rn cn)) t D i2 j2) →  (R + Gq < i + n9) → va_P (dC, dI) vwCl (WR a k h0 vi vj vF (fT vG 8 L8)) H → va_D A (WR a k h0 vi vj vF (fT vG 8 L8)) → va_S A s.heap H locs → lv_has ls 12 [(0, .ref h0), (1, .int (nI rn)), (2, .int (nI cn)), (3, .long ((vG 7) (rn * (C + 1) + cn))), (5, .int 1), (6, .int (nI i))] → W p l e _ s m _ below meth c H locs 0 0 _ (F0 m 28 ls [])) => loop (R + Gq + 1) 0 (vG 8) _ _ _ (by omega) (fun p hp => absurd hp (by rw [Nat.zero_mul]; omega)) (fun i2 j2 h1 h2 h3 => absurd h3 (by rw [Nat.zero_mul]; omega)) (by omega) hP hD hS hl) ?_
    intro n9
    induction n9 with
    | zero => intro i L8 H locs ls hi hbq hv hf9; exact False.elim (by omega)
    | succ n9 ih28 =>
      intro i L8 H locs ls hi hbq hv hf28 hP hD hS hl
      refine lv_iload hx hb dX12_pivotsQuick_28 (lv_at hl 5 rfl) ?_
      refine lv_aload_n hx hb dX12_pivotsQuick_30 rfl (lv_at hl 0 rfl) ?_
      refine va_get (D := (dC, dI)) (ci := 12) (v := .int (vi 6)) (C := RX12) (T := TX12) (N := 163) (fs := fM (vS a vi vj)) hx hb hts iwsRX12_pivotsQuick_in12 hown hK hP 0 rfl rfl 6 (by decide) (hts (.fieldLink RX12 399 "OptimaWorksModel" "rows" "I") (by decide +kernel)) (fun _ h9 => h9) rfl dX12_pivotsQuick_31 ?_
      refine lv_topi (fun y2 hy2 => ?_)
      obtain rfl : (nI R) = y2 := (hy2.trans (hR)).symm
      refine lv_aload_n hx hb dX12_pivotsQuick_34 rfl (lv_at hl 0 rfl) ?_
      refine va_get (D := (dC, dI)) (ci := 12) (v := .int (vi 7)) (C := RX12) (T := TX12) (N := 163) (fs := fM (vS a vi vj)) hx hb hts iwsRX12_pivotsQuick_in12 hown hK hP 0 rfl rfl 7 (by decide) (hts (.fieldLink RX12 402 "OptimaWorksModel" "goals" "I") (by decide +kernel)) (fun _ h9 => h9) rfl dX12_pivotsQuick_35 ?_
      refine lv_topi (fun y3 hy3 => ?_)
      obtain rfl : (nI Gq) = y3 := (hy3.trans (hG)).symm
      refine lv_iadd hx hb dX12_pivotsQuick_38 ?_
      refine lv_topi (fun y4 hy4 => ?_)
      obtain rfl : (nI (R + Gq)) = y4 := (hy4.trans (nI_add R Gq)).symm
      refine lv_icmp_ge (tgt := 205) hx hb dX12_pivotsQuick_39 (by decide) (fun c_39 => ?_) (fun c_39 => ?_)
      · have t_39 : ((i : Nat) : Int) ≥ (((R + Gq) : Nat) : Int) := toI_ge c_39 (nI_toInt (by omega)) (nI_toInt (by omega))
        refine lv_aload_n hx hb dX12_pivotsQuick_205 rfl (lv_at hl 0 rfl) ?_
        refine va_get (D := (dC, dI)) (ci := 12) (v := .int (vi 6)) (C := RX12) (T := TX12) (N := 163) (fs := fM (vS a vi vj)) hx hb hts iwsRX12_pivotsQuick_in12 hown hK hP 0 rfl rfl 6 (by decide) (hts (.fieldLink RX12 399 "OptimaWorksModel" "rows" "I") (by decide +kernel)) (fun _ h9 => h9) rfl dX12_pivotsQuick_206 ?_
        refine lv_topi (fun y5 hy5 => ?_)
        obtain rfl : (nI R) = y5 := (hy5.trans (hR)).symm
        refine lv_aload_n hx hb dX12_pivotsQuick_209 rfl (lv_at hl 0 rfl) ?_
        refine va_get (D := (dC, dI)) (ci := 12) (v := .int (vi 7)) (C := RX12) (T := TX12) (N := 163) (fs := fM (vS a vi vj)) hx hb hts iwsRX12_pivotsQuick_in12 hown hK hP 0 rfl rfl 7 (by decide) (hts (.fieldLink RX12 402 "OptimaWorksModel" "goals" "I") (by decide +kernel)) (fun _ h9 => h9) rfl dX12_pivotsQuick_210 ?_
        refine lv_topi (fun y6 hy6 => ?_)
        obtain rfl : (nI Gq) = y6 := (hy6.trans (hG)).symm
        refine lv_iadd hx hb dX12_pivotsQuick_213 ?_
        refine lv_topi (fun y7 hy7 => ?_)
        obtain rfl : (nI (R + Gq)) = y7 := (hy7.trans (nI_add R Gq)).symm
        refine lv_aload_n hx hb dX12_pivotsQuick_214 rfl (lv_at hl 0 rfl) ?_
        refine va_get (D := (dC, dI)) (ci := 12) (v := .int (vi 5)) (C := RX12) (T := TX12) (N := 163) (fs := fM (vS a vi vj)) hx hb hts iwsRX12_pivotsQuick_in12 hown hK hP 0 rfl rfl 5 (by decide) (hts (.fieldLink RX12 396 "OptimaWorksModel" "columns" "I") (by decide +kernel)) (fun _ h9 => h9) rfl dX12_pivotsQuick_215 ?_
        refine lv_topi (fun y8 hy8 => ?_)
        obtain rfl : (nI C) = y8 := (hy8.trans (hC)).symm
        refine lv_iconst (v := 1) hx hb dX12_pivotsQuick_218 (by decide) ?_
        refine lv_iadd hx hb dX12_pivotsQuick_219 ?_
        refine lv_topi (fun y9 hy9 => ?_)
        obtain rfl : (nI (C + 1)) = y9 := (hy9.trans (nI_add C 1)).symm
        refine lv_imul hx hb dX12_pivotsQuick_220 ?_
        refine lv_topi (fun y10 hy10 => ?_)
        obtain rfl : (nI ((R + Gq) * (C + 1))) = y10 := (hy10.trans (pk_mul (R + Gq) (C + 1))).symm
        refine lv_istore hx hb dX12_pivotsQuick_221 hl (by decide) rfl (fun ls (hl : lv_has ls _ ([(6, .int (nI ((R + Gq) * (C + 1)))), (0, .ref h0), (1, .int (nI rn)), (2, .int (nI cn)), (3, .long ((vG 7) (rn * (C + 1) + cn))), (5, .int 1)])) => ?_)
        refine lv_iconst (v := 0) hx hb dX12_pivotsQuick_223 (by decide) ?_
        refine lv_istore hx hb dX12_pivotsQuick_224 hl (by decide) rfl (fun ls (hl : lv_has ls _ ([(7, .int 0), (6, .int (nI ((R + Gq) * (C + 1)))), (0, .ref h0), (1, .int (nI rn)), (2, .int (nI cn)), (3, .long ((vG 7) (rn * (C + 1) + cn))), (5, .int 1)])) => ?_)
        have e9 : fT (fT vG 8 L8) 7 (vG 7) = fT vG 8 L8 := by funext q9; by_cases h9_8 : q9 = 8; (subst h9_8; exact ((fT_ne _ _ (Nat.ne_of_beq_eq_false rfl)).trans (fT_eq _ _ _)).trans (Eq.trans (by first | rfl | assumption | (symm; assumption) | (subst_vars; rfl)) (fT_eq _ _ _).symm)); by_cases h9_7 : q9 = 7; (subst h9_7; exact (fT_eq _ _ _).trans (Eq.trans (by first | rfl | assumption | (symm; assumption) | (subst_vars; rfl)) (fT_ne _ _ (Nat.ne_of_beq_eq_false rfl)).symm)); exact ((fT_ne _ _ h9_7).trans (fT_ne _ _ h9_8)).trans (fT_ne _ _ h9_8).symm
        have hP : va_P (dC, dI) vwCl (WR a k h0 vi vj vF (fT (fT vG 8 L8) 7 (vG 7))) H := by rw [e9]; exact hP
        have hD : va_D A (WR a k h0 vi vj vF (fT (fT vG 8 L8) 7 (vG 7))) := by rw [e9]; exact hD
        clear e9
        have hl : lv_has _ _ ([(0, .ref h0), (1, .int (nI rn)), (2, .int (nI cn)), (3, .long ((vG 7) (rn * (C + 1) + cn))), (5, .int 1), (7, .int (nI 0)), (6, .int (nI ((R + Gq) * (C + 1))))]) := lv_sub hl [2, 3, 4, 5, 6, 0, 1] rfl
        refine (fun (loop : ∀ (n9 : Nat) (k2 : Nat) (F : Nat → Int64) (H : Heap) (locs : List Loc) (ls : Array Slot), (k2 ≤ (R + Gq) * (C + 1)) → (∀ p, p < k2 → F p = L8 p) →  ((R + Gq) * (C + 1) < k2 + n9) → va_P (dC, dI) vwCl (WR a k h0 vi vj vF (fT (fT vG 8 L8) 7 F)) H → va_D A (WR a k h0 vi vj vF (fT (fT vG 8 L8) 7 F)) → va_S A s.heap H locs → lv_has ls 12 [(0, .ref h0), (1, .int (nI rn)), (2, .int (nI cn)), (3, .long ((vG 7) (rn * (C + 1) + cn))), (5, .int 1), (7, .int (nI k2)), (6, .int (nI ((R + Gq) * (C + 1))))] → W p l e _ s m _ below meth c H locs 0 0 _ (F0 m 226 ls [])) => loop ((R + Gq) * (C + 1) + 1) 0 (vG 7) _ _ _ (by omega) (fun p hp => absurd hp (by omega)) (by omega) hP hD hS hl) ?_
        intro n9
        induction n9 with
        | zero => intro k2 F H locs ls hk2 hF hf9; exact False.elim (by omega)
        | succ n9 ih226_1 =>
          intro k2 F H locs ls hk2 hF hf226_1 hP hD hS hl
          refine lv_iload hx hb dX12_pivotsQuick_226 (lv_at hl 5 rfl) ?_
          refine lv_iload hx hb dX12_pivotsQuick_228 (lv_at hl 6 rfl) ?_
          refine lv_icmp_ge (tgt := 253) hx hb dX12_pivotsQuick_230 (by decide) (fun c_230 => ?_) (fun c_230 => ?_)
          · have t_230 : ((k2 : Nat) : Int) ≥ ((((R + Gq) * (C + 1)) : Nat) : Int) := toI_ge c_230 (nI_toInt (by omega)) (nI_toInt (by omega))
            refine lv_aload_n hx hb dX12_pivotsQuick_253 rfl (lv_at hl 0 rfl) ?_
            refine lv_iload hx hb dX12_pivotsQuick_254 (lv_at hl 4 rfl) ?_
            refine lv_i2l hx hb dX12_pivotsQuick_256 rfl ?_
            refine lv_topl (fun y11 hy11 => ?_)
            obtain rfl : 1 = y11 := (hy11.trans (by decide)).symm
            refine lv_lload_n hx hb dX12_pivotsQuick_257 rfl (lv_at hl 3 rfl) ?_
            refine lv_lmul hx hb dX12_pivotsQuick_258 ?_
            refine va_put (D := (dC, dI)) (ci := 12) (v := .long (1 * ((vG 7) (rn * (C + 1) + cn)))) (ty := .long) (C := RX12) (T := TX12) (N := 163) (fs := fM (vS a vi vj)) hx hb hts iwsRX12_pivotsQuick_in12 tyX12 tyX12_ok nmX12 hown hK hP hD hS 0 rfl rfl 12 (by decide) (hts (.fieldLink RX12 426 "OptimaWorksModel" "quickDivisor" "J") (by decide +kernel)) (fun _ h9 => h9) rfl (by decide +kernel) rfl rfl (Nat.le_of_ble_eq_true rfl) dX12_pivotsQuick_259 (fun H locs hP hD hS => ?_)
            have hP : va_P (dC, dI) vwCl (WR a k h0 vi (fT vj 12 (1 * ((vG 7) (rn * (C + 1) + cn)))) vF (fT (fT vG 8 L8) 7 F)) H := by rw [← WR_l 12 _ rfl]; exact hP
            have hD : va_D A (WR a k h0 vi (fT vj 12 (1 * ((vG 7) (rn * (C + 1) + cn)))) vF (fT (fT vG 8 L8) 7 F)) := by rw [← WR_l 12 _ rfl]; exact hD
            refine lv_aload_n hx hb dX12_pivotsQuick_262 rfl (lv_at hl 0 rfl) ?_
            refine lv_iload_n hx hb dX12_pivotsQuick_263 rfl (lv_at hl 1 rfl) ?_
            refine lv_iload_n hx hb dX12_pivotsQuick_264 rfl (lv_at hl 2 rfl) ?_
            have hFc := allFree hD hS hA
            refine va_callv (va_runV (As := [.int (nI rn), .int (nI cn)]) (rest := []) ⟨hx, hb, hml, hown, hts⟩ (r_X12_exchange l dC dI a k h0 vi (fT vj 12 (1 * ((vG 7) (rn * (C + 1) + cn)))) vF (fT (fT vG 8 L8) 7 F) rn cn (by first | assumption | decide | omega | rfl) (by first | assumption | decide | omega | rfl) H.size) (cwV 2 hts gwsRX12_pivotsQuick_1 rfl rfl rfl (by decide +kernel) ⟨by decide +kernel, by decide +kernel⟩) ⟨fun a U g mk q => by obtain ⟨q0, q1, qP, qK, qD⟩ := q; exact ⟨q0, q1, qP, va_K.moved (u := U) (U := U.calling g mk a) (Vm.Alike.refl U.vm) qK, qD⟩, va_recv hK hP (ci := 12) (q0 := 0) rfl rfl, fun U hU9 hW => ⟨rfl, by rw [hU9], by rw [hU9]; exact hP, va_K.moved hW.alike hK, hD.weaken (fun _ _ _ _ => trivial)⟩⟩ rfl rfl hl.1 rfl (lv_room (Nat.le_of_ble_eq_true rfl)) dX12_pivotsQuick_265 ⟨by decide +kernel, by decide +kernel⟩) hS (fun q _ h => hFc q h) hFc (fun u t9_ H1 locs ht hvm hw9 hB9 hz1 hk1 hS => ?_)
            obtain ⟨hP1, hD1⟩ := hB9
            rw [ht] at hP1
            have hP := hP1
            have hD := hD1.weaken (fun _ q _ h => hFc q.1 h)
            generalize H1 = H at hP hS ⊢
            have hP : va_P (dC, dI) vwCl (WR a k h0 vi (fT vj 12 (1 * ((vG 7) (rn * (C + 1) + cn)))) (fT (fT vF 4 (upd (vF 4) (nI cn).toNatClampNeg ((vF 5) rn))) 5 (upd (vF 5) (nI rn).toNatClampNeg ((vF 4) cn))) (fT (fT vG 8 L8) 7 F)) H := hP
            have hD : va_D A (WR a k h0 vi (fT vj 12 (1 * ((vG 7) (rn * (C + 1) + cn)))) (fT (fT vF 4 (upd (vF 4) (nI cn).toNatClampNeg ((vF 5) rn))) 5 (upd (vF 5) (nI rn).toNatClampNeg ((vF 4) cn))) (fT (fT vG 8 L8) 7 F)) := hD
            refine lv_iconst (v := 1) hx hb dX12_pivotsQuick_268 (by decide) ?_
            refine W.widen (k := 0) (n := 0) (by decide +kernel) (by decide +kernel) ?_
            exact W.zret (v := 1) hx hb hr rfl (fun t9_ ht hW => ⟨⟨1, ((1 * ((vG 7) (rn * (C + 1) + cn))), F, L8, (upd (vF 4) (nI cn).toNatClampNeg ((vF 5) rn)), (upd (vF 5) (nI rn).toNatClampNeg ((vF 4) cn))), rfl, by (try dsimp only); exact Or.inr ⟨rfl, ⟨fun p hp => by rw [hF p (by omega)]; exact hbq p (by rw [show i = R + Gq by omega]; exact hp), fun i2 hi2 j2 hj2 => by (have h9 := pl_lt hi2 hj2); rw [hF _ (by omega)]; exact hv i2 j2 hi2 hj2 (by rw [show i = R + Gq by omega]; exact h9), by (have bp := hQ.1 (rn * (C + 1) + cn) (pl_lt (by omega) (by omega))); (have ep := hQ.2.1 rn (by omega) cn (by omega)); rw [one64, sgI_p (x := t rn cn) (by omega), ep]; omega, by (have bp := hQ.1 (rn * (C + 1) + cn) (pl_lt (by omega) (by omega))); (have ep := hQ.2.1 rn (by omega) cn (by omega)); rw [sgI_p (x := t rn cn) (by omega)]; omega⟩, rfl, rfl⟩, by rw [ht]; exact hP, hD⟩, hS.F ht⟩) hS.2.2 dX12_pivotsQuick_269
          · have t_230 : ¬ ((k2 : Nat) : Int) ≥ ((((R + Gq) * (C + 1)) : Nat) : Int) := toI_nge c_230 (nI_toInt (by omega)) (nI_toInt (by omega))
            refine lv_aload_n hx hb dX12_pivotsQuick_233 rfl (lv_at hl 0 rfl) ?_
            refine va_get (D := (dC, dI)) (ci := 12) (v := .ref (a 7)) (C := RX12) (T := TX12) (N := 163) (fs := fM (vS a vi vj)) hx hb hts iwsRX12_pivotsQuick_in12 hown hK hP 0 rfl rfl 13 (by decide) (hts (.fieldLink RX12 33 "OptimaWorksModel" "fast" "[J") (by decide +kernel)) (fun _ h9 => h9) rfl dX12_pivotsQuick_234 ?_
            refine lv_iload hx hb dX12_pivotsQuick_237 (lv_at hl 5 rfl) ?_
            refine lv_aload_n hx hb dX12_pivotsQuick_239 rfl (lv_at hl 0 rfl) ?_
            refine va_get (D := (dC, dI)) (ci := 12) (v := .ref (a 8)) (C := RX12) (T := TX12) (N := 163) (fs := fM (vS a vi vj)) hx hb hts iwsRX12_pivotsQuick_in12 hown hK hP 0 rfl rfl 14 (by decide) (hts (.fieldLink RX12 36 "OptimaWorksModel" "later" "[J") (by decide +kernel)) (fun _ h9 => h9) rfl dX12_pivotsQuick_240 ?_
            refine lv_iload hx hb dX12_pivotsQuick_243 (lv_at hl 5 rfl) ?_
            refine va_lald (cA := k 8) (n := 1000) (f := L8) hx hb hK hP 9 8 (WR_get 8 (by decide)) (TR_get 8 (by decide)) (vp_in_nI (show k2 < 1000 by omega) (by omega)) dX12_pivotsQuick_245 ?_
            refine lv_topl (fun y12 hy12 => ?_)
            obtain rfl : (L8 k2) = y12 := (hy12.trans (by rw [nI_clamp (by omega)])).symm
            refine va_last (cA := k 7) (n := 1000) (f := F) hx hb hK hP hD hS 8 7 (WR_get 7 (by decide)) (TR_get 7 (by decide)) (vp_in_nI (show k2 < 1000 by omega) (by omega)) dX12_pivotsQuick_246 (fun H locs hP hD hS => ?_)
            have e9 : fT (fT vG 8 L8) 7 (vp_updL F ((nI k2)).toNatClampNeg (L8 k2)) = fT (fT (fT vG 8 L8) 7 F) 7 (vp_updL F ((nI k2)).toNatClampNeg (L8 k2)) := (fT_sm _ _ _ _).symm
            have hP : va_P (dC, dI) vwCl (WR a k h0 vi vj vF (fT (fT vG 8 L8) 7 (vp_updL F ((nI k2)).toNatClampNeg (L8 k2)))) H := by rw [e9, ← WR_G 7 (by decide) _ rfl]; exact hP
            have hD : va_D A (WR a k h0 vi vj vF (fT (fT vG 8 L8) 7 (vp_updL F ((nI k2)).toNatClampNeg (L8 k2)))) := by rw [e9, ← WR_G 7 (by decide) _ rfl]; exact hD
            clear e9
            refine lv_iinc (v := (nI (k2 + 1))) hx hb dX12_pivotsQuick_247 hl (k := 5) rfl (nI_add k2 1) (by decide) rfl (fun ls (hl : lv_has ls _ ([(7, .int (nI (k2 + 1))), (0, .ref h0), (1, .int (nI rn)), (2, .int (nI cn)), (3, .long ((vG 7) (rn * (C + 1) + cn))), (5, .int 1), (6, .int (nI ((R + Gq) * (C + 1))))])) => ?_)
            refine lv_goto (tgt := 226) hx hb dX12_pivotsQuick_250 (by decide) ?_
            have hl : lv_has _ _ ([(0, .ref h0), (1, .int (nI rn)), (2, .int (nI cn)), (3, .long ((vG 7) (rn * (C + 1) + cn))), (5, .int 1), (7, .int (nI (k2 + 1))), (6, .int (nI ((R + Gq) * (C + 1))))]) := lv_sub hl [1, 2, 3, 4, 5, 0, 6] rfl
            exact ih226_1 (k2 + 1) (vp_updL F ((nI k2)).toNatClampNeg (L8 k2)) _ _ _ (by omega) (fun p hp => by rw [updL_at (by omega)]; by_cases e9 : p = k2; (rw [if_pos e9, e9]); (rw [if_neg e9]; exact hF p (by omega))) (by omega) hP hD hS hl
      · have t_39 : ¬ ((i : Nat) : Int) ≥ (((R + Gq) : Nat) : Int) := toI_nge c_39 (nI_toInt (by omega)) (nI_toInt (by omega))
        refine lv_iconst (v := 0) hx hb dX12_pivotsQuick_42 (by decide) ?_
        refine lv_istore hx hb dX12_pivotsQuick_43 hl (by decide) rfl (fun ls (hl : lv_has ls _ ([(7, .int 0), (0, .ref h0), (1, .int (nI rn)), (2, .int (nI cn)), (3, .long ((vG 7) (rn * (C + 1) + cn))), (5, .int 1), (6, .int (nI i))])) => ?_)
        have hl : lv_has _ _ ([(0, .ref h0), (1, .int (nI rn)), (2, .int (nI cn)), (3, .long ((vG 7) (rn * (C + 1) + cn))), (5, .int 1), (6, .int (nI i)), (7, .int (nI 0))]) := lv_sub hl [1, 2, 3, 4, 5, 6, 0] rfl
        refine (fun (loop : ∀ (n9 : Nat) (j : Nat) (L8 : Nat → Int64) (H : Heap) (locs : List Loc) (ls : Array Slot), (j ≤ C + 1) → (∀ p, p < i * (C + 1) + j → -2147483648 < (L8 p).toInt ∧ (L8 p).toInt < 2147483648) → (∀ i2 j2, i2 < R + Gq → j2 ≤ C → i2 * (C + 1) + j2 < i * (C + 1) + j → (L8 (i2 * (C + 1) + j2)).toInt = nvT rn cn (sgI (t rn cn)) t D i2 j2) →  (C + 1 < j + n9) → va_P (dC, dI) vwCl (WR a k h0 vi vj vF (fT vG 8 L8)) H → va_D A (WR a k h0 vi vj vF (fT vG 8 L8)) → va_S A s.heap H locs → lv_has ls 12 [(0, .ref h0), (1, .int (nI rn)), (2, .int (nI cn)), (3, .long ((vG 7) (rn * (C + 1) + cn))), (5, .int 1), (6, .int (nI i)), (7, .int (nI j))] → W p l e _ s m _ below meth c H locs 0 0 _ (F0 m 45 ls [])) => loop (C + 2) 0 L8 _ _ _ (by omega) (hbq) (hv) (by omega) hP hD hS hl) ?_
        intro n9
        induction n9 with
        | zero => intro j L8 H locs ls hj hb2 hv2 hf9; exact False.elim (by omega)
        | succ n9 ih45_2 =>
          intro j L8 H locs ls hj hb2 hv2 hf45_2 hP hD hS hl
          refine lv_iload hx hb dX12_pivotsQuick_45 (lv_at hl 6 rfl) ?_
          refine lv_aload_n hx hb dX12_pivotsQuick_47 rfl (lv_at hl 0 rfl) ?_
          refine va_get (D := (dC, dI)) (ci := 12) (v := .int (vi 5)) (C := RX12) (T := TX12) (N := 163) (fs := fM (vS a vi vj)) hx hb hts iwsRX12_pivotsQuick_in12 hown hK hP 0 rfl rfl 5 (by decide) (hts (.fieldLink RX12 396 "OptimaWorksModel" "columns" "I") (by decide +kernel)) (fun _ h9 => h9) rfl dX12_pivotsQuick_48 ?_
          refine lv_topi (fun y13 hy13 => ?_)
          obtain rfl : (nI C) = y13 := (hy13.trans (hC)).symm
          refine lv_icmp_gt (tgt := 199) hx hb dX12_pivotsQuick_51 (by decide) (fun c_51 => ?_) (fun c_51 => ?_)
          · have t_51 : ((j : Nat) : Int) > ((C : Nat) : Int) := toI_gt c_51 (nI_toInt (by omega)) (nI_toInt (by omega))
            refine lv_iinc (v := (nI (i + 1))) hx hb dX12_pivotsQuick_199 hl (k := 5) rfl (nI_add i 1) (by decide) rfl (fun ls (hl : lv_has ls _ ([(6, .int (nI (i + 1))), (0, .ref h0), (1, .int (nI rn)), (2, .int (nI cn)), (3, .long ((vG 7) (rn * (C + 1) + cn))), (5, .int 1), (7, .int (nI j))])) => ?_)
            refine lv_goto (tgt := 28) hx hb dX12_pivotsQuick_202 (by decide) ?_
            have hl : lv_has _ _ ([(0, .ref h0), (1, .int (nI rn)), (2, .int (nI cn)), (3, .long ((vG 7) (rn * (C + 1) + cn))), (5, .int 1), (6, .int (nI (i + 1)))]) := lv_sub hl [1, 2, 3, 4, 5, 0] rfl
            exact ih28 (i + 1) L8 _ _ _ (by omega) (by (have e9 : (i + 1) * (C + 1) = i * (C + 1) + j := by rw [Nat.succ_mul]; omega); rw [e9]; exact hb2) (by (have e9 : (i + 1) * (C + 1) = i * (C + 1) + j := by rw [Nat.succ_mul]; omega); rw [e9]; exact hv2) (by omega) hP hD hS hl
          · have t_51 : ¬ ((j : Nat) : Int) > ((C : Nat) : Int) := toI_ngt c_51 (nI_toInt (by omega)) (nI_toInt (by omega))
            have hij9 := pl_lt (C := C) (show i < R + Gq by omega) (show j ≤ C by omega)
            refine lv_aload_n hx hb dX12_pivotsQuick_54 rfl (lv_at hl 0 rfl) ?_
            refine va_get (D := (dC, dI)) (ci := 12) (v := .ref (a 7)) (C := RX12) (T := TX12) (N := 163) (fs := fM (vS a vi vj)) hx hb hts iwsRX12_pivotsQuick_in12 hown hK hP 0 rfl rfl 13 (by decide) (hts (.fieldLink RX12 33 "OptimaWorksModel" "fast" "[J") (by decide +kernel)) (fun _ h9 => h9) rfl dX12_pivotsQuick_55 ?_
            refine lv_aload_n hx hb dX12_pivotsQuick_58 rfl (lv_at hl 0 rfl) ?_
            refine lv_iload hx hb dX12_pivotsQuick_59 (lv_at hl 5 rfl) ?_
            refine lv_iload hx hb dX12_pivotsQuick_61 (lv_at hl 6 rfl) ?_
            have hFc := allFree hD hS hA
            refine va_calli (va_runV (As := [.int (nI i), .int (nI j)]) (rest := [.ref (a 7)]) ⟨hx, hb, hml, hown, hts⟩ (r_X12_place1 l dC dI a k h0 vi vj vF (fT vG 8 L8) i j C (by first | assumption | decide | omega | rfl) H.size) (cwV 2 hts gwsRX12_pivotsQuick_0 rfl rfl rfl (by decide +kernel) ⟨by decide +kernel, by decide +kernel⟩) ⟨fun a U g mk q => by obtain ⟨q0, q1, qP, qK, qD⟩ := q; exact ⟨q0, q1, qP, va_K.moved (u := U) (U := U.calling g mk a) (Vm.Alike.refl U.vm) qK, qD⟩, va_recv hK hP (ci := 12) (q0 := 0) rfl rfl, fun U hU9 hW => ⟨rfl, by rw [hU9], by rw [hU9]; exact hP, va_K.moved hW.alike hK, hD.weaken (fun _ _ _ _ => trivial)⟩⟩ rfl rfl hl.1 rfl (lv_room (Nat.le_of_ble_eq_true rfl)) dX12_pivotsQuick_63 ⟨by decide +kernel, by decide +kernel⟩) hS (fun q _ h => hFc q h) hFc (fun r63 u t9_ H1 locs ht hvm hw9 hB9 hz1 hk1 hS => ?_)
            obtain ⟨hP1, hD1⟩ := hB9
            rw [ht] at hP1
            have hP := hP1
            have hD := hD1.weaken (fun _ q _ h => hFc q.1 h)
            generalize H1 = H at hP hS ⊢
            have hP : va_P (dC, dI) vwCl (WR a k h0 vi vj vF (fT vG 8 L8)) H := hP
            have hD : va_D A (WR a k h0 vi vj vF (fT vG 8 L8)) := hD
            obtain rfl := hw9
            refine va_lald (cA := k 7) (n := 1000) (f := (vG 7)) hx hb hK hP 8 7 (WR_get 7 (by decide)) (TR_get 7 (by decide)) (vp_in_nI (show (i * (C + 1) + j) < 1000 by omega) (by omega)) dX12_pivotsQuick_66 ?_
            refine lv_topl (fun y14 hy14 => ?_)
            obtain rfl : ((vG 7) (i * (C + 1) + j)) = y14 := (hy14.trans (by rw [nI_clamp (by omega)])).symm
            refine lv_lstore hx hb dX12_pivotsQuick_67 hl (by decide) rfl (fun ls (hl : lv_has ls _ ([(8, .long ((vG 7) (i * (C + 1) + j))), (0, .ref h0), (1, .int (nI rn)), (2, .int (nI cn)), (3, .long ((vG 7) (rn * (C + 1) + cn))), (5, .int 1), (6, .int (nI i)), (7, .int (nI j))])) => ?_)
            refine lv_iload hx hb dX12_pivotsQuick_69 (lv_at hl 6 rfl) ?_
            refine lv_iload_n hx hb dX12_pivotsQuick_71 rfl (lv_at hl 2 rfl) ?_
            refine lv_icmp_ne (tgt := 101) hx hb dX12_pivotsQuick_72 (by decide) (fun c_72 => ?_) (fun c_72 => ?_)
            · have t_72 : ((i : Nat) : Int) ≠ ((rn : Nat) : Int) := toI_ne c_72 (nI_toInt (by omega)) (nI_toInt (by omega))
              refine lv_iload hx hb dX12_pivotsQuick_101 (lv_at hl 7 rfl) ?_
              refine lv_iload_n hx hb dX12_pivotsQuick_103 rfl (lv_at hl 3 rfl) ?_
              refine lv_icmp_ne (tgt := 117) hx hb dX12_pivotsQuick_104 (by decide) (fun c_104 => ?_) (fun c_104 => ?_)
              · have t_104 : ((j : Nat) : Int) ≠ ((cn : Nat) : Int) := toI_ne c_104 (nI_toInt (by omega)) (nI_toInt (by omega))
                have hy9 := pl_lt (C := C) (show i < R + Gq by omega) (show cn ≤ C by omega)
                have hz9 := pl_lt (C := C) (show rn < R + Gq by omega) (show j ≤ C by omega)
                refine lv_iload hx hb dX12_pivotsQuick_117 (lv_at hl 5 rfl) ?_
                refine lv_i2l hx hb dX12_pivotsQuick_119 rfl ?_
                refine lv_topl (fun y15 hy15 => ?_)
                obtain rfl : 1 = y15 := (hy15.trans (by decide)).symm
                refine lv_lload hx hb dX12_pivotsQuick_120 (lv_at hl 0 rfl) ?_
                refine lv_lload_n hx hb dX12_pivotsQuick_122 rfl (lv_at hl 4 rfl) ?_
                refine lv_lmul hx hb dX12_pivotsQuick_123 ?_
                refine lv_aload_n hx hb dX12_pivotsQuick_124 rfl (lv_at hl 1 rfl) ?_
                refine va_get (D := (dC, dI)) (ci := 12) (v := .ref (a 7)) (C := RX12) (T := TX12) (N := 163) (fs := fM (vS a vi vj)) hx hb hts iwsRX12_pivotsQuick_in12 hown hK hP 0 rfl rfl 13 (by decide) (hts (.fieldLink RX12 33 "OptimaWorksModel" "fast" "[J") (by decide +kernel)) (fun _ h9 => h9) rfl dX12_pivotsQuick_125 ?_
                refine lv_aload_n hx hb dX12_pivotsQuick_128 rfl (lv_at hl 1 rfl) ?_
                refine lv_iload hx hb dX12_pivotsQuick_129 (lv_at hl 6 rfl) ?_
                refine lv_iload_n hx hb dX12_pivotsQuick_131 rfl (lv_at hl 3 rfl) ?_
                have hFc := allFree hD hS hA
                refine va_calli (va_runV (As := [.int (nI i), .int (nI cn)]) (rest := [.ref (a 7), .long (((vG 7) (i * (C + 1) + j)) * ((vG 7) (rn * (C + 1) + cn))), .long 1]) ⟨hx, hb, hml, hown, hts⟩ (r_X12_place1 l dC dI a k h0 vi vj vF (fT vG 8 L8) i cn C (by first | assumption | decide | omega | rfl) H.size) (cwV 2 hts gwsRX12_pivotsQuick_0 rfl rfl rfl (by decide +kernel) ⟨by decide +kernel, by decide +kernel⟩) ⟨fun a U g mk q => by obtain ⟨q0, q1, qP, qK, qD⟩ := q; exact ⟨q0, q1, qP, va_K.moved (u := U) (U := U.calling g mk a) (Vm.Alike.refl U.vm) qK, qD⟩, va_recv hK hP (ci := 12) (q0 := 0) rfl rfl, fun U hU9 hW => ⟨rfl, by rw [hU9], by rw [hU9]; exact hP, va_K.moved hW.alike hK, hD.weaken (fun _ _ _ _ => trivial)⟩⟩ rfl rfl hl.1 rfl (lv_room (Nat.le_of_ble_eq_true rfl)) dX12_pivotsQuick_132 ⟨by decide +kernel, by decide +kernel⟩) hS (fun q _ h => hFc q h) hFc (fun r132 u t9_ H1 locs ht hvm hw9 hB9 hz1 hk1 hS => ?_)
                obtain ⟨hP1, hD1⟩ := hB9
                rw [ht] at hP1
                have hP := hP1
                have hD := hD1.weaken (fun _ q _ h => hFc q.1 h)
                generalize H1 = H at hP hS ⊢
                have hP : va_P (dC, dI) vwCl (WR a k h0 vi vj vF (fT vG 8 L8)) H := hP
                have hD : va_D A (WR a k h0 vi vj vF (fT vG 8 L8)) := hD
                obtain rfl := hw9
                refine va_lald (cA := k 7) (n := 1000) (f := (vG 7)) hx hb hK hP 8 7 (WR_get 7 (by decide)) (TR_get 7 (by decide)) (vp_in_nI (show (i * (C + 1) + cn) < 1000 by omega) (by omega)) dX12_pivotsQuick_135 ?_
                refine lv_topl (fun y16 hy16 => ?_)
                obtain rfl : ((vG 7) (i * (C + 1) + cn)) = y16 := (hy16.trans (by rw [nI_clamp (by omega)])).symm
                refine lv_aload_n hx hb dX12_pivotsQuick_136 rfl (lv_at hl 1 rfl) ?_
                refine va_get (D := (dC, dI)) (ci := 12) (v := .ref (a 7)) (C := RX12) (T := TX12) (N := 163) (fs := fM (vS a vi vj)) hx hb hts iwsRX12_pivotsQuick_in12 hown hK hP 0 rfl rfl 13 (by decide) (hts (.fieldLink RX12 33 "OptimaWorksModel" "fast" "[J") (by decide +kernel)) (fun _ h9 => h9) rfl dX12_pivotsQuick_137 ?_
                refine lv_aload_n hx hb dX12_pivotsQuick_140 rfl (lv_at hl 1 rfl) ?_
                refine lv_iload_n hx hb dX12_pivotsQuick_141 rfl (lv_at hl 2 rfl) ?_
                refine lv_iload hx hb dX12_pivotsQuick_142 (lv_at hl 7 rfl) ?_
                have hFc := allFree hD hS hA
                refine va_calli (va_runV (As := [.int (nI rn), .int (nI j)]) (rest := [.ref (a 7), .long ((vG 7) (i * (C + 1) + cn)), .long (((vG 7) (i * (C + 1) + j)) * ((vG 7) (rn * (C + 1) + cn))), .long 1]) ⟨hx, hb, hml, hown, hts⟩ (r_X12_place1 l dC dI a k h0 vi vj vF (fT vG 8 L8) rn j C (by first | assumption | decide | omega | rfl) H.size) (cwV 2 hts gwsRX12_pivotsQuick_0 rfl rfl rfl (by decide +kernel) ⟨by decide +kernel, by decide +kernel⟩) ⟨fun a U g mk q => by obtain ⟨q0, q1, qP, qK, qD⟩ := q; exact ⟨q0, q1, qP, va_K.moved (u := U) (U := U.calling g mk a) (Vm.Alike.refl U.vm) qK, qD⟩, va_recv hK hP (ci := 12) (q0 := 0) rfl rfl, fun U hU9 hW => ⟨rfl, by rw [hU9], by rw [hU9]; exact hP, va_K.moved hW.alike hK, hD.weaken (fun _ _ _ _ => trivial)⟩⟩ rfl rfl hl.1 rfl (lv_room (Nat.le_of_ble_eq_true rfl)) dX12_pivotsQuick_144 ⟨by decide +kernel, by decide +kernel⟩) hS (fun q _ h => hFc q h) hFc (fun r144 u t9_ H1 locs ht hvm hw9 hB9 hz1 hk1 hS => ?_)
                obtain ⟨hP1, hD1⟩ := hB9
                rw [ht] at hP1
                have hP := hP1
                have hD := hD1.weaken (fun _ q _ h => hFc q.1 h)
                generalize H1 = H at hP hS ⊢
                have hP : va_P (dC, dI) vwCl (WR a k h0 vi vj vF (fT vG 8 L8)) H := hP
                have hD : va_D A (WR a k h0 vi vj vF (fT vG 8 L8)) := hD
                obtain rfl := hw9
                refine va_lald (cA := k 7) (n := 1000) (f := (vG 7)) hx hb hK hP 8 7 (WR_get 7 (by decide)) (TR_get 7 (by decide)) (vp_in_nI (show (rn * (C + 1) + j) < 1000 by omega) (by omega)) dX12_pivotsQuick_147 ?_
                refine lv_topl (fun y17 hy17 => ?_)
                obtain rfl : ((vG 7) (rn * (C + 1) + j)) = y17 := (hy17.trans (by rw [nI_clamp (by omega)])).symm
                refine lv_lmul hx hb dX12_pivotsQuick_148 ?_
                refine lv_lsub hx hb dX12_pivotsQuick_149 ?_
                refine lv_aload_n hx hb dX12_pivotsQuick_150 rfl (lv_at hl 1 rfl) ?_
                refine va_get (D := (dC, dI)) (ci := 12) (v := .long (vj 12)) (C := RX12) (T := TX12) (N := 163) (fs := fM (vS a vi vj)) hx hb hts iwsRX12_pivotsQuick_in12 hown hK hP 0 rfl rfl 12 (by decide) (hts (.fieldLink RX12 426 "OptimaWorksModel" "quickDivisor" "J") (by decide +kernel)) (fun _ h9 => h9) rfl dX12_pivotsQuick_151 ?_
                refine lv_ldiv hx hb dX12_pivotsQuick_154 (by exact ne0_64 (by rw [hQ.2.2.1]; exact hDp)) ?_
                refine lv_lmul hx hb dX12_pivotsQuick_155 ?_
                have hij := pl_lt (C := C) (show i < R + Gq by omega) (show j ≤ C by omega)
                have bx := hQ.1 (i * (C + 1) + j) hij
                have ex := hQ.2.1 i (by omega) j (by omega)
                have gx := sgI_p (x := t rn cn) (by omega)
                have bp := hQ.1 (rn * (C + 1) + cn) (pl_lt (by omega) (by omega))
                have ep := hQ.2.1 rn (by omega) cn (by omega)
                have by9 := hQ.1 (i * (C + 1) + cn) (pl_lt (by omega) (by omega))
                have ey := hQ.2.1 i (by omega) cn (by omega)
                have bz := hQ.1 (rn * (C + 1) + j) (pl_lt (by omega) (by omega))
                have ez := hQ.2.1 rn (by omega) j (by omega)
                have q1 := mulQ bx bp
                have q2 := mulQ by9 bz
                have q3 : (vG 7 (i * (C + 1) + j) * vG 7 (rn * (C + 1) + cn) - vG 7 (i * (C + 1) + cn) * vG 7 (rn * (C + 1) + j)).toInt = (vG 7 (i * (C + 1) + j)).toInt * (vG 7 (rn * (C + 1) + cn)).toInt - (vG 7 (i * (C + 1) + cn)).toInt * (vG 7 (rn * (C + 1) + j)).toInt := by rw [sub64 (by omega) (by omega), q1.1, q2.1]
                have q4 := div64 (x := (vG 7 (i * (C + 1) + j) * vG 7 (rn * (C + 1) + cn) - vG 7 (i * (C + 1) + cn) * vG 7 (rn * (C + 1) + j))) (y := vj 12) (by omega) (by rw [hQ.2.2.1]; exact hDp)
                have ev : ((1 * (((((vG 7) (i * (C + 1) + j)) * ((vG 7) (rn * (C + 1) + cn))) - (((vG 7) (i * (C + 1) + cn)) * ((vG 7) (rn * (C + 1) + j)))) / (vj 12)))).toInt = nvT rn cn (sgI (t rn cn)) t D i j := by rw [nv_in _ _ _ _ _ (by omega) (by omega), gx, one64, q4.1, q3, hQ.2.2.1, ex, ep, ey, ez, Int.sub_eq_add_neg, Int.neg_mul, Int.one_mul]; rw [Int.one_mul]
                obtain ⟨vv, hvv⟩ : ∃ vv, vv = ((1 * (((((vG 7) (i * (C + 1) + j)) * ((vG 7) (rn * (C + 1) + cn))) - (((vG 7) (i * (C + 1) + cn)) * ((vG 7) (rn * (C + 1) + j)))) / (vj 12))) : Int64) := ⟨_, rfl⟩
                rw [← hvv] at ev
                refine lv_topl (fun y18 hy18 => ?_)
                obtain rfl : vv = y18 := (hy18.trans (hvv.symm)).symm
                refine lv_lstore hx hb dX12_pivotsQuick_156 hl (by decide) rfl (fun ls (hl : lv_has ls _ ([(10, .long vv), (8, .long ((vG 7) (i * (C + 1) + j))), (0, .ref h0), (1, .int (nI rn)), (2, .int (nI cn)), (3, .long ((vG 7) (rn * (C + 1) + cn))), (5, .int 1), (6, .int (nI i)), (7, .int (nI j))])) => ?_)
                refine lv_lload hx hb dX12_pivotsQuick_158 (lv_at hl 0 rfl) ?_
                refine lv_ldc2 (v := 2147483648) hx hb hown (hts (.constantLong RX12 422 2147483648) (by decide +kernel)) dX12_pivotsQuick_160 ?_
                refine W.lcmp hx hb dX12_pivotsQuick_163 ?_
                refine lv_if_ge (tgt := 176) hx hb dX12_pivotsQuick_164 (by decide) (fun c_164 => ?_) (fun c_164 => ?_)
                · have t_164 : (vv).toInt ≥ 2147483648 := toL_ge c_164 rfl (by decide)
                  refine lv_iconst (v := 0) hx hb dX12_pivotsQuick_176 (by decide) ?_
                  refine W.widen (k := 0) (n := 0) (by decide +kernel) (by decide +kernel) ?_
                  have e9 : fT vj 12 (vj 12) = vj := fT_id _ _ (rfl)
                  have hP : va_P (dC, dI) vwCl (WR a k h0 vi (fT vj 12 (vj 12)) vF (fT vG 8 L8)) H := by rw [e9]; exact hP
                  have hD : va_D A (WR a k h0 vi (fT vj 12 (vj 12)) vF (fT vG 8 L8)) := by rw [e9]; exact hD
                  clear e9
                  have e9 : fT (fT vF 4 (vF 4)) 5 (vF 5) = vF := (fT_id _ _ (fT_ne _ _ (Nat.ne_of_beq_eq_false rfl))).trans (fT_id _ _ (rfl))
                  have hP : va_P (dC, dI) vwCl (WR a k h0 vi (fT vj 12 (vj 12)) (fT (fT vF 4 (vF 4)) 5 (vF 5)) (fT vG 8 L8)) H := by rw [e9]; exact hP
                  have hD : va_D A (WR a k h0 vi (fT vj 12 (vj 12)) (fT (fT vF 4 (vF 4)) 5 (vF 5)) (fT vG 8 L8)) := by rw [e9]; exact hD
                  clear e9
                  have e9 : fT (fT vG 8 L8) 7 (vG 7) = fT vG 8 L8 := fT_id _ _ (fT_ne _ _ (Nat.ne_of_beq_eq_false rfl))
                  have hP : va_P (dC, dI) vwCl (WR a k h0 vi (fT vj 12 (vj 12)) (fT (fT vF 4 (vF 4)) 5 (vF 5)) (fT (fT vG 8 L8) 7 (vG 7))) H := by rw [e9]; exact hP
                  have hD : va_D A (WR a k h0 vi (fT vj 12 (vj 12)) (fT (fT vF 4 (vF 4)) 5 (vF 5)) (fT (fT vG 8 L8) 7 (vG 7))) := by rw [e9]; exact hD
                  clear e9
                  exact W.zret (v := 0) hx hb hr rfl (fun t9_ ht hW => ⟨⟨0, ((vj 12), (vG 7), L8, (vF 4), (vF 5)), rfl, by (try dsimp only); exact Or.inl ⟨rfl, rfl, rfl, rfl, rfl⟩, by rw [ht]; exact hP, hD⟩, hS.F ht⟩) hS.2.2 dX12_pivotsQuick_177
                · have t_164 : ¬ (vv).toInt ≥ 2147483648 := toL_nge c_164 rfl (by decide)
                  refine lv_lload hx hb dX12_pivotsQuick_167 (lv_at hl 0 rfl) ?_
                  refine lv_ldc2 (v := (-2147483648)) hx hb hown (hts (.constantLong RX12 424 (-2147483648)) (by decide +kernel)) dX12_pivotsQuick_169 ?_
                  refine W.lcmp hx hb dX12_pivotsQuick_172 ?_
                  refine lv_if_gt (tgt := 178) hx hb dX12_pivotsQuick_173 (by decide) (fun c_173 => ?_) (fun c_173 => ?_)
                  · have t_173 : (vv).toInt > -2147483648 := toL_gt c_173 rfl (by decide)
                    refine lv_aload_n hx hb dX12_pivotsQuick_178 rfl (lv_at hl 2 rfl) ?_
                    refine va_get (D := (dC, dI)) (ci := 12) (v := .ref (a 8)) (C := RX12) (T := TX12) (N := 163) (fs := fM (vS a vi vj)) hx hb hts iwsRX12_pivotsQuick_in12 hown hK hP 0 rfl rfl 14 (by decide) (hts (.fieldLink RX12 36 "OptimaWorksModel" "later" "[J") (by decide +kernel)) (fun _ h9 => h9) rfl dX12_pivotsQuick_179 ?_
                    refine lv_aload_n hx hb dX12_pivotsQuick_182 rfl (lv_at hl 2 rfl) ?_
                    refine lv_iload hx hb dX12_pivotsQuick_183 (lv_at hl 7 rfl) ?_
                    refine lv_iload hx hb dX12_pivotsQuick_185 (lv_at hl 8 rfl) ?_
                    have hFc := allFree hD hS hA
                    refine va_calli (va_runV (As := [.int (nI i), .int (nI j)]) (rest := [.ref (a 8)]) ⟨hx, hb, hml, hown, hts⟩ (r_X12_place1 l dC dI a k h0 vi vj vF (fT vG 8 L8) i j C (by first | assumption | decide | omega | rfl) H.size) (cwV 2 hts gwsRX12_pivotsQuick_0 rfl rfl rfl (by decide +kernel) ⟨by decide +kernel, by decide +kernel⟩) ⟨fun a U g mk q => by obtain ⟨q0, q1, qP, qK, qD⟩ := q; exact ⟨q0, q1, qP, va_K.moved (u := U) (U := U.calling g mk a) (Vm.Alike.refl U.vm) qK, qD⟩, va_recv hK hP (ci := 12) (q0 := 0) rfl rfl, fun U hU9 hW => ⟨rfl, by rw [hU9], by rw [hU9]; exact hP, va_K.moved hW.alike hK, hD.weaken (fun _ _ _ _ => trivial)⟩⟩ rfl rfl hl.1 rfl (lv_room (Nat.le_of_ble_eq_true rfl)) dX12_pivotsQuick_187 ⟨by decide +kernel, by decide +kernel⟩) hS (fun q _ h => hFc q h) hFc (fun r187 u t9_ H1 locs ht hvm hw9 hB9 hz1 hk1 hS => ?_)
                    obtain ⟨hP1, hD1⟩ := hB9
                    rw [ht] at hP1
                    have hP := hP1
                    have hD := hD1.weaken (fun _ q _ h => hFc q.1 h)
                    generalize H1 = H at hP hS ⊢
                    have hP : va_P (dC, dI) vwCl (WR a k h0 vi vj vF (fT vG 8 L8)) H := hP
                    have hD : va_D A (WR a k h0 vi vj vF (fT vG 8 L8)) := hD
                    obtain rfl := hw9
                    refine lv_lload hx hb dX12_pivotsQuick_190 (lv_at hl 0 rfl) ?_
                    refine va_last (cA := k 8) (n := 1000) (f := L8) hx hb hK hP hD hS 9 8 (WR_get 8 (by decide)) (TR_get 8 (by decide)) (vp_in_nI (show (i * (C + 1) + j) < 1000 by omega) (by omega)) dX12_pivotsQuick_192 (fun H locs hP hD hS => ?_)
                    have e9 : fT vG 8 (vp_updL L8 ((nI (i * (C + 1) + j))).toNatClampNeg vv) = fT (fT vG 8 L8) 8 (vp_updL L8 ((nI (i * (C + 1) + j))).toNatClampNeg vv) := (fT_sm _ _ _ _).symm
                    have hP : va_P (dC, dI) vwCl (WR a k h0 vi vj vF (fT vG 8 (vp_updL L8 ((nI (i * (C + 1) + j))).toNatClampNeg vv))) H := by rw [e9, ← WR_G 8 (by decide) _ rfl]; exact hP
                    have hD : va_D A (WR a k h0 vi vj vF (fT vG 8 (vp_updL L8 ((nI (i * (C + 1) + j))).toNatClampNeg vv))) := by rw [e9, ← WR_G 8 (by decide) _ rfl]; exact hD
                    clear e9
                    refine lv_iinc (v := (nI (j + 1))) hx hb dX12_pivotsQuick_193 hl (k := 8) rfl (nI_add j 1) (by decide) rfl (fun ls (hl : lv_has ls _ ([(7, .int (nI (j + 1))), (10, .long vv), (8, .long ((vG 7) (i * (C + 1) + j))), (0, .ref h0), (1, .int (nI rn)), (2, .int (nI cn)), (3, .long ((vG 7) (rn * (C + 1) + cn))), (5, .int 1), (6, .int (nI i))])) => ?_)
                    refine lv_goto (tgt := 45) hx hb dX12_pivotsQuick_196 (by decide) ?_
                    have hl : lv_has _ _ ([(0, .ref h0), (1, .int (nI rn)), (2, .int (nI cn)), (3, .long ((vG 7) (rn * (C + 1) + cn))), (5, .int 1), (6, .int (nI i)), (7, .int (nI (j + 1)))]) := lv_sub hl [3, 4, 5, 6, 7, 8, 0] rfl
                    exact ih45_2 (j + 1) (vp_updL L8 ((nI (i * (C + 1) + j))).toNatClampNeg vv) _ _ _ (by omega) (fun p hp => by rw [updL_at (by omega)]; by_cases e9 : p = i * (C + 1) + j; (rw [if_pos e9]; omega); (rw [if_neg e9]; exact hb2 p (by omega))) (fun i2 j2 h1 h2 h3 => by rw [updL_at (by omega)]; by_cases e9 : i2 * (C + 1) + j2 = i * (C + 1) + j; (rw [if_pos e9, (pl_inj h2 (by omega) e9).1, (pl_inj h2 (by omega) e9).2]; exact ev); (rw [if_neg e9]; exact hv2 i2 j2 h1 h2 (by omega))) (by omega) hP hD hS hl
                  · have t_173 : ¬ (vv).toInt > -2147483648 := toL_ngt c_173 rfl (by decide)
                    refine lv_iconst (v := 0) hx hb dX12_pivotsQuick_176 (by decide) ?_
                    refine W.widen (k := 0) (n := 0) (by decide +kernel) (by decide +kernel) ?_
                    have e9 : fT vj 12 (vj 12) = vj := fT_id _ _ (rfl)
                    have hP : va_P (dC, dI) vwCl (WR a k h0 vi (fT vj 12 (vj 12)) vF (fT vG 8 L8)) H := by rw [e9]; exact hP
                    have hD : va_D A (WR a k h0 vi (fT vj 12 (vj 12)) vF (fT vG 8 L8)) := by rw [e9]; exact hD
                    clear e9
                    have e9 : fT (fT vF 4 (vF 4)) 5 (vF 5) = vF := (fT_id _ _ (fT_ne _ _ (Nat.ne_of_beq_eq_false rfl))).trans (fT_id _ _ (rfl))
                    have hP : va_P (dC, dI) vwCl (WR a k h0 vi (fT vj 12 (vj 12)) (fT (fT vF 4 (vF 4)) 5 (vF 5)) (fT vG 8 L8)) H := by rw [e9]; exact hP
                    have hD : va_D A (WR a k h0 vi (fT vj 12 (vj 12)) (fT (fT vF 4 (vF 4)) 5 (vF 5)) (fT vG 8 L8)) := by rw [e9]; exact hD
                    clear e9
                    have e9 : fT (fT vG 8 L8) 7 (vG 7) = fT vG 8 L8 := fT_id _ _ (fT_ne _ _ (Nat.ne_of_beq_eq_false rfl))
                    have hP : va_P (dC, dI) vwCl (WR a k h0 vi (fT vj 12 (vj 12)) (fT (fT vF 4 (vF 4)) 5 (vF 5)) (fT (fT vG 8 L8) 7 (vG 7))) H := by rw [e9]; exact hP
                    have hD : va_D A (WR a k h0 vi (fT vj 12 (vj 12)) (fT (fT vF 4 (vF 4)) 5 (vF 5)) (fT (fT vG 8 L8) 7 (vG 7))) := by rw [e9]; exact hD
                    clear e9
                    exact W.zret (v := 0) hx hb hr rfl (fun t9_ ht hW => ⟨⟨0, ((vj 12), (vG 7), L8, (vF 4), (vF 5)), rfl, by (try dsimp only); exact Or.inl ⟨rfl, rfl, rfl, rfl, rfl⟩, by rw [ht]; exact hP, hD⟩, hS.F ht⟩) hS.2.2 dX12_pivotsQuick_177
              · have t_104 : ((j : Nat) : Int) = ((cn : Nat) : Int) := toI_nne c_104 (nI_toInt (by omega)) (nI_toInt (by omega))
                refine lv_iload hx hb dX12_pivotsQuick_107 (lv_at hl 5 rfl) ?_
                refine lv_ineg hx hb dX12_pivotsQuick_109 ?_
                refine lv_i2l hx hb dX12_pivotsQuick_110 rfl ?_
                refine lv_topl (fun y19 hy19 => ?_)
                obtain rfl : (-1) = y19 := (hy19.trans (by decide)).symm
                refine lv_lload hx hb dX12_pivotsQuick_111 (lv_at hl 0 rfl) ?_
                refine lv_lmul hx hb dX12_pivotsQuick_113 ?_
                refine lv_goto (tgt := 156) hx hb dX12_pivotsQuick_114 (by decide) ?_
                have hij := pl_lt (C := C) (show i < R + Gq by omega) (show j ≤ C by omega)
                have bx := hQ.1 (i * (C + 1) + j) hij
                have ex := hQ.2.1 i (by omega) j (by omega)
                have gx := sgI_p (x := t rn cn) (by omega)
                have ej : j = cn := by omega
                have ev : (((-1) * ((vG 7) (i * (C + 1) + j)))).toInt = nvT rn cn (sgI (t rn cn)) t D i j := by (have m9 := mone64 (x := vG 7 (i * (C + 1) + j)) (by omega)); rw [ej, nv_col _ _ _ _ _ (by omega), gx]; rw [ej] at m9 ex; omega
                obtain ⟨vv, hvv⟩ : ∃ vv, vv = (((-1) * ((vG 7) (i * (C + 1) + j))) : Int64) := ⟨_, rfl⟩
                rw [← hvv] at ev
                refine lv_topl (fun y20 hy20 => ?_)
                obtain rfl : vv = y20 := (hy20.trans (hvv.symm)).symm
                refine lv_lstore hx hb dX12_pivotsQuick_156 hl (by decide) rfl (fun ls (hl : lv_has ls _ ([(10, .long vv), (8, .long ((vG 7) (i * (C + 1) + j))), (0, .ref h0), (1, .int (nI rn)), (2, .int (nI cn)), (3, .long ((vG 7) (rn * (C + 1) + cn))), (5, .int 1), (6, .int (nI i)), (7, .int (nI j))])) => ?_)
                refine lv_lload hx hb dX12_pivotsQuick_158 (lv_at hl 0 rfl) ?_
                refine lv_ldc2 (v := 2147483648) hx hb hown (hts (.constantLong RX12 422 2147483648) (by decide +kernel)) dX12_pivotsQuick_160 ?_
                refine W.lcmp hx hb dX12_pivotsQuick_163 ?_
                refine lv_if_ge (tgt := 176) hx hb dX12_pivotsQuick_164 (by decide) (fun c_164 => ?_) (fun c_164 => ?_)
                · have t_164 : (vv).toInt ≥ 2147483648 := toL_ge c_164 rfl (by decide)
                  refine lv_iconst (v := 0) hx hb dX12_pivotsQuick_176 (by decide) ?_
                  refine W.widen (k := 0) (n := 0) (by decide +kernel) (by decide +kernel) ?_
                  have e9 : fT vj 12 (vj 12) = vj := fT_id _ _ (rfl)
                  have hP : va_P (dC, dI) vwCl (WR a k h0 vi (fT vj 12 (vj 12)) vF (fT vG 8 L8)) H := by rw [e9]; exact hP
                  have hD : va_D A (WR a k h0 vi (fT vj 12 (vj 12)) vF (fT vG 8 L8)) := by rw [e9]; exact hD
                  clear e9
                  have e9 : fT (fT vF 4 (vF 4)) 5 (vF 5) = vF := (fT_id _ _ (fT_ne _ _ (Nat.ne_of_beq_eq_false rfl))).trans (fT_id _ _ (rfl))
                  have hP : va_P (dC, dI) vwCl (WR a k h0 vi (fT vj 12 (vj 12)) (fT (fT vF 4 (vF 4)) 5 (vF 5)) (fT vG 8 L8)) H := by rw [e9]; exact hP
                  have hD : va_D A (WR a k h0 vi (fT vj 12 (vj 12)) (fT (fT vF 4 (vF 4)) 5 (vF 5)) (fT vG 8 L8)) := by rw [e9]; exact hD
                  clear e9
                  have e9 : fT (fT vG 8 L8) 7 (vG 7) = fT vG 8 L8 := fT_id _ _ (fT_ne _ _ (Nat.ne_of_beq_eq_false rfl))
                  have hP : va_P (dC, dI) vwCl (WR a k h0 vi (fT vj 12 (vj 12)) (fT (fT vF 4 (vF 4)) 5 (vF 5)) (fT (fT vG 8 L8) 7 (vG 7))) H := by rw [e9]; exact hP
                  have hD : va_D A (WR a k h0 vi (fT vj 12 (vj 12)) (fT (fT vF 4 (vF 4)) 5 (vF 5)) (fT (fT vG 8 L8) 7 (vG 7))) := by rw [e9]; exact hD
                  clear e9
                  exact W.zret (v := 0) hx hb hr rfl (fun t9_ ht hW => ⟨⟨0, ((vj 12), (vG 7), L8, (vF 4), (vF 5)), rfl, by (try dsimp only); exact Or.inl ⟨rfl, rfl, rfl, rfl, rfl⟩, by rw [ht]; exact hP, hD⟩, hS.F ht⟩) hS.2.2 dX12_pivotsQuick_177
                · have t_164 : ¬ (vv).toInt ≥ 2147483648 := toL_nge c_164 rfl (by decide)
                  refine lv_lload hx hb dX12_pivotsQuick_167 (lv_at hl 0 rfl) ?_
                  refine lv_ldc2 (v := (-2147483648)) hx hb hown (hts (.constantLong RX12 424 (-2147483648)) (by decide +kernel)) dX12_pivotsQuick_169 ?_
                  refine W.lcmp hx hb dX12_pivotsQuick_172 ?_
                  refine lv_if_gt (tgt := 178) hx hb dX12_pivotsQuick_173 (by decide) (fun c_173 => ?_) (fun c_173 => ?_)
                  · have t_173 : (vv).toInt > -2147483648 := toL_gt c_173 rfl (by decide)
                    refine lv_aload_n hx hb dX12_pivotsQuick_178 rfl (lv_at hl 2 rfl) ?_
                    refine va_get (D := (dC, dI)) (ci := 12) (v := .ref (a 8)) (C := RX12) (T := TX12) (N := 163) (fs := fM (vS a vi vj)) hx hb hts iwsRX12_pivotsQuick_in12 hown hK hP 0 rfl rfl 14 (by decide) (hts (.fieldLink RX12 36 "OptimaWorksModel" "later" "[J") (by decide +kernel)) (fun _ h9 => h9) rfl dX12_pivotsQuick_179 ?_
                    refine lv_aload_n hx hb dX12_pivotsQuick_182 rfl (lv_at hl 2 rfl) ?_
                    refine lv_iload hx hb dX12_pivotsQuick_183 (lv_at hl 7 rfl) ?_
                    refine lv_iload hx hb dX12_pivotsQuick_185 (lv_at hl 8 rfl) ?_
                    have hFc := allFree hD hS hA
                    refine va_calli (va_runV (As := [.int (nI i), .int (nI j)]) (rest := [.ref (a 8)]) ⟨hx, hb, hml, hown, hts⟩ (r_X12_place1 l dC dI a k h0 vi vj vF (fT vG 8 L8) i j C (by first | assumption | decide | omega | rfl) H.size) (cwV 2 hts gwsRX12_pivotsQuick_0 rfl rfl rfl (by decide +kernel) ⟨by decide +kernel, by decide +kernel⟩) ⟨fun a U g mk q => by obtain ⟨q0, q1, qP, qK, qD⟩ := q; exact ⟨q0, q1, qP, va_K.moved (u := U) (U := U.calling g mk a) (Vm.Alike.refl U.vm) qK, qD⟩, va_recv hK hP (ci := 12) (q0 := 0) rfl rfl, fun U hU9 hW => ⟨rfl, by rw [hU9], by rw [hU9]; exact hP, va_K.moved hW.alike hK, hD.weaken (fun _ _ _ _ => trivial)⟩⟩ rfl rfl hl.1 rfl (lv_room (Nat.le_of_ble_eq_true rfl)) dX12_pivotsQuick_187 ⟨by decide +kernel, by decide +kernel⟩) hS (fun q _ h => hFc q h) hFc (fun r187_1 u t9_ H1 locs ht hvm hw9 hB9 hz1 hk1 hS => ?_)
                    obtain ⟨hP1, hD1⟩ := hB9
                    rw [ht] at hP1
                    have hP := hP1
                    have hD := hD1.weaken (fun _ q _ h => hFc q.1 h)
                    generalize H1 = H at hP hS ⊢
                    have hP : va_P (dC, dI) vwCl (WR a k h0 vi vj vF (fT vG 8 L8)) H := hP
                    have hD : va_D A (WR a k h0 vi vj vF (fT vG 8 L8)) := hD
                    obtain rfl := hw9
                    refine lv_lload hx hb dX12_pivotsQuick_190 (lv_at hl 0 rfl) ?_
                    refine va_last (cA := k 8) (n := 1000) (f := L8) hx hb hK hP hD hS 9 8 (WR_get 8 (by decide)) (TR_get 8 (by decide)) (vp_in_nI (show (i * (C + 1) + j) < 1000 by omega) (by omega)) dX12_pivotsQuick_192 (fun H locs hP hD hS => ?_)
                    have e9 : fT vG 8 (vp_updL L8 ((nI (i * (C + 1) + j))).toNatClampNeg vv) = fT (fT vG 8 L8) 8 (vp_updL L8 ((nI (i * (C + 1) + j))).toNatClampNeg vv) := (fT_sm _ _ _ _).symm
                    have hP : va_P (dC, dI) vwCl (WR a k h0 vi vj vF (fT vG 8 (vp_updL L8 ((nI (i * (C + 1) + j))).toNatClampNeg vv))) H := by rw [e9, ← WR_G 8 (by decide) _ rfl]; exact hP
                    have hD : va_D A (WR a k h0 vi vj vF (fT vG 8 (vp_updL L8 ((nI (i * (C + 1) + j))).toNatClampNeg vv))) := by rw [e9, ← WR_G 8 (by decide) _ rfl]; exact hD
                    clear e9
                    refine lv_iinc (v := (nI (j + 1))) hx hb dX12_pivotsQuick_193 hl (k := 8) rfl (nI_add j 1) (by decide) rfl (fun ls (hl : lv_has ls _ ([(7, .int (nI (j + 1))), (10, .long vv), (8, .long ((vG 7) (i * (C + 1) + j))), (0, .ref h0), (1, .int (nI rn)), (2, .int (nI cn)), (3, .long ((vG 7) (rn * (C + 1) + cn))), (5, .int 1), (6, .int (nI i))])) => ?_)
                    refine lv_goto (tgt := 45) hx hb dX12_pivotsQuick_196 (by decide) ?_
                    have hl : lv_has _ _ ([(0, .ref h0), (1, .int (nI rn)), (2, .int (nI cn)), (3, .long ((vG 7) (rn * (C + 1) + cn))), (5, .int 1), (6, .int (nI i)), (7, .int (nI (j + 1)))]) := lv_sub hl [3, 4, 5, 6, 7, 8, 0] rfl
                    exact ih45_2 (j + 1) (vp_updL L8 ((nI (i * (C + 1) + j))).toNatClampNeg vv) _ _ _ (by omega) (fun p hp => by rw [updL_at (by omega)]; by_cases e9 : p = i * (C + 1) + j; (rw [if_pos e9]; omega); (rw [if_neg e9]; exact hb2 p (by omega))) (fun i2 j2 h1 h2 h3 => by rw [updL_at (by omega)]; by_cases e9 : i2 * (C + 1) + j2 = i * (C + 1) + j; (rw [if_pos e9, (pl_inj h2 (by omega) e9).1, (pl_inj h2 (by omega) e9).2]; exact ev); (rw [if_neg e9]; exact hv2 i2 j2 h1 h2 (by omega))) (by omega) hP hD hS hl
                  · have t_173 : ¬ (vv).toInt > -2147483648 := toL_ngt c_173 rfl (by decide)
                    refine lv_iconst (v := 0) hx hb dX12_pivotsQuick_176 (by decide) ?_
                    refine W.widen (k := 0) (n := 0) (by decide +kernel) (by decide +kernel) ?_
                    have e9 : fT vj 12 (vj 12) = vj := fT_id _ _ (rfl)
                    have hP : va_P (dC, dI) vwCl (WR a k h0 vi (fT vj 12 (vj 12)) vF (fT vG 8 L8)) H := by rw [e9]; exact hP
                    have hD : va_D A (WR a k h0 vi (fT vj 12 (vj 12)) vF (fT vG 8 L8)) := by rw [e9]; exact hD
                    clear e9
                    have e9 : fT (fT vF 4 (vF 4)) 5 (vF 5) = vF := (fT_id _ _ (fT_ne _ _ (Nat.ne_of_beq_eq_false rfl))).trans (fT_id _ _ (rfl))
                    have hP : va_P (dC, dI) vwCl (WR a k h0 vi (fT vj 12 (vj 12)) (fT (fT vF 4 (vF 4)) 5 (vF 5)) (fT vG 8 L8)) H := by rw [e9]; exact hP
                    have hD : va_D A (WR a k h0 vi (fT vj 12 (vj 12)) (fT (fT vF 4 (vF 4)) 5 (vF 5)) (fT vG 8 L8)) := by rw [e9]; exact hD
                    clear e9
                    have e9 : fT (fT vG 8 L8) 7 (vG 7) = fT vG 8 L8 := fT_id _ _ (fT_ne _ _ (Nat.ne_of_beq_eq_false rfl))
                    have hP : va_P (dC, dI) vwCl (WR a k h0 vi (fT vj 12 (vj 12)) (fT (fT vF 4 (vF 4)) 5 (vF 5)) (fT (fT vG 8 L8) 7 (vG 7))) H := by rw [e9]; exact hP
                    have hD : va_D A (WR a k h0 vi (fT vj 12 (vj 12)) (fT (fT vF 4 (vF 4)) 5 (vF 5)) (fT (fT vG 8 L8) 7 (vG 7))) := by rw [e9]; exact hD
                    clear e9
                    exact W.zret (v := 0) hx hb hr rfl (fun t9_ ht hW => ⟨⟨0, ((vj 12), (vG 7), L8, (vF 4), (vF 5)), rfl, by (try dsimp only); exact Or.inl ⟨rfl, rfl, rfl, rfl, rfl⟩, by rw [ht]; exact hP, hD⟩, hS.F ht⟩) hS.2.2 dX12_pivotsQuick_177
            · have t_72 : ((i : Nat) : Int) = ((rn : Nat) : Int) := toI_nne c_72 (nI_toInt (by omega)) (nI_toInt (by omega))
              refine lv_iload hx hb dX12_pivotsQuick_75 (lv_at hl 7 rfl) ?_
              refine lv_iload_n hx hb dX12_pivotsQuick_77 rfl (lv_at hl 3 rfl) ?_
              refine lv_icmp_ne (tgt := 92) hx hb dX12_pivotsQuick_78 (by decide) (fun c_78 => ?_) (fun c_78 => ?_)
              · have t_78 : ((j : Nat) : Int) ≠ ((cn : Nat) : Int) := toI_ne c_78 (nI_toInt (by omega)) (nI_toInt (by omega))
                refine lv_iload hx hb dX12_pivotsQuick_92 (lv_at hl 5 rfl) ?_
                refine lv_i2l hx hb dX12_pivotsQuick_94 rfl ?_
                refine lv_topl (fun y21 hy21 => ?_)
                obtain rfl : 1 = y21 := (hy21.trans (by decide)).symm
                refine lv_lload hx hb dX12_pivotsQuick_95 (lv_at hl 0 rfl) ?_
                refine lv_lmul hx hb dX12_pivotsQuick_97 ?_
                refine lv_goto (tgt := 156) hx hb dX12_pivotsQuick_98 (by decide) ?_
                have hij := pl_lt (C := C) (show i < R + Gq by omega) (show j ≤ C by omega)
                have bx := hQ.1 (i * (C + 1) + j) hij
                have ex := hQ.2.1 i (by omega) j (by omega)
                have gx := sgI_p (x := t rn cn) (by omega)
                have ei : i = rn := by omega
                have ev : ((1 * ((vG 7) (i * (C + 1) + j)))).toInt = nvT rn cn (sgI (t rn cn)) t D i j := by (have m9 := one64 (vG 7 (i * (C + 1) + j))); rw [ei, nv_row _ _ _ _ _ (by omega), gx]; rw [ei] at m9 ex; omega
                obtain ⟨vv, hvv⟩ : ∃ vv, vv = ((1 * ((vG 7) (i * (C + 1) + j))) : Int64) := ⟨_, rfl⟩
                rw [← hvv] at ev
                refine lv_topl (fun y22 hy22 => ?_)
                obtain rfl : vv = y22 := (hy22.trans (hvv.symm)).symm
                refine lv_lstore hx hb dX12_pivotsQuick_156 hl (by decide) rfl (fun ls (hl : lv_has ls _ ([(10, .long vv), (8, .long ((vG 7) (i * (C + 1) + j))), (0, .ref h0), (1, .int (nI rn)), (2, .int (nI cn)), (3, .long ((vG 7) (rn * (C + 1) + cn))), (5, .int 1), (6, .int (nI i)), (7, .int (nI j))])) => ?_)
                refine lv_lload hx hb dX12_pivotsQuick_158 (lv_at hl 0 rfl) ?_
                refine lv_ldc2 (v := 2147483648) hx hb hown (hts (.constantLong RX12 422 2147483648) (by decide +kernel)) dX12_pivotsQuick_160 ?_
                refine W.lcmp hx hb dX12_pivotsQuick_163 ?_
                refine lv_if_ge (tgt := 176) hx hb dX12_pivotsQuick_164 (by decide) (fun c_164 => ?_) (fun c_164 => ?_)
                · have t_164 : (vv).toInt ≥ 2147483648 := toL_ge c_164 rfl (by decide)
                  refine lv_iconst (v := 0) hx hb dX12_pivotsQuick_176 (by decide) ?_
                  refine W.widen (k := 0) (n := 0) (by decide +kernel) (by decide +kernel) ?_
                  have e9 : fT vj 12 (vj 12) = vj := fT_id _ _ (rfl)
                  have hP : va_P (dC, dI) vwCl (WR a k h0 vi (fT vj 12 (vj 12)) vF (fT vG 8 L8)) H := by rw [e9]; exact hP
                  have hD : va_D A (WR a k h0 vi (fT vj 12 (vj 12)) vF (fT vG 8 L8)) := by rw [e9]; exact hD
                  clear e9
                  have e9 : fT (fT vF 4 (vF 4)) 5 (vF 5) = vF := (fT_id _ _ (fT_ne _ _ (Nat.ne_of_beq_eq_false rfl))).trans (fT_id _ _ (rfl))
                  have hP : va_P (dC, dI) vwCl (WR a k h0 vi (fT vj 12 (vj 12)) (fT (fT vF 4 (vF 4)) 5 (vF 5)) (fT vG 8 L8)) H := by rw [e9]; exact hP
                  have hD : va_D A (WR a k h0 vi (fT vj 12 (vj 12)) (fT (fT vF 4 (vF 4)) 5 (vF 5)) (fT vG 8 L8)) := by rw [e9]; exact hD
                  clear e9
                  have e9 : fT (fT vG 8 L8) 7 (vG 7) = fT vG 8 L8 := fT_id _ _ (fT_ne _ _ (Nat.ne_of_beq_eq_false rfl))
                  have hP : va_P (dC, dI) vwCl (WR a k h0 vi (fT vj 12 (vj 12)) (fT (fT vF 4 (vF 4)) 5 (vF 5)) (fT (fT vG 8 L8) 7 (vG 7))) H := by rw [e9]; exact hP
                  have hD : va_D A (WR a k h0 vi (fT vj 12 (vj 12)) (fT (fT vF 4 (vF 4)) 5 (vF 5)) (fT (fT vG 8 L8) 7 (vG 7))) := by rw [e9]; exact hD
                  clear e9
                  exact W.zret (v := 0) hx hb hr rfl (fun t9_ ht hW => ⟨⟨0, ((vj 12), (vG 7), L8, (vF 4), (vF 5)), rfl, by (try dsimp only); exact Or.inl ⟨rfl, rfl, rfl, rfl, rfl⟩, by rw [ht]; exact hP, hD⟩, hS.F ht⟩) hS.2.2 dX12_pivotsQuick_177
                · have t_164 : ¬ (vv).toInt ≥ 2147483648 := toL_nge c_164 rfl (by decide)
                  refine lv_lload hx hb dX12_pivotsQuick_167 (lv_at hl 0 rfl) ?_
                  refine lv_ldc2 (v := (-2147483648)) hx hb hown (hts (.constantLong RX12 424 (-2147483648)) (by decide +kernel)) dX12_pivotsQuick_169 ?_
                  refine W.lcmp hx hb dX12_pivotsQuick_172 ?_
                  refine lv_if_gt (tgt := 178) hx hb dX12_pivotsQuick_173 (by decide) (fun c_173 => ?_) (fun c_173 => ?_)
                  · have t_173 : (vv).toInt > -2147483648 := toL_gt c_173 rfl (by decide)
                    refine lv_aload_n hx hb dX12_pivotsQuick_178 rfl (lv_at hl 2 rfl) ?_
                    refine va_get (D := (dC, dI)) (ci := 12) (v := .ref (a 8)) (C := RX12) (T := TX12) (N := 163) (fs := fM (vS a vi vj)) hx hb hts iwsRX12_pivotsQuick_in12 hown hK hP 0 rfl rfl 14 (by decide) (hts (.fieldLink RX12 36 "OptimaWorksModel" "later" "[J") (by decide +kernel)) (fun _ h9 => h9) rfl dX12_pivotsQuick_179 ?_
                    refine lv_aload_n hx hb dX12_pivotsQuick_182 rfl (lv_at hl 2 rfl) ?_
                    refine lv_iload hx hb dX12_pivotsQuick_183 (lv_at hl 7 rfl) ?_
                    refine lv_iload hx hb dX12_pivotsQuick_185 (lv_at hl 8 rfl) ?_
                    have hFc := allFree hD hS hA
                    refine va_calli (va_runV (As := [.int (nI i), .int (nI j)]) (rest := [.ref (a 8)]) ⟨hx, hb, hml, hown, hts⟩ (r_X12_place1 l dC dI a k h0 vi vj vF (fT vG 8 L8) i j C (by first | assumption | decide | omega | rfl) H.size) (cwV 2 hts gwsRX12_pivotsQuick_0 rfl rfl rfl (by decide +kernel) ⟨by decide +kernel, by decide +kernel⟩) ⟨fun a U g mk q => by obtain ⟨q0, q1, qP, qK, qD⟩ := q; exact ⟨q0, q1, qP, va_K.moved (u := U) (U := U.calling g mk a) (Vm.Alike.refl U.vm) qK, qD⟩, va_recv hK hP (ci := 12) (q0 := 0) rfl rfl, fun U hU9 hW => ⟨rfl, by rw [hU9], by rw [hU9]; exact hP, va_K.moved hW.alike hK, hD.weaken (fun _ _ _ _ => trivial)⟩⟩ rfl rfl hl.1 rfl (lv_room (Nat.le_of_ble_eq_true rfl)) dX12_pivotsQuick_187 ⟨by decide +kernel, by decide +kernel⟩) hS (fun q _ h => hFc q h) hFc (fun r187_2 u t9_ H1 locs ht hvm hw9 hB9 hz1 hk1 hS => ?_)
                    obtain ⟨hP1, hD1⟩ := hB9
                    rw [ht] at hP1
                    have hP := hP1
                    have hD := hD1.weaken (fun _ q _ h => hFc q.1 h)
                    generalize H1 = H at hP hS ⊢
                    have hP : va_P (dC, dI) vwCl (WR a k h0 vi vj vF (fT vG 8 L8)) H := hP
                    have hD : va_D A (WR a k h0 vi vj vF (fT vG 8 L8)) := hD
                    obtain rfl := hw9
                    refine lv_lload hx hb dX12_pivotsQuick_190 (lv_at hl 0 rfl) ?_
                    refine va_last (cA := k 8) (n := 1000) (f := L8) hx hb hK hP hD hS 9 8 (WR_get 8 (by decide)) (TR_get 8 (by decide)) (vp_in_nI (show (i * (C + 1) + j) < 1000 by omega) (by omega)) dX12_pivotsQuick_192 (fun H locs hP hD hS => ?_)
                    have e9 : fT vG 8 (vp_updL L8 ((nI (i * (C + 1) + j))).toNatClampNeg vv) = fT (fT vG 8 L8) 8 (vp_updL L8 ((nI (i * (C + 1) + j))).toNatClampNeg vv) := (fT_sm _ _ _ _).symm
                    have hP : va_P (dC, dI) vwCl (WR a k h0 vi vj vF (fT vG 8 (vp_updL L8 ((nI (i * (C + 1) + j))).toNatClampNeg vv))) H := by rw [e9, ← WR_G 8 (by decide) _ rfl]; exact hP
                    have hD : va_D A (WR a k h0 vi vj vF (fT vG 8 (vp_updL L8 ((nI (i * (C + 1) + j))).toNatClampNeg vv))) := by rw [e9, ← WR_G 8 (by decide) _ rfl]; exact hD
                    clear e9
                    refine lv_iinc (v := (nI (j + 1))) hx hb dX12_pivotsQuick_193 hl (k := 8) rfl (nI_add j 1) (by decide) rfl (fun ls (hl : lv_has ls _ ([(7, .int (nI (j + 1))), (10, .long vv), (8, .long ((vG 7) (i * (C + 1) + j))), (0, .ref h0), (1, .int (nI rn)), (2, .int (nI cn)), (3, .long ((vG 7) (rn * (C + 1) + cn))), (5, .int 1), (6, .int (nI i))])) => ?_)
                    refine lv_goto (tgt := 45) hx hb dX12_pivotsQuick_196 (by decide) ?_
                    have hl : lv_has _ _ ([(0, .ref h0), (1, .int (nI rn)), (2, .int (nI cn)), (3, .long ((vG 7) (rn * (C + 1) + cn))), (5, .int 1), (6, .int (nI i)), (7, .int (nI (j + 1)))]) := lv_sub hl [3, 4, 5, 6, 7, 8, 0] rfl
                    exact ih45_2 (j + 1) (vp_updL L8 ((nI (i * (C + 1) + j))).toNatClampNeg vv) _ _ _ (by omega) (fun p hp => by rw [updL_at (by omega)]; by_cases e9 : p = i * (C + 1) + j; (rw [if_pos e9]; omega); (rw [if_neg e9]; exact hb2 p (by omega))) (fun i2 j2 h1 h2 h3 => by rw [updL_at (by omega)]; by_cases e9 : i2 * (C + 1) + j2 = i * (C + 1) + j; (rw [if_pos e9, (pl_inj h2 (by omega) e9).1, (pl_inj h2 (by omega) e9).2]; exact ev); (rw [if_neg e9]; exact hv2 i2 j2 h1 h2 (by omega))) (by omega) hP hD hS hl
                  · have t_173 : ¬ (vv).toInt > -2147483648 := toL_ngt c_173 rfl (by decide)
                    refine lv_iconst (v := 0) hx hb dX12_pivotsQuick_176 (by decide) ?_
                    refine W.widen (k := 0) (n := 0) (by decide +kernel) (by decide +kernel) ?_
                    have e9 : fT vj 12 (vj 12) = vj := fT_id _ _ (rfl)
                    have hP : va_P (dC, dI) vwCl (WR a k h0 vi (fT vj 12 (vj 12)) vF (fT vG 8 L8)) H := by rw [e9]; exact hP
                    have hD : va_D A (WR a k h0 vi (fT vj 12 (vj 12)) vF (fT vG 8 L8)) := by rw [e9]; exact hD
                    clear e9
                    have e9 : fT (fT vF 4 (vF 4)) 5 (vF 5) = vF := (fT_id _ _ (fT_ne _ _ (Nat.ne_of_beq_eq_false rfl))).trans (fT_id _ _ (rfl))
                    have hP : va_P (dC, dI) vwCl (WR a k h0 vi (fT vj 12 (vj 12)) (fT (fT vF 4 (vF 4)) 5 (vF 5)) (fT vG 8 L8)) H := by rw [e9]; exact hP
                    have hD : va_D A (WR a k h0 vi (fT vj 12 (vj 12)) (fT (fT vF 4 (vF 4)) 5 (vF 5)) (fT vG 8 L8)) := by rw [e9]; exact hD
                    clear e9
                    have e9 : fT (fT vG 8 L8) 7 (vG 7) = fT vG 8 L8 := fT_id _ _ (fT_ne _ _ (Nat.ne_of_beq_eq_false rfl))
                    have hP : va_P (dC, dI) vwCl (WR a k h0 vi (fT vj 12 (vj 12)) (fT (fT vF 4 (vF 4)) 5 (vF 5)) (fT (fT vG 8 L8) 7 (vG 7))) H := by rw [e9]; exact hP
                    have hD : va_D A (WR a k h0 vi (fT vj 12 (vj 12)) (fT (fT vF 4 (vF 4)) 5 (vF 5)) (fT (fT vG 8 L8) 7 (vG 7))) := by rw [e9]; exact hD
                    clear e9
                    exact W.zret (v := 0) hx hb hr rfl (fun t9_ ht hW => ⟨⟨0, ((vj 12), (vG 7), L8, (vF 4), (vF 5)), rfl, by (try dsimp only); exact Or.inl ⟨rfl, rfl, rfl, rfl, rfl⟩, by rw [ht]; exact hP, hD⟩, hS.F ht⟩) hS.2.2 dX12_pivotsQuick_177
              · have t_78 : ((j : Nat) : Int) = ((cn : Nat) : Int) := toI_nne c_78 (nI_toInt (by omega)) (nI_toInt (by omega))
                refine lv_iload hx hb dX12_pivotsQuick_81 (lv_at hl 5 rfl) ?_
                refine lv_i2l hx hb dX12_pivotsQuick_83 rfl ?_
                refine lv_topl (fun y23 hy23 => ?_)
                obtain rfl : 1 = y23 := (hy23.trans (by decide)).symm
                refine lv_aload_n hx hb dX12_pivotsQuick_84 rfl (lv_at hl 1 rfl) ?_
                refine va_get (D := (dC, dI)) (ci := 12) (v := .long (vj 12)) (C := RX12) (T := TX12) (N := 163) (fs := fM (vS a vi vj)) hx hb hts iwsRX12_pivotsQuick_in12 hown hK hP 0 rfl rfl 12 (by decide) (hts (.fieldLink RX12 426 "OptimaWorksModel" "quickDivisor" "J") (by decide +kernel)) (fun _ h9 => h9) rfl dX12_pivotsQuick_85 ?_
                refine lv_lmul hx hb dX12_pivotsQuick_88 ?_
                refine lv_goto (tgt := 156) hx hb dX12_pivotsQuick_89 (by decide) ?_
                have hij := pl_lt (C := C) (show i < R + Gq by omega) (show j ≤ C by omega)
                have bx := hQ.1 (i * (C + 1) + j) hij
                have ex := hQ.2.1 i (by omega) j (by omega)
                have gx := sgI_p (x := t rn cn) (by omega)
                have ei : i = rn := by omega
                have ej : j = cn := by omega
                have ev : ((1 * (vj 12))).toInt = nvT rn cn (sgI (t rn cn)) t D i j := by rw [ei, ej, nv_piv, gx]; (have e8 := hQ.2.2.1); (have m9 := one64 (vj 12)); omega
                obtain ⟨vv, hvv⟩ : ∃ vv, vv = ((1 * (vj 12)) : Int64) := ⟨_, rfl⟩
                rw [← hvv] at ev
                refine lv_topl (fun y24 hy24 => ?_)
                obtain rfl : vv = y24 := (hy24.trans (hvv.symm)).symm
                refine lv_lstore hx hb dX12_pivotsQuick_156 hl (by decide) rfl (fun ls (hl : lv_has ls _ ([(10, .long vv), (8, .long ((vG 7) (i * (C + 1) + j))), (0, .ref h0), (1, .int (nI rn)), (2, .int (nI cn)), (3, .long ((vG 7) (rn * (C + 1) + cn))), (5, .int 1), (6, .int (nI i)), (7, .int (nI j))])) => ?_)
                refine lv_lload hx hb dX12_pivotsQuick_158 (lv_at hl 0 rfl) ?_
                refine lv_ldc2 (v := 2147483648) hx hb hown (hts (.constantLong RX12 422 2147483648) (by decide +kernel)) dX12_pivotsQuick_160 ?_
                refine W.lcmp hx hb dX12_pivotsQuick_163 ?_
                refine lv_if_ge (tgt := 176) hx hb dX12_pivotsQuick_164 (by decide) (fun c_164 => ?_) (fun c_164 => ?_)
                · have t_164 : (vv).toInt ≥ 2147483648 := toL_ge c_164 rfl (by decide)
                  refine lv_iconst (v := 0) hx hb dX12_pivotsQuick_176 (by decide) ?_
                  refine W.widen (k := 0) (n := 0) (by decide +kernel) (by decide +kernel) ?_
                  have e9 : fT vj 12 (vj 12) = vj := fT_id _ _ (rfl)
                  have hP : va_P (dC, dI) vwCl (WR a k h0 vi (fT vj 12 (vj 12)) vF (fT vG 8 L8)) H := by rw [e9]; exact hP
                  have hD : va_D A (WR a k h0 vi (fT vj 12 (vj 12)) vF (fT vG 8 L8)) := by rw [e9]; exact hD
                  clear e9
                  have e9 : fT (fT vF 4 (vF 4)) 5 (vF 5) = vF := (fT_id _ _ (fT_ne _ _ (Nat.ne_of_beq_eq_false rfl))).trans (fT_id _ _ (rfl))
                  have hP : va_P (dC, dI) vwCl (WR a k h0 vi (fT vj 12 (vj 12)) (fT (fT vF 4 (vF 4)) 5 (vF 5)) (fT vG 8 L8)) H := by rw [e9]; exact hP
                  have hD : va_D A (WR a k h0 vi (fT vj 12 (vj 12)) (fT (fT vF 4 (vF 4)) 5 (vF 5)) (fT vG 8 L8)) := by rw [e9]; exact hD
                  clear e9
                  have e9 : fT (fT vG 8 L8) 7 (vG 7) = fT vG 8 L8 := fT_id _ _ (fT_ne _ _ (Nat.ne_of_beq_eq_false rfl))
                  have hP : va_P (dC, dI) vwCl (WR a k h0 vi (fT vj 12 (vj 12)) (fT (fT vF 4 (vF 4)) 5 (vF 5)) (fT (fT vG 8 L8) 7 (vG 7))) H := by rw [e9]; exact hP
                  have hD : va_D A (WR a k h0 vi (fT vj 12 (vj 12)) (fT (fT vF 4 (vF 4)) 5 (vF 5)) (fT (fT vG 8 L8) 7 (vG 7))) := by rw [e9]; exact hD
                  clear e9
                  exact W.zret (v := 0) hx hb hr rfl (fun t9_ ht hW => ⟨⟨0, ((vj 12), (vG 7), L8, (vF 4), (vF 5)), rfl, by (try dsimp only); exact Or.inl ⟨rfl, rfl, rfl, rfl, rfl⟩, by rw [ht]; exact hP, hD⟩, hS.F ht⟩) hS.2.2 dX12_pivotsQuick_177
                · have t_164 : ¬ (vv).toInt ≥ 2147483648 := toL_nge c_164 rfl (by decide)
                  refine lv_lload hx hb dX12_pivotsQuick_167 (lv_at hl 0 rfl) ?_
                  refine lv_ldc2 (v := (-2147483648)) hx hb hown (hts (.constantLong RX12 424 (-2147483648)) (by decide +kernel)) dX12_pivotsQuick_169 ?_
                  refine W.lcmp hx hb dX12_pivotsQuick_172 ?_
                  refine lv_if_gt (tgt := 178) hx hb dX12_pivotsQuick_173 (by decide) (fun c_173 => ?_) (fun c_173 => ?_)
                  · have t_173 : (vv).toInt > -2147483648 := toL_gt c_173 rfl (by decide)
                    refine lv_aload_n hx hb dX12_pivotsQuick_178 rfl (lv_at hl 2 rfl) ?_
                    refine va_get (D := (dC, dI)) (ci := 12) (v := .ref (a 8)) (C := RX12) (T := TX12) (N := 163) (fs := fM (vS a vi vj)) hx hb hts iwsRX12_pivotsQuick_in12 hown hK hP 0 rfl rfl 14 (by decide) (hts (.fieldLink RX12 36 "OptimaWorksModel" "later" "[J") (by decide +kernel)) (fun _ h9 => h9) rfl dX12_pivotsQuick_179 ?_
                    refine lv_aload_n hx hb dX12_pivotsQuick_182 rfl (lv_at hl 2 rfl) ?_
                    refine lv_iload hx hb dX12_pivotsQuick_183 (lv_at hl 7 rfl) ?_
                    refine lv_iload hx hb dX12_pivotsQuick_185 (lv_at hl 8 rfl) ?_
                    have hFc := allFree hD hS hA
                    refine va_calli (va_runV (As := [.int (nI i), .int (nI j)]) (rest := [.ref (a 8)]) ⟨hx, hb, hml, hown, hts⟩ (r_X12_place1 l dC dI a k h0 vi vj vF (fT vG 8 L8) i j C (by first | assumption | decide | omega | rfl) H.size) (cwV 2 hts gwsRX12_pivotsQuick_0 rfl rfl rfl (by decide +kernel) ⟨by decide +kernel, by decide +kernel⟩) ⟨fun a U g mk q => by obtain ⟨q0, q1, qP, qK, qD⟩ := q; exact ⟨q0, q1, qP, va_K.moved (u := U) (U := U.calling g mk a) (Vm.Alike.refl U.vm) qK, qD⟩, va_recv hK hP (ci := 12) (q0 := 0) rfl rfl, fun U hU9 hW => ⟨rfl, by rw [hU9], by rw [hU9]; exact hP, va_K.moved hW.alike hK, hD.weaken (fun _ _ _ _ => trivial)⟩⟩ rfl rfl hl.1 rfl (lv_room (Nat.le_of_ble_eq_true rfl)) dX12_pivotsQuick_187 ⟨by decide +kernel, by decide +kernel⟩) hS (fun q _ h => hFc q h) hFc (fun r187_3 u t9_ H1 locs ht hvm hw9 hB9 hz1 hk1 hS => ?_)
                    obtain ⟨hP1, hD1⟩ := hB9
                    rw [ht] at hP1
                    have hP := hP1
                    have hD := hD1.weaken (fun _ q _ h => hFc q.1 h)
                    generalize H1 = H at hP hS ⊢
                    have hP : va_P (dC, dI) vwCl (WR a k h0 vi vj vF (fT vG 8 L8)) H := hP
                    have hD : va_D A (WR a k h0 vi vj vF (fT vG 8 L8)) := hD
                    obtain rfl := hw9
                    refine lv_lload hx hb dX12_pivotsQuick_190 (lv_at hl 0 rfl) ?_
                    refine va_last (cA := k 8) (n := 1000) (f := L8) hx hb hK hP hD hS 9 8 (WR_get 8 (by decide)) (TR_get 8 (by decide)) (vp_in_nI (show (i * (C + 1) + j) < 1000 by omega) (by omega)) dX12_pivotsQuick_192 (fun H locs hP hD hS => ?_)
                    have e9 : fT vG 8 (vp_updL L8 ((nI (i * (C + 1) + j))).toNatClampNeg vv) = fT (fT vG 8 L8) 8 (vp_updL L8 ((nI (i * (C + 1) + j))).toNatClampNeg vv) := (fT_sm _ _ _ _).symm
                    have hP : va_P (dC, dI) vwCl (WR a k h0 vi vj vF (fT vG 8 (vp_updL L8 ((nI (i * (C + 1) + j))).toNatClampNeg vv))) H := by rw [e9, ← WR_G 8 (by decide) _ rfl]; exact hP
                    have hD : va_D A (WR a k h0 vi vj vF (fT vG 8 (vp_updL L8 ((nI (i * (C + 1) + j))).toNatClampNeg vv))) := by rw [e9, ← WR_G 8 (by decide) _ rfl]; exact hD
                    clear e9
                    refine lv_iinc (v := (nI (j + 1))) hx hb dX12_pivotsQuick_193 hl (k := 8) rfl (nI_add j 1) (by decide) rfl (fun ls (hl : lv_has ls _ ([(7, .int (nI (j + 1))), (10, .long vv), (8, .long ((vG 7) (i * (C + 1) + j))), (0, .ref h0), (1, .int (nI rn)), (2, .int (nI cn)), (3, .long ((vG 7) (rn * (C + 1) + cn))), (5, .int 1), (6, .int (nI i))])) => ?_)
                    refine lv_goto (tgt := 45) hx hb dX12_pivotsQuick_196 (by decide) ?_
                    have hl : lv_has _ _ ([(0, .ref h0), (1, .int (nI rn)), (2, .int (nI cn)), (3, .long ((vG 7) (rn * (C + 1) + cn))), (5, .int 1), (6, .int (nI i)), (7, .int (nI (j + 1)))]) := lv_sub hl [3, 4, 5, 6, 7, 8, 0] rfl
                    exact ih45_2 (j + 1) (vp_updL L8 ((nI (i * (C + 1) + j))).toNatClampNeg vv) _ _ _ (by omega) (fun p hp => by rw [updL_at (by omega)]; by_cases e9 : p = i * (C + 1) + j; (rw [if_pos e9]; omega); (rw [if_neg e9]; exact hb2 p (by omega))) (fun i2 j2 h1 h2 h3 => by rw [updL_at (by omega)]; by_cases e9 : i2 * (C + 1) + j2 = i * (C + 1) + j; (rw [if_pos e9, (pl_inj h2 (by omega) e9).1, (pl_inj h2 (by omega) e9).2]; exact ev); (rw [if_neg e9]; exact hv2 i2 j2 h1 h2 (by omega))) (by omega) hP hD hS hl
                  · have t_173 : ¬ (vv).toInt > -2147483648 := toL_ngt c_173 rfl (by decide)
                    refine lv_iconst (v := 0) hx hb dX12_pivotsQuick_176 (by decide) ?_
                    refine W.widen (k := 0) (n := 0) (by decide +kernel) (by decide +kernel) ?_
                    have e9 : fT vj 12 (vj 12) = vj := fT_id _ _ (rfl)
                    have hP : va_P (dC, dI) vwCl (WR a k h0 vi (fT vj 12 (vj 12)) vF (fT vG 8 L8)) H := by rw [e9]; exact hP
                    have hD : va_D A (WR a k h0 vi (fT vj 12 (vj 12)) vF (fT vG 8 L8)) := by rw [e9]; exact hD
                    clear e9
                    have e9 : fT (fT vF 4 (vF 4)) 5 (vF 5) = vF := (fT_id _ _ (fT_ne _ _ (Nat.ne_of_beq_eq_false rfl))).trans (fT_id _ _ (rfl))
                    have hP : va_P (dC, dI) vwCl (WR a k h0 vi (fT vj 12 (vj 12)) (fT (fT vF 4 (vF 4)) 5 (vF 5)) (fT vG 8 L8)) H := by rw [e9]; exact hP
                    have hD : va_D A (WR a k h0 vi (fT vj 12 (vj 12)) (fT (fT vF 4 (vF 4)) 5 (vF 5)) (fT vG 8 L8)) := by rw [e9]; exact hD
                    clear e9
                    have e9 : fT (fT vG 8 L8) 7 (vG 7) = fT vG 8 L8 := fT_id _ _ (fT_ne _ _ (Nat.ne_of_beq_eq_false rfl))
                    have hP : va_P (dC, dI) vwCl (WR a k h0 vi (fT vj 12 (vj 12)) (fT (fT vF 4 (vF 4)) 5 (vF 5)) (fT (fT vG 8 L8) 7 (vG 7))) H := by rw [e9]; exact hP
                    have hD : va_D A (WR a k h0 vi (fT vj 12 (vj 12)) (fT (fT vF 4 (vF 4)) 5 (vF 5)) (fT (fT vG 8 L8) 7 (vG 7))) := by rw [e9]; exact hD
                    clear e9
                    exact W.zret (v := 0) hx hb hr rfl (fun t9_ ht hW => ⟨⟨0, ((vj 12), (vG 7), L8, (vF 4), (vF 5)), rfl, by (try dsimp only); exact Or.inl ⟨rfl, rfl, rfl, rfl, rfl⟩, by rw [ht]; exact hP, hD⟩, hS.F ht⟩) hS.2.2 dX12_pivotsQuick_177
  · have t_15 : ¬ (((vG 7) (rn * (C + 1) + cn))).toInt ≥ 0 := toL_nge c_15 rfl (by decide)
    refine lv_iconst (v := (-1)) hx hb dX12_pivotsQuick_18 (by decide) ?_
    refine lv_goto (tgt := 23) hx hb dX12_pivotsQuick_19 (by decide) ?_
    refine lv_istore hx hb dX12_pivotsQuick_23 hl (by decide) rfl (fun ls (hl : lv_has ls _ ([(5, .int (-1)), (3, .long ((vG 7) (rn * (C + 1) + cn))), (0, .ref h0), (1, .int (nI rn)), (2, .int (nI cn))])) => ?_)
    refine lv_iconst (v := 0) hx hb dX12_pivotsQuick_25 (by decide) ?_
    refine lv_istore hx hb dX12_pivotsQuick_26 hl (by decide) rfl (fun ls (hl : lv_has ls _ ([(6, .int 0), (5, .int (-1)), (3, .long ((vG 7) (rn * (C + 1) + cn))), (0, .ref h0), (1, .int (nI rn)), (2, .int (nI cn))])) => ?_)
    have e9 : fT vG 8 (vG 8) = vG := by funext q9; by_cases h9_8 : q9 = 8; (subst h9_8; exact (fT_eq _ _ _).trans (Eq.trans (by first | rfl | assumption | (symm; assumption) | (subst_vars; rfl)) (Eq.refl _).symm)); exact (fT_ne _ _ h9_8).trans (Eq.refl _).symm
    have hP : va_P (dC, dI) vwCl (WR a k h0 vi vj vF (fT vG 8 (vG 8))) H := by rw [e9]; exact hP
    have hD : va_D A (WR a k h0 vi vj vF (fT vG 8 (vG 8))) := by rw [e9]; exact hD
    clear e9
    have hl : lv_has _ _ ([(0, .ref h0), (1, .int (nI rn)), (2, .int (nI cn)), (3, .long ((vG 7) (rn * (C + 1) + cn))), (5, .int (-1)), (6, .int (nI 0))]) := lv_sub hl [3, 4, 5, 2, 1, 0] rfl
    refine (fun (loop : ∀ (n9 : Nat) (i : Nat) (L8 : Nat → Int64) (H : Heap) (locs : List Loc) (ls : Array Slot), (i ≤ R + Gq) → (∀ p, p < i * (C + 1) → -2147483648 < (L8 p).toInt ∧ (L8 p).toInt < 2147483648) → (∀ i2 j2, i2 < R + Gq → j2 ≤ C → i2 * (C + 1) + j2 < i * (C + 1) → (L8 (i2 * (C + 1) + j2)).toInt = nvT rn cn (sgI (t rn cn)) t D i2 j2) →  (R + Gq < i + n9) → va_P (dC, dI) vwCl (WR a k h0 vi vj vF (fT vG 8 L8)) H → va_D A (WR a k h0 vi vj vF (fT vG 8 L8)) → va_S A s.heap H locs → lv_has ls 12 [(0, .ref h0), (1, .int (nI rn)), (2, .int (nI cn)), (3, .long ((vG 7) (rn * (C + 1) + cn))), (5, .int (-1)), (6, .int (nI i))] → W p l e _ s m _ below meth c H locs 0 0 _ (F0 m 28 ls [])) => loop (R + Gq + 1) 0 (vG 8) _ _ _ (by omega) (fun p hp => absurd hp (by rw [Nat.zero_mul]; omega)) (fun i2 j2 h1 h2 h3 => absurd h3 (by rw [Nat.zero_mul]; omega)) (by omega) hP hD hS hl) ?_
    intro n9
    induction n9 with
    | zero => intro i L8 H locs ls hi hbq hv hf9; exact False.elim (by omega)
    | succ n9 ih28_3 =>
      intro i L8 H locs ls hi hbq hv hf28_3 hP hD hS hl
      refine lv_iload hx hb dX12_pivotsQuick_28 (lv_at hl 5 rfl) ?_
      refine lv_aload_n hx hb dX12_pivotsQuick_30 rfl (lv_at hl 0 rfl) ?_
      refine va_get (D := (dC, dI)) (ci := 12) (v := .int (vi 6)) (C := RX12) (T := TX12) (N := 163) (fs := fM (vS a vi vj)) hx hb hts iwsRX12_pivotsQuick_in12 hown hK hP 0 rfl rfl 6 (by decide) (hts (.fieldLink RX12 399 "OptimaWorksModel" "rows" "I") (by decide +kernel)) (fun _ h9 => h9) rfl dX12_pivotsQuick_31 ?_
      refine lv_topi (fun y25 hy25 => ?_)
      obtain rfl : (nI R) = y25 := (hy25.trans (hR)).symm
      refine lv_aload_n hx hb dX12_pivotsQuick_34 rfl (lv_at hl 0 rfl) ?_
      refine va_get (D := (dC, dI)) (ci := 12) (v := .int (vi 7)) (C := RX12) (T := TX12) (N := 163) (fs := fM (vS a vi vj)) hx hb hts iwsRX12_pivotsQuick_in12 hown hK hP 0 rfl rfl 7 (by decide) (hts (.fieldLink RX12 402 "OptimaWorksModel" "goals" "I") (by decide +kernel)) (fun _ h9 => h9) rfl dX12_pivotsQuick_35 ?_
      refine lv_topi (fun y26 hy26 => ?_)
      obtain rfl : (nI Gq) = y26 := (hy26.trans (hG)).symm
      refine lv_iadd hx hb dX12_pivotsQuick_38 ?_
      refine lv_topi (fun y27 hy27 => ?_)
      obtain rfl : (nI (R + Gq)) = y27 := (hy27.trans (nI_add R Gq)).symm
      refine lv_icmp_ge (tgt := 205) hx hb dX12_pivotsQuick_39 (by decide) (fun c_39 => ?_) (fun c_39 => ?_)
      · have t_39 : ((i : Nat) : Int) ≥ (((R + Gq) : Nat) : Int) := toI_ge c_39 (nI_toInt (by omega)) (nI_toInt (by omega))
        refine lv_aload_n hx hb dX12_pivotsQuick_205 rfl (lv_at hl 0 rfl) ?_
        refine va_get (D := (dC, dI)) (ci := 12) (v := .int (vi 6)) (C := RX12) (T := TX12) (N := 163) (fs := fM (vS a vi vj)) hx hb hts iwsRX12_pivotsQuick_in12 hown hK hP 0 rfl rfl 6 (by decide) (hts (.fieldLink RX12 399 "OptimaWorksModel" "rows" "I") (by decide +kernel)) (fun _ h9 => h9) rfl dX12_pivotsQuick_206 ?_
        refine lv_topi (fun y28 hy28 => ?_)
        obtain rfl : (nI R) = y28 := (hy28.trans (hR)).symm
        refine lv_aload_n hx hb dX12_pivotsQuick_209 rfl (lv_at hl 0 rfl) ?_
        refine va_get (D := (dC, dI)) (ci := 12) (v := .int (vi 7)) (C := RX12) (T := TX12) (N := 163) (fs := fM (vS a vi vj)) hx hb hts iwsRX12_pivotsQuick_in12 hown hK hP 0 rfl rfl 7 (by decide) (hts (.fieldLink RX12 402 "OptimaWorksModel" "goals" "I") (by decide +kernel)) (fun _ h9 => h9) rfl dX12_pivotsQuick_210 ?_
        refine lv_topi (fun y29 hy29 => ?_)
        obtain rfl : (nI Gq) = y29 := (hy29.trans (hG)).symm
        refine lv_iadd hx hb dX12_pivotsQuick_213 ?_
        refine lv_topi (fun y30 hy30 => ?_)
        obtain rfl : (nI (R + Gq)) = y30 := (hy30.trans (nI_add R Gq)).symm
        refine lv_aload_n hx hb dX12_pivotsQuick_214 rfl (lv_at hl 0 rfl) ?_
        refine va_get (D := (dC, dI)) (ci := 12) (v := .int (vi 5)) (C := RX12) (T := TX12) (N := 163) (fs := fM (vS a vi vj)) hx hb hts iwsRX12_pivotsQuick_in12 hown hK hP 0 rfl rfl 5 (by decide) (hts (.fieldLink RX12 396 "OptimaWorksModel" "columns" "I") (by decide +kernel)) (fun _ h9 => h9) rfl dX12_pivotsQuick_215 ?_
        refine lv_topi (fun y31 hy31 => ?_)
        obtain rfl : (nI C) = y31 := (hy31.trans (hC)).symm
        refine lv_iconst (v := 1) hx hb dX12_pivotsQuick_218 (by decide) ?_
        refine lv_iadd hx hb dX12_pivotsQuick_219 ?_
        refine lv_topi (fun y32 hy32 => ?_)
        obtain rfl : (nI (C + 1)) = y32 := (hy32.trans (nI_add C 1)).symm
        refine lv_imul hx hb dX12_pivotsQuick_220 ?_
        refine lv_topi (fun y33 hy33 => ?_)
        obtain rfl : (nI ((R + Gq) * (C + 1))) = y33 := (hy33.trans (pk_mul (R + Gq) (C + 1))).symm
        refine lv_istore hx hb dX12_pivotsQuick_221 hl (by decide) rfl (fun ls (hl : lv_has ls _ ([(6, .int (nI ((R + Gq) * (C + 1)))), (0, .ref h0), (1, .int (nI rn)), (2, .int (nI cn)), (3, .long ((vG 7) (rn * (C + 1) + cn))), (5, .int (-1))])) => ?_)
        refine lv_iconst (v := 0) hx hb dX12_pivotsQuick_223 (by decide) ?_
        refine lv_istore hx hb dX12_pivotsQuick_224 hl (by decide) rfl (fun ls (hl : lv_has ls _ ([(7, .int 0), (6, .int (nI ((R + Gq) * (C + 1)))), (0, .ref h0), (1, .int (nI rn)), (2, .int (nI cn)), (3, .long ((vG 7) (rn * (C + 1) + cn))), (5, .int (-1))])) => ?_)
        have e9 : fT (fT vG 8 L8) 7 (vG 7) = fT vG 8 L8 := by funext q9; by_cases h9_8 : q9 = 8; (subst h9_8; exact ((fT_ne _ _ (Nat.ne_of_beq_eq_false rfl)).trans (fT_eq _ _ _)).trans (Eq.trans (by first | rfl | assumption | (symm; assumption) | (subst_vars; rfl)) (fT_eq _ _ _).symm)); by_cases h9_7 : q9 = 7; (subst h9_7; exact (fT_eq _ _ _).trans (Eq.trans (by first | rfl | assumption | (symm; assumption) | (subst_vars; rfl)) (fT_ne _ _ (Nat.ne_of_beq_eq_false rfl)).symm)); exact ((fT_ne _ _ h9_7).trans (fT_ne _ _ h9_8)).trans (fT_ne _ _ h9_8).symm
        have hP : va_P (dC, dI) vwCl (WR a k h0 vi vj vF (fT (fT vG 8 L8) 7 (vG 7))) H := by rw [e9]; exact hP
        have hD : va_D A (WR a k h0 vi vj vF (fT (fT vG 8 L8) 7 (vG 7))) := by rw [e9]; exact hD
        clear e9
        have hl : lv_has _ _ ([(0, .ref h0), (1, .int (nI rn)), (2, .int (nI cn)), (3, .long ((vG 7) (rn * (C + 1) + cn))), (5, .int (-1)), (7, .int (nI 0)), (6, .int (nI ((R + Gq) * (C + 1))))]) := lv_sub hl [2, 3, 4, 5, 6, 0, 1] rfl
        refine (fun (loop : ∀ (n9 : Nat) (k2 : Nat) (F : Nat → Int64) (H : Heap) (locs : List Loc) (ls : Array Slot), (k2 ≤ (R + Gq) * (C + 1)) → (∀ p, p < k2 → F p = L8 p) →  ((R + Gq) * (C + 1) < k2 + n9) → va_P (dC, dI) vwCl (WR a k h0 vi vj vF (fT (fT vG 8 L8) 7 F)) H → va_D A (WR a k h0 vi vj vF (fT (fT vG 8 L8) 7 F)) → va_S A s.heap H locs → lv_has ls 12 [(0, .ref h0), (1, .int (nI rn)), (2, .int (nI cn)), (3, .long ((vG 7) (rn * (C + 1) + cn))), (5, .int (-1)), (7, .int (nI k2)), (6, .int (nI ((R + Gq) * (C + 1))))] → W p l e _ s m _ below meth c H locs 0 0 _ (F0 m 226 ls [])) => loop ((R + Gq) * (C + 1) + 1) 0 (vG 7) _ _ _ (by omega) (fun p hp => absurd hp (by omega)) (by omega) hP hD hS hl) ?_
        intro n9
        induction n9 with
        | zero => intro k2 F H locs ls hk2 hF hf9; exact False.elim (by omega)
        | succ n9 ih226_4 =>
          intro k2 F H locs ls hk2 hF hf226_4 hP hD hS hl
          refine lv_iload hx hb dX12_pivotsQuick_226 (lv_at hl 5 rfl) ?_
          refine lv_iload hx hb dX12_pivotsQuick_228 (lv_at hl 6 rfl) ?_
          refine lv_icmp_ge (tgt := 253) hx hb dX12_pivotsQuick_230 (by decide) (fun c_230 => ?_) (fun c_230 => ?_)
          · have t_230 : ((k2 : Nat) : Int) ≥ ((((R + Gq) * (C + 1)) : Nat) : Int) := toI_ge c_230 (nI_toInt (by omega)) (nI_toInt (by omega))
            refine lv_aload_n hx hb dX12_pivotsQuick_253 rfl (lv_at hl 0 rfl) ?_
            refine lv_iload hx hb dX12_pivotsQuick_254 (lv_at hl 4 rfl) ?_
            refine lv_i2l hx hb dX12_pivotsQuick_256 rfl ?_
            refine lv_topl (fun y34 hy34 => ?_)
            obtain rfl : (-1) = y34 := (hy34.trans (by decide)).symm
            refine lv_lload_n hx hb dX12_pivotsQuick_257 rfl (lv_at hl 3 rfl) ?_
            refine lv_lmul hx hb dX12_pivotsQuick_258 ?_
            refine va_put (D := (dC, dI)) (ci := 12) (v := .long ((-1) * ((vG 7) (rn * (C + 1) + cn)))) (ty := .long) (C := RX12) (T := TX12) (N := 163) (fs := fM (vS a vi vj)) hx hb hts iwsRX12_pivotsQuick_in12 tyX12 tyX12_ok nmX12 hown hK hP hD hS 0 rfl rfl 12 (by decide) (hts (.fieldLink RX12 426 "OptimaWorksModel" "quickDivisor" "J") (by decide +kernel)) (fun _ h9 => h9) rfl (by decide +kernel) rfl rfl (Nat.le_of_ble_eq_true rfl) dX12_pivotsQuick_259 (fun H locs hP hD hS => ?_)
            have hP : va_P (dC, dI) vwCl (WR a k h0 vi (fT vj 12 ((-1) * ((vG 7) (rn * (C + 1) + cn)))) vF (fT (fT vG 8 L8) 7 F)) H := by rw [← WR_l 12 _ rfl]; exact hP
            have hD : va_D A (WR a k h0 vi (fT vj 12 ((-1) * ((vG 7) (rn * (C + 1) + cn)))) vF (fT (fT vG 8 L8) 7 F)) := by rw [← WR_l 12 _ rfl]; exact hD
            refine lv_aload_n hx hb dX12_pivotsQuick_262 rfl (lv_at hl 0 rfl) ?_
            refine lv_iload_n hx hb dX12_pivotsQuick_263 rfl (lv_at hl 1 rfl) ?_
            refine lv_iload_n hx hb dX12_pivotsQuick_264 rfl (lv_at hl 2 rfl) ?_
            have hFc := allFree hD hS hA
            refine va_callv (va_runV (As := [.int (nI rn), .int (nI cn)]) (rest := []) ⟨hx, hb, hml, hown, hts⟩ (r_X12_exchange l dC dI a k h0 vi (fT vj 12 ((-1) * ((vG 7) (rn * (C + 1) + cn)))) vF (fT (fT vG 8 L8) 7 F) rn cn (by first | assumption | decide | omega | rfl) (by first | assumption | decide | omega | rfl) H.size) (cwV 2 hts gwsRX12_pivotsQuick_1 rfl rfl rfl (by decide +kernel) ⟨by decide +kernel, by decide +kernel⟩) ⟨fun a U g mk q => by obtain ⟨q0, q1, qP, qK, qD⟩ := q; exact ⟨q0, q1, qP, va_K.moved (u := U) (U := U.calling g mk a) (Vm.Alike.refl U.vm) qK, qD⟩, va_recv hK hP (ci := 12) (q0 := 0) rfl rfl, fun U hU9 hW => ⟨rfl, by rw [hU9], by rw [hU9]; exact hP, va_K.moved hW.alike hK, hD.weaken (fun _ _ _ _ => trivial)⟩⟩ rfl rfl hl.1 rfl (lv_room (Nat.le_of_ble_eq_true rfl)) dX12_pivotsQuick_265 ⟨by decide +kernel, by decide +kernel⟩) hS (fun q _ h => hFc q h) hFc (fun u t9_ H1 locs ht hvm hw9 hB9 hz1 hk1 hS => ?_)
            obtain ⟨hP1, hD1⟩ := hB9
            rw [ht] at hP1
            have hP := hP1
            have hD := hD1.weaken (fun _ q _ h => hFc q.1 h)
            generalize H1 = H at hP hS ⊢
            have hP : va_P (dC, dI) vwCl (WR a k h0 vi (fT vj 12 ((-1) * ((vG 7) (rn * (C + 1) + cn)))) (fT (fT vF 4 (upd (vF 4) (nI cn).toNatClampNeg ((vF 5) rn))) 5 (upd (vF 5) (nI rn).toNatClampNeg ((vF 4) cn))) (fT (fT vG 8 L8) 7 F)) H := hP
            have hD : va_D A (WR a k h0 vi (fT vj 12 ((-1) * ((vG 7) (rn * (C + 1) + cn)))) (fT (fT vF 4 (upd (vF 4) (nI cn).toNatClampNeg ((vF 5) rn))) 5 (upd (vF 5) (nI rn).toNatClampNeg ((vF 4) cn))) (fT (fT vG 8 L8) 7 F)) := hD
            refine lv_iconst (v := 1) hx hb dX12_pivotsQuick_268 (by decide) ?_
            refine W.widen (k := 0) (n := 0) (by decide +kernel) (by decide +kernel) ?_
            exact W.zret (v := 1) hx hb hr rfl (fun t9_ ht hW => ⟨⟨1, (((-1) * ((vG 7) (rn * (C + 1) + cn))), F, L8, (upd (vF 4) (nI cn).toNatClampNeg ((vF 5) rn)), (upd (vF 5) (nI rn).toNatClampNeg ((vF 4) cn))), rfl, by (try dsimp only); exact Or.inr ⟨rfl, ⟨fun p hp => by rw [hF p (by omega)]; exact hbq p (by rw [show i = R + Gq by omega]; exact hp), fun i2 hi2 j2 hj2 => by (have h9 := pl_lt hi2 hj2); rw [hF _ (by omega)]; exact hv i2 j2 hi2 hj2 (by rw [show i = R + Gq by omega]; exact h9), by (have bp := hQ.1 (rn * (C + 1) + cn) (pl_lt (by omega) (by omega))); (have ep := hQ.2.1 rn (by omega) cn (by omega)); rw [mone64 (by omega), sgI_n (x := t rn cn) (by omega), ep]; omega, by (have bp := hQ.1 (rn * (C + 1) + cn) (pl_lt (by omega) (by omega))); (have ep := hQ.2.1 rn (by omega) cn (by omega)); rw [sgI_n (x := t rn cn) (by omega)]; omega⟩, rfl, rfl⟩, by rw [ht]; exact hP, hD⟩, hS.F ht⟩) hS.2.2 dX12_pivotsQuick_269
          · have t_230 : ¬ ((k2 : Nat) : Int) ≥ ((((R + Gq) * (C + 1)) : Nat) : Int) := toI_nge c_230 (nI_toInt (by omega)) (nI_toInt (by omega))
            refine lv_aload_n hx hb dX12_pivotsQuick_233 rfl (lv_at hl 0 rfl) ?_
            refine va_get (D := (dC, dI)) (ci := 12) (v := .ref (a 7)) (C := RX12) (T := TX12) (N := 163) (fs := fM (vS a vi vj)) hx hb hts iwsRX12_pivotsQuick_in12 hown hK hP 0 rfl rfl 13 (by decide) (hts (.fieldLink RX12 33 "OptimaWorksModel" "fast" "[J") (by decide +kernel)) (fun _ h9 => h9) rfl dX12_pivotsQuick_234 ?_
            refine lv_iload hx hb dX12_pivotsQuick_237 (lv_at hl 5 rfl) ?_
            refine lv_aload_n hx hb dX12_pivotsQuick_239 rfl (lv_at hl 0 rfl) ?_
            refine va_get (D := (dC, dI)) (ci := 12) (v := .ref (a 8)) (C := RX12) (T := TX12) (N := 163) (fs := fM (vS a vi vj)) hx hb hts iwsRX12_pivotsQuick_in12 hown hK hP 0 rfl rfl 14 (by decide) (hts (.fieldLink RX12 36 "OptimaWorksModel" "later" "[J") (by decide +kernel)) (fun _ h9 => h9) rfl dX12_pivotsQuick_240 ?_
            refine lv_iload hx hb dX12_pivotsQuick_243 (lv_at hl 5 rfl) ?_
            refine va_lald (cA := k 8) (n := 1000) (f := L8) hx hb hK hP 9 8 (WR_get 8 (by decide)) (TR_get 8 (by decide)) (vp_in_nI (show k2 < 1000 by omega) (by omega)) dX12_pivotsQuick_245 ?_
            refine lv_topl (fun y35 hy35 => ?_)
            obtain rfl : (L8 k2) = y35 := (hy35.trans (by rw [nI_clamp (by omega)])).symm
            refine va_last (cA := k 7) (n := 1000) (f := F) hx hb hK hP hD hS 8 7 (WR_get 7 (by decide)) (TR_get 7 (by decide)) (vp_in_nI (show k2 < 1000 by omega) (by omega)) dX12_pivotsQuick_246 (fun H locs hP hD hS => ?_)
            have e9 : fT (fT vG 8 L8) 7 (vp_updL F ((nI k2)).toNatClampNeg (L8 k2)) = fT (fT (fT vG 8 L8) 7 F) 7 (vp_updL F ((nI k2)).toNatClampNeg (L8 k2)) := (fT_sm _ _ _ _).symm
            have hP : va_P (dC, dI) vwCl (WR a k h0 vi vj vF (fT (fT vG 8 L8) 7 (vp_updL F ((nI k2)).toNatClampNeg (L8 k2)))) H := by rw [e9, ← WR_G 7 (by decide) _ rfl]; exact hP
            have hD : va_D A (WR a k h0 vi vj vF (fT (fT vG 8 L8) 7 (vp_updL F ((nI k2)).toNatClampNeg (L8 k2)))) := by rw [e9, ← WR_G 7 (by decide) _ rfl]; exact hD
            clear e9
            refine lv_iinc (v := (nI (k2 + 1))) hx hb dX12_pivotsQuick_247 hl (k := 5) rfl (nI_add k2 1) (by decide) rfl (fun ls (hl : lv_has ls _ ([(7, .int (nI (k2 + 1))), (0, .ref h0), (1, .int (nI rn)), (2, .int (nI cn)), (3, .long ((vG 7) (rn * (C + 1) + cn))), (5, .int (-1)), (6, .int (nI ((R + Gq) * (C + 1))))])) => ?_)
            refine lv_goto (tgt := 226) hx hb dX12_pivotsQuick_250 (by decide) ?_
            have hl : lv_has _ _ ([(0, .ref h0), (1, .int (nI rn)), (2, .int (nI cn)), (3, .long ((vG 7) (rn * (C + 1) + cn))), (5, .int (-1)), (7, .int (nI (k2 + 1))), (6, .int (nI ((R + Gq) * (C + 1))))]) := lv_sub hl [1, 2, 3, 4, 5, 0, 6] rfl
            exact ih226_4 (k2 + 1) (vp_updL F ((nI k2)).toNatClampNeg (L8 k2)) _ _ _ (by omega) (fun p hp => by rw [updL_at (by omega)]; by_cases e9 : p = k2; (rw [if_pos e9, e9]); (rw [if_neg e9]; exact hF p (by omega))) (by omega) hP hD hS hl
      · have t_39 : ¬ ((i : Nat) : Int) ≥ (((R + Gq) : Nat) : Int) := toI_nge c_39 (nI_toInt (by omega)) (nI_toInt (by omega))
        refine lv_iconst (v := 0) hx hb dX12_pivotsQuick_42 (by decide) ?_
        refine lv_istore hx hb dX12_pivotsQuick_43 hl (by decide) rfl (fun ls (hl : lv_has ls _ ([(7, .int 0), (0, .ref h0), (1, .int (nI rn)), (2, .int (nI cn)), (3, .long ((vG 7) (rn * (C + 1) + cn))), (5, .int (-1)), (6, .int (nI i))])) => ?_)
        have hl : lv_has _ _ ([(0, .ref h0), (1, .int (nI rn)), (2, .int (nI cn)), (3, .long ((vG 7) (rn * (C + 1) + cn))), (5, .int (-1)), (6, .int (nI i)), (7, .int (nI 0))]) := lv_sub hl [1, 2, 3, 4, 5, 6, 0] rfl
        refine (fun (loop : ∀ (n9 : Nat) (j : Nat) (L8 : Nat → Int64) (H : Heap) (locs : List Loc) (ls : Array Slot), (j ≤ C + 1) → (∀ p, p < i * (C + 1) + j → -2147483648 < (L8 p).toInt ∧ (L8 p).toInt < 2147483648) → (∀ i2 j2, i2 < R + Gq → j2 ≤ C → i2 * (C + 1) + j2 < i * (C + 1) + j → (L8 (i2 * (C + 1) + j2)).toInt = nvT rn cn (sgI (t rn cn)) t D i2 j2) →  (C + 1 < j + n9) → va_P (dC, dI) vwCl (WR a k h0 vi vj vF (fT vG 8 L8)) H → va_D A (WR a k h0 vi vj vF (fT vG 8 L8)) → va_S A s.heap H locs → lv_has ls 12 [(0, .ref h0), (1, .int (nI rn)), (2, .int (nI cn)), (3, .long ((vG 7) (rn * (C + 1) + cn))), (5, .int (-1)), (6, .int (nI i)), (7, .int (nI j))] → W p l e _ s m _ below meth c H locs 0 0 _ (F0 m 45 ls [])) => loop (C + 2) 0 L8 _ _ _ (by omega) (hbq) (hv) (by omega) hP hD hS hl) ?_
        intro n9
        induction n9 with
        | zero => intro j L8 H locs ls hj hb2 hv2 hf9; exact False.elim (by omega)
        | succ n9 ih45_5 =>
          intro j L8 H locs ls hj hb2 hv2 hf45_5 hP hD hS hl
          refine lv_iload hx hb dX12_pivotsQuick_45 (lv_at hl 6 rfl) ?_
          refine lv_aload_n hx hb dX12_pivotsQuick_47 rfl (lv_at hl 0 rfl) ?_
          refine va_get (D := (dC, dI)) (ci := 12) (v := .int (vi 5)) (C := RX12) (T := TX12) (N := 163) (fs := fM (vS a vi vj)) hx hb hts iwsRX12_pivotsQuick_in12 hown hK hP 0 rfl rfl 5 (by decide) (hts (.fieldLink RX12 396 "OptimaWorksModel" "columns" "I") (by decide +kernel)) (fun _ h9 => h9) rfl dX12_pivotsQuick_48 ?_
          refine lv_topi (fun y36 hy36 => ?_)
          obtain rfl : (nI C) = y36 := (hy36.trans (hC)).symm
          refine lv_icmp_gt (tgt := 199) hx hb dX12_pivotsQuick_51 (by decide) (fun c_51 => ?_) (fun c_51 => ?_)
          · have t_51 : ((j : Nat) : Int) > ((C : Nat) : Int) := toI_gt c_51 (nI_toInt (by omega)) (nI_toInt (by omega))
            refine lv_iinc (v := (nI (i + 1))) hx hb dX12_pivotsQuick_199 hl (k := 5) rfl (nI_add i 1) (by decide) rfl (fun ls (hl : lv_has ls _ ([(6, .int (nI (i + 1))), (0, .ref h0), (1, .int (nI rn)), (2, .int (nI cn)), (3, .long ((vG 7) (rn * (C + 1) + cn))), (5, .int (-1)), (7, .int (nI j))])) => ?_)
            refine lv_goto (tgt := 28) hx hb dX12_pivotsQuick_202 (by decide) ?_
            have hl : lv_has _ _ ([(0, .ref h0), (1, .int (nI rn)), (2, .int (nI cn)), (3, .long ((vG 7) (rn * (C + 1) + cn))), (5, .int (-1)), (6, .int (nI (i + 1)))]) := lv_sub hl [1, 2, 3, 4, 5, 0] rfl
            exact ih28_3 (i + 1) L8 _ _ _ (by omega) (by (have e9 : (i + 1) * (C + 1) = i * (C + 1) + j := by rw [Nat.succ_mul]; omega); rw [e9]; exact hb2) (by (have e9 : (i + 1) * (C + 1) = i * (C + 1) + j := by rw [Nat.succ_mul]; omega); rw [e9]; exact hv2) (by omega) hP hD hS hl
          · have t_51 : ¬ ((j : Nat) : Int) > ((C : Nat) : Int) := toI_ngt c_51 (nI_toInt (by omega)) (nI_toInt (by omega))
            have hij9 := pl_lt (C := C) (show i < R + Gq by omega) (show j ≤ C by omega)
            refine lv_aload_n hx hb dX12_pivotsQuick_54 rfl (lv_at hl 0 rfl) ?_
            refine va_get (D := (dC, dI)) (ci := 12) (v := .ref (a 7)) (C := RX12) (T := TX12) (N := 163) (fs := fM (vS a vi vj)) hx hb hts iwsRX12_pivotsQuick_in12 hown hK hP 0 rfl rfl 13 (by decide) (hts (.fieldLink RX12 33 "OptimaWorksModel" "fast" "[J") (by decide +kernel)) (fun _ h9 => h9) rfl dX12_pivotsQuick_55 ?_
            refine lv_aload_n hx hb dX12_pivotsQuick_58 rfl (lv_at hl 0 rfl) ?_
            refine lv_iload hx hb dX12_pivotsQuick_59 (lv_at hl 5 rfl) ?_
            refine lv_iload hx hb dX12_pivotsQuick_61 (lv_at hl 6 rfl) ?_
            have hFc := allFree hD hS hA
            refine va_calli (va_runV (As := [.int (nI i), .int (nI j)]) (rest := [.ref (a 7)]) ⟨hx, hb, hml, hown, hts⟩ (r_X12_place1 l dC dI a k h0 vi vj vF (fT vG 8 L8) i j C (by first | assumption | decide | omega | rfl) H.size) (cwV 2 hts gwsRX12_pivotsQuick_0 rfl rfl rfl (by decide +kernel) ⟨by decide +kernel, by decide +kernel⟩) ⟨fun a U g mk q => by obtain ⟨q0, q1, qP, qK, qD⟩ := q; exact ⟨q0, q1, qP, va_K.moved (u := U) (U := U.calling g mk a) (Vm.Alike.refl U.vm) qK, qD⟩, va_recv hK hP (ci := 12) (q0 := 0) rfl rfl, fun U hU9 hW => ⟨rfl, by rw [hU9], by rw [hU9]; exact hP, va_K.moved hW.alike hK, hD.weaken (fun _ _ _ _ => trivial)⟩⟩ rfl rfl hl.1 rfl (lv_room (Nat.le_of_ble_eq_true rfl)) dX12_pivotsQuick_63 ⟨by decide +kernel, by decide +kernel⟩) hS (fun q _ h => hFc q h) hFc (fun r63_1 u t9_ H1 locs ht hvm hw9 hB9 hz1 hk1 hS => ?_)
            obtain ⟨hP1, hD1⟩ := hB9
            rw [ht] at hP1
            have hP := hP1
            have hD := hD1.weaken (fun _ q _ h => hFc q.1 h)
            generalize H1 = H at hP hS ⊢
            have hP : va_P (dC, dI) vwCl (WR a k h0 vi vj vF (fT vG 8 L8)) H := hP
            have hD : va_D A (WR a k h0 vi vj vF (fT vG 8 L8)) := hD
            obtain rfl := hw9
            refine va_lald (cA := k 7) (n := 1000) (f := (vG 7)) hx hb hK hP 8 7 (WR_get 7 (by decide)) (TR_get 7 (by decide)) (vp_in_nI (show (i * (C + 1) + j) < 1000 by omega) (by omega)) dX12_pivotsQuick_66 ?_
            refine lv_topl (fun y37 hy37 => ?_)
            obtain rfl : ((vG 7) (i * (C + 1) + j)) = y37 := (hy37.trans (by rw [nI_clamp (by omega)])).symm
            refine lv_lstore hx hb dX12_pivotsQuick_67 hl (by decide) rfl (fun ls (hl : lv_has ls _ ([(8, .long ((vG 7) (i * (C + 1) + j))), (0, .ref h0), (1, .int (nI rn)), (2, .int (nI cn)), (3, .long ((vG 7) (rn * (C + 1) + cn))), (5, .int (-1)), (6, .int (nI i)), (7, .int (nI j))])) => ?_)
            refine lv_iload hx hb dX12_pivotsQuick_69 (lv_at hl 6 rfl) ?_
            refine lv_iload_n hx hb dX12_pivotsQuick_71 rfl (lv_at hl 2 rfl) ?_
            refine lv_icmp_ne (tgt := 101) hx hb dX12_pivotsQuick_72 (by decide) (fun c_72 => ?_) (fun c_72 => ?_)
            · have t_72 : ((i : Nat) : Int) ≠ ((rn : Nat) : Int) := toI_ne c_72 (nI_toInt (by omega)) (nI_toInt (by omega))
              refine lv_iload hx hb dX12_pivotsQuick_101 (lv_at hl 7 rfl) ?_
              refine lv_iload_n hx hb dX12_pivotsQuick_103 rfl (lv_at hl 3 rfl) ?_
              refine lv_icmp_ne (tgt := 117) hx hb dX12_pivotsQuick_104 (by decide) (fun c_104 => ?_) (fun c_104 => ?_)
              · have t_104 : ((j : Nat) : Int) ≠ ((cn : Nat) : Int) := toI_ne c_104 (nI_toInt (by omega)) (nI_toInt (by omega))
                have hy9 := pl_lt (C := C) (show i < R + Gq by omega) (show cn ≤ C by omega)
                have hz9 := pl_lt (C := C) (show rn < R + Gq by omega) (show j ≤ C by omega)
                refine lv_iload hx hb dX12_pivotsQuick_117 (lv_at hl 5 rfl) ?_
                refine lv_i2l hx hb dX12_pivotsQuick_119 rfl ?_
                refine lv_topl (fun y38 hy38 => ?_)
                obtain rfl : (-1) = y38 := (hy38.trans (by decide)).symm
                refine lv_lload hx hb dX12_pivotsQuick_120 (lv_at hl 0 rfl) ?_
                refine lv_lload_n hx hb dX12_pivotsQuick_122 rfl (lv_at hl 4 rfl) ?_
                refine lv_lmul hx hb dX12_pivotsQuick_123 ?_
                refine lv_aload_n hx hb dX12_pivotsQuick_124 rfl (lv_at hl 1 rfl) ?_
                refine va_get (D := (dC, dI)) (ci := 12) (v := .ref (a 7)) (C := RX12) (T := TX12) (N := 163) (fs := fM (vS a vi vj)) hx hb hts iwsRX12_pivotsQuick_in12 hown hK hP 0 rfl rfl 13 (by decide) (hts (.fieldLink RX12 33 "OptimaWorksModel" "fast" "[J") (by decide +kernel)) (fun _ h9 => h9) rfl dX12_pivotsQuick_125 ?_
                refine lv_aload_n hx hb dX12_pivotsQuick_128 rfl (lv_at hl 1 rfl) ?_
                refine lv_iload hx hb dX12_pivotsQuick_129 (lv_at hl 6 rfl) ?_
                refine lv_iload_n hx hb dX12_pivotsQuick_131 rfl (lv_at hl 3 rfl) ?_
                have hFc := allFree hD hS hA
                refine va_calli (va_runV (As := [.int (nI i), .int (nI cn)]) (rest := [.ref (a 7), .long (((vG 7) (i * (C + 1) + j)) * ((vG 7) (rn * (C + 1) + cn))), .long (-1)]) ⟨hx, hb, hml, hown, hts⟩ (r_X12_place1 l dC dI a k h0 vi vj vF (fT vG 8 L8) i cn C (by first | assumption | decide | omega | rfl) H.size) (cwV 2 hts gwsRX12_pivotsQuick_0 rfl rfl rfl (by decide +kernel) ⟨by decide +kernel, by decide +kernel⟩) ⟨fun a U g mk q => by obtain ⟨q0, q1, qP, qK, qD⟩ := q; exact ⟨q0, q1, qP, va_K.moved (u := U) (U := U.calling g mk a) (Vm.Alike.refl U.vm) qK, qD⟩, va_recv hK hP (ci := 12) (q0 := 0) rfl rfl, fun U hU9 hW => ⟨rfl, by rw [hU9], by rw [hU9]; exact hP, va_K.moved hW.alike hK, hD.weaken (fun _ _ _ _ => trivial)⟩⟩ rfl rfl hl.1 rfl (lv_room (Nat.le_of_ble_eq_true rfl)) dX12_pivotsQuick_132 ⟨by decide +kernel, by decide +kernel⟩) hS (fun q _ h => hFc q h) hFc (fun r132_1 u t9_ H1 locs ht hvm hw9 hB9 hz1 hk1 hS => ?_)
                obtain ⟨hP1, hD1⟩ := hB9
                rw [ht] at hP1
                have hP := hP1
                have hD := hD1.weaken (fun _ q _ h => hFc q.1 h)
                generalize H1 = H at hP hS ⊢
                have hP : va_P (dC, dI) vwCl (WR a k h0 vi vj vF (fT vG 8 L8)) H := hP
                have hD : va_D A (WR a k h0 vi vj vF (fT vG 8 L8)) := hD
                obtain rfl := hw9
                refine va_lald (cA := k 7) (n := 1000) (f := (vG 7)) hx hb hK hP 8 7 (WR_get 7 (by decide)) (TR_get 7 (by decide)) (vp_in_nI (show (i * (C + 1) + cn) < 1000 by omega) (by omega)) dX12_pivotsQuick_135 ?_
                refine lv_topl (fun y39 hy39 => ?_)
                obtain rfl : ((vG 7) (i * (C + 1) + cn)) = y39 := (hy39.trans (by rw [nI_clamp (by omega)])).symm
                refine lv_aload_n hx hb dX12_pivotsQuick_136 rfl (lv_at hl 1 rfl) ?_
                refine va_get (D := (dC, dI)) (ci := 12) (v := .ref (a 7)) (C := RX12) (T := TX12) (N := 163) (fs := fM (vS a vi vj)) hx hb hts iwsRX12_pivotsQuick_in12 hown hK hP 0 rfl rfl 13 (by decide) (hts (.fieldLink RX12 33 "OptimaWorksModel" "fast" "[J") (by decide +kernel)) (fun _ h9 => h9) rfl dX12_pivotsQuick_137 ?_
                refine lv_aload_n hx hb dX12_pivotsQuick_140 rfl (lv_at hl 1 rfl) ?_
                refine lv_iload_n hx hb dX12_pivotsQuick_141 rfl (lv_at hl 2 rfl) ?_
                refine lv_iload hx hb dX12_pivotsQuick_142 (lv_at hl 7 rfl) ?_
                have hFc := allFree hD hS hA
                refine va_calli (va_runV (As := [.int (nI rn), .int (nI j)]) (rest := [.ref (a 7), .long ((vG 7) (i * (C + 1) + cn)), .long (((vG 7) (i * (C + 1) + j)) * ((vG 7) (rn * (C + 1) + cn))), .long (-1)]) ⟨hx, hb, hml, hown, hts⟩ (r_X12_place1 l dC dI a k h0 vi vj vF (fT vG 8 L8) rn j C (by first | assumption | decide | omega | rfl) H.size) (cwV 2 hts gwsRX12_pivotsQuick_0 rfl rfl rfl (by decide +kernel) ⟨by decide +kernel, by decide +kernel⟩) ⟨fun a U g mk q => by obtain ⟨q0, q1, qP, qK, qD⟩ := q; exact ⟨q0, q1, qP, va_K.moved (u := U) (U := U.calling g mk a) (Vm.Alike.refl U.vm) qK, qD⟩, va_recv hK hP (ci := 12) (q0 := 0) rfl rfl, fun U hU9 hW => ⟨rfl, by rw [hU9], by rw [hU9]; exact hP, va_K.moved hW.alike hK, hD.weaken (fun _ _ _ _ => trivial)⟩⟩ rfl rfl hl.1 rfl (lv_room (Nat.le_of_ble_eq_true rfl)) dX12_pivotsQuick_144 ⟨by decide +kernel, by decide +kernel⟩) hS (fun q _ h => hFc q h) hFc (fun r144_1 u t9_ H1 locs ht hvm hw9 hB9 hz1 hk1 hS => ?_)
                obtain ⟨hP1, hD1⟩ := hB9
                rw [ht] at hP1
                have hP := hP1
                have hD := hD1.weaken (fun _ q _ h => hFc q.1 h)
                generalize H1 = H at hP hS ⊢
                have hP : va_P (dC, dI) vwCl (WR a k h0 vi vj vF (fT vG 8 L8)) H := hP
                have hD : va_D A (WR a k h0 vi vj vF (fT vG 8 L8)) := hD
                obtain rfl := hw9
                refine va_lald (cA := k 7) (n := 1000) (f := (vG 7)) hx hb hK hP 8 7 (WR_get 7 (by decide)) (TR_get 7 (by decide)) (vp_in_nI (show (rn * (C + 1) + j) < 1000 by omega) (by omega)) dX12_pivotsQuick_147 ?_
                refine lv_topl (fun y40 hy40 => ?_)
                obtain rfl : ((vG 7) (rn * (C + 1) + j)) = y40 := (hy40.trans (by rw [nI_clamp (by omega)])).symm
                refine lv_lmul hx hb dX12_pivotsQuick_148 ?_
                refine lv_lsub hx hb dX12_pivotsQuick_149 ?_
                refine lv_aload_n hx hb dX12_pivotsQuick_150 rfl (lv_at hl 1 rfl) ?_
                refine va_get (D := (dC, dI)) (ci := 12) (v := .long (vj 12)) (C := RX12) (T := TX12) (N := 163) (fs := fM (vS a vi vj)) hx hb hts iwsRX12_pivotsQuick_in12 hown hK hP 0 rfl rfl 12 (by decide) (hts (.fieldLink RX12 426 "OptimaWorksModel" "quickDivisor" "J") (by decide +kernel)) (fun _ h9 => h9) rfl dX12_pivotsQuick_151 ?_
                refine lv_ldiv hx hb dX12_pivotsQuick_154 (by exact ne0_64 (by rw [hQ.2.2.1]; exact hDp)) ?_
                refine lv_lmul hx hb dX12_pivotsQuick_155 ?_
                have hij := pl_lt (C := C) (show i < R + Gq by omega) (show j ≤ C by omega)
                have bx := hQ.1 (i * (C + 1) + j) hij
                have ex := hQ.2.1 i (by omega) j (by omega)
                have gx := sgI_n (x := t rn cn) (by omega)
                have bp := hQ.1 (rn * (C + 1) + cn) (pl_lt (by omega) (by omega))
                have ep := hQ.2.1 rn (by omega) cn (by omega)
                have by9 := hQ.1 (i * (C + 1) + cn) (pl_lt (by omega) (by omega))
                have ey := hQ.2.1 i (by omega) cn (by omega)
                have bz := hQ.1 (rn * (C + 1) + j) (pl_lt (by omega) (by omega))
                have ez := hQ.2.1 rn (by omega) j (by omega)
                have q1 := mulQ bx bp
                have q2 := mulQ by9 bz
                have q3 : (vG 7 (i * (C + 1) + j) * vG 7 (rn * (C + 1) + cn) - vG 7 (i * (C + 1) + cn) * vG 7 (rn * (C + 1) + j)).toInt = (vG 7 (i * (C + 1) + j)).toInt * (vG 7 (rn * (C + 1) + cn)).toInt - (vG 7 (i * (C + 1) + cn)).toInt * (vG 7 (rn * (C + 1) + j)).toInt := by rw [sub64 (by omega) (by omega), q1.1, q2.1]
                have q4 := div64 (x := (vG 7 (i * (C + 1) + j) * vG 7 (rn * (C + 1) + cn) - vG 7 (i * (C + 1) + cn) * vG 7 (rn * (C + 1) + j))) (y := vj 12) (by omega) (by rw [hQ.2.2.1]; exact hDp)
                have ev : (((-1) * (((((vG 7) (i * (C + 1) + j)) * ((vG 7) (rn * (C + 1) + cn))) - (((vG 7) (i * (C + 1) + cn)) * ((vG 7) (rn * (C + 1) + j)))) / (vj 12)))).toInt = nvT rn cn (sgI (t rn cn)) t D i j := by rw [nv_in _ _ _ _ _ (by omega) (by omega), gx, mone64 (by omega), q4.1, q3, hQ.2.2.1, ex, ep, ey, ez, Int.sub_eq_add_neg, Int.neg_mul, Int.one_mul]; rw [Int.neg_mul, Int.one_mul]
                obtain ⟨vv, hvv⟩ : ∃ vv, vv = (((-1) * (((((vG 7) (i * (C + 1) + j)) * ((vG 7) (rn * (C + 1) + cn))) - (((vG 7) (i * (C + 1) + cn)) * ((vG 7) (rn * (C + 1) + j)))) / (vj 12))) : Int64) := ⟨_, rfl⟩
                rw [← hvv] at ev
                refine lv_topl (fun y41 hy41 => ?_)
                obtain rfl : vv = y41 := (hy41.trans (hvv.symm)).symm
                refine lv_lstore hx hb dX12_pivotsQuick_156 hl (by decide) rfl (fun ls (hl : lv_has ls _ ([(10, .long vv), (8, .long ((vG 7) (i * (C + 1) + j))), (0, .ref h0), (1, .int (nI rn)), (2, .int (nI cn)), (3, .long ((vG 7) (rn * (C + 1) + cn))), (5, .int (-1)), (6, .int (nI i)), (7, .int (nI j))])) => ?_)
                refine lv_lload hx hb dX12_pivotsQuick_158 (lv_at hl 0 rfl) ?_
                refine lv_ldc2 (v := 2147483648) hx hb hown (hts (.constantLong RX12 422 2147483648) (by decide +kernel)) dX12_pivotsQuick_160 ?_
                refine W.lcmp hx hb dX12_pivotsQuick_163 ?_
                refine lv_if_ge (tgt := 176) hx hb dX12_pivotsQuick_164 (by decide) (fun c_164 => ?_) (fun c_164 => ?_)
                · have t_164 : (vv).toInt ≥ 2147483648 := toL_ge c_164 rfl (by decide)
                  refine lv_iconst (v := 0) hx hb dX12_pivotsQuick_176 (by decide) ?_
                  refine W.widen (k := 0) (n := 0) (by decide +kernel) (by decide +kernel) ?_
                  have e9 : fT vj 12 (vj 12) = vj := fT_id _ _ (rfl)
                  have hP : va_P (dC, dI) vwCl (WR a k h0 vi (fT vj 12 (vj 12)) vF (fT vG 8 L8)) H := by rw [e9]; exact hP
                  have hD : va_D A (WR a k h0 vi (fT vj 12 (vj 12)) vF (fT vG 8 L8)) := by rw [e9]; exact hD
                  clear e9
                  have e9 : fT (fT vF 4 (vF 4)) 5 (vF 5) = vF := (fT_id _ _ (fT_ne _ _ (Nat.ne_of_beq_eq_false rfl))).trans (fT_id _ _ (rfl))
                  have hP : va_P (dC, dI) vwCl (WR a k h0 vi (fT vj 12 (vj 12)) (fT (fT vF 4 (vF 4)) 5 (vF 5)) (fT vG 8 L8)) H := by rw [e9]; exact hP
                  have hD : va_D A (WR a k h0 vi (fT vj 12 (vj 12)) (fT (fT vF 4 (vF 4)) 5 (vF 5)) (fT vG 8 L8)) := by rw [e9]; exact hD
                  clear e9
                  have e9 : fT (fT vG 8 L8) 7 (vG 7) = fT vG 8 L8 := fT_id _ _ (fT_ne _ _ (Nat.ne_of_beq_eq_false rfl))
                  have hP : va_P (dC, dI) vwCl (WR a k h0 vi (fT vj 12 (vj 12)) (fT (fT vF 4 (vF 4)) 5 (vF 5)) (fT (fT vG 8 L8) 7 (vG 7))) H := by rw [e9]; exact hP
                  have hD : va_D A (WR a k h0 vi (fT vj 12 (vj 12)) (fT (fT vF 4 (vF 4)) 5 (vF 5)) (fT (fT vG 8 L8) 7 (vG 7))) := by rw [e9]; exact hD
                  clear e9
                  exact W.zret (v := 0) hx hb hr rfl (fun t9_ ht hW => ⟨⟨0, ((vj 12), (vG 7), L8, (vF 4), (vF 5)), rfl, by (try dsimp only); exact Or.inl ⟨rfl, rfl, rfl, rfl, rfl⟩, by rw [ht]; exact hP, hD⟩, hS.F ht⟩) hS.2.2 dX12_pivotsQuick_177
                · have t_164 : ¬ (vv).toInt ≥ 2147483648 := toL_nge c_164 rfl (by decide)
                  refine lv_lload hx hb dX12_pivotsQuick_167 (lv_at hl 0 rfl) ?_
                  refine lv_ldc2 (v := (-2147483648)) hx hb hown (hts (.constantLong RX12 424 (-2147483648)) (by decide +kernel)) dX12_pivotsQuick_169 ?_
                  refine W.lcmp hx hb dX12_pivotsQuick_172 ?_
                  refine lv_if_gt (tgt := 178) hx hb dX12_pivotsQuick_173 (by decide) (fun c_173 => ?_) (fun c_173 => ?_)
                  · have t_173 : (vv).toInt > -2147483648 := toL_gt c_173 rfl (by decide)
                    refine lv_aload_n hx hb dX12_pivotsQuick_178 rfl (lv_at hl 2 rfl) ?_
                    refine va_get (D := (dC, dI)) (ci := 12) (v := .ref (a 8)) (C := RX12) (T := TX12) (N := 163) (fs := fM (vS a vi vj)) hx hb hts iwsRX12_pivotsQuick_in12 hown hK hP 0 rfl rfl 14 (by decide) (hts (.fieldLink RX12 36 "OptimaWorksModel" "later" "[J") (by decide +kernel)) (fun _ h9 => h9) rfl dX12_pivotsQuick_179 ?_
                    refine lv_aload_n hx hb dX12_pivotsQuick_182 rfl (lv_at hl 2 rfl) ?_
                    refine lv_iload hx hb dX12_pivotsQuick_183 (lv_at hl 7 rfl) ?_
                    refine lv_iload hx hb dX12_pivotsQuick_185 (lv_at hl 8 rfl) ?_
                    have hFc := allFree hD hS hA
                    refine va_calli (va_runV (As := [.int (nI i), .int (nI j)]) (rest := [.ref (a 8)]) ⟨hx, hb, hml, hown, hts⟩ (r_X12_place1 l dC dI a k h0 vi vj vF (fT vG 8 L8) i j C (by first | assumption | decide | omega | rfl) H.size) (cwV 2 hts gwsRX12_pivotsQuick_0 rfl rfl rfl (by decide +kernel) ⟨by decide +kernel, by decide +kernel⟩) ⟨fun a U g mk q => by obtain ⟨q0, q1, qP, qK, qD⟩ := q; exact ⟨q0, q1, qP, va_K.moved (u := U) (U := U.calling g mk a) (Vm.Alike.refl U.vm) qK, qD⟩, va_recv hK hP (ci := 12) (q0 := 0) rfl rfl, fun U hU9 hW => ⟨rfl, by rw [hU9], by rw [hU9]; exact hP, va_K.moved hW.alike hK, hD.weaken (fun _ _ _ _ => trivial)⟩⟩ rfl rfl hl.1 rfl (lv_room (Nat.le_of_ble_eq_true rfl)) dX12_pivotsQuick_187 ⟨by decide +kernel, by decide +kernel⟩) hS (fun q _ h => hFc q h) hFc (fun r187_4 u t9_ H1 locs ht hvm hw9 hB9 hz1 hk1 hS => ?_)
                    obtain ⟨hP1, hD1⟩ := hB9
                    rw [ht] at hP1
                    have hP := hP1
                    have hD := hD1.weaken (fun _ q _ h => hFc q.1 h)
                    generalize H1 = H at hP hS ⊢
                    have hP : va_P (dC, dI) vwCl (WR a k h0 vi vj vF (fT vG 8 L8)) H := hP
                    have hD : va_D A (WR a k h0 vi vj vF (fT vG 8 L8)) := hD
                    obtain rfl := hw9
                    refine lv_lload hx hb dX12_pivotsQuick_190 (lv_at hl 0 rfl) ?_
                    refine va_last (cA := k 8) (n := 1000) (f := L8) hx hb hK hP hD hS 9 8 (WR_get 8 (by decide)) (TR_get 8 (by decide)) (vp_in_nI (show (i * (C + 1) + j) < 1000 by omega) (by omega)) dX12_pivotsQuick_192 (fun H locs hP hD hS => ?_)
                    have e9 : fT vG 8 (vp_updL L8 ((nI (i * (C + 1) + j))).toNatClampNeg vv) = fT (fT vG 8 L8) 8 (vp_updL L8 ((nI (i * (C + 1) + j))).toNatClampNeg vv) := (fT_sm _ _ _ _).symm
                    have hP : va_P (dC, dI) vwCl (WR a k h0 vi vj vF (fT vG 8 (vp_updL L8 ((nI (i * (C + 1) + j))).toNatClampNeg vv))) H := by rw [e9, ← WR_G 8 (by decide) _ rfl]; exact hP
                    have hD : va_D A (WR a k h0 vi vj vF (fT vG 8 (vp_updL L8 ((nI (i * (C + 1) + j))).toNatClampNeg vv))) := by rw [e9, ← WR_G 8 (by decide) _ rfl]; exact hD
                    clear e9
                    refine lv_iinc (v := (nI (j + 1))) hx hb dX12_pivotsQuick_193 hl (k := 8) rfl (nI_add j 1) (by decide) rfl (fun ls (hl : lv_has ls _ ([(7, .int (nI (j + 1))), (10, .long vv), (8, .long ((vG 7) (i * (C + 1) + j))), (0, .ref h0), (1, .int (nI rn)), (2, .int (nI cn)), (3, .long ((vG 7) (rn * (C + 1) + cn))), (5, .int (-1)), (6, .int (nI i))])) => ?_)
                    refine lv_goto (tgt := 45) hx hb dX12_pivotsQuick_196 (by decide) ?_
                    have hl : lv_has _ _ ([(0, .ref h0), (1, .int (nI rn)), (2, .int (nI cn)), (3, .long ((vG 7) (rn * (C + 1) + cn))), (5, .int (-1)), (6, .int (nI i)), (7, .int (nI (j + 1)))]) := lv_sub hl [3, 4, 5, 6, 7, 8, 0] rfl
                    exact ih45_5 (j + 1) (vp_updL L8 ((nI (i * (C + 1) + j))).toNatClampNeg vv) _ _ _ (by omega) (fun p hp => by rw [updL_at (by omega)]; by_cases e9 : p = i * (C + 1) + j; (rw [if_pos e9]; omega); (rw [if_neg e9]; exact hb2 p (by omega))) (fun i2 j2 h1 h2 h3 => by rw [updL_at (by omega)]; by_cases e9 : i2 * (C + 1) + j2 = i * (C + 1) + j; (rw [if_pos e9, (pl_inj h2 (by omega) e9).1, (pl_inj h2 (by omega) e9).2]; exact ev); (rw [if_neg e9]; exact hv2 i2 j2 h1 h2 (by omega))) (by omega) hP hD hS hl
                  · have t_173 : ¬ (vv).toInt > -2147483648 := toL_ngt c_173 rfl (by decide)
                    refine lv_iconst (v := 0) hx hb dX12_pivotsQuick_176 (by decide) ?_
                    refine W.widen (k := 0) (n := 0) (by decide +kernel) (by decide +kernel) ?_
                    have e9 : fT vj 12 (vj 12) = vj := fT_id _ _ (rfl)
                    have hP : va_P (dC, dI) vwCl (WR a k h0 vi (fT vj 12 (vj 12)) vF (fT vG 8 L8)) H := by rw [e9]; exact hP
                    have hD : va_D A (WR a k h0 vi (fT vj 12 (vj 12)) vF (fT vG 8 L8)) := by rw [e9]; exact hD
                    clear e9
                    have e9 : fT (fT vF 4 (vF 4)) 5 (vF 5) = vF := (fT_id _ _ (fT_ne _ _ (Nat.ne_of_beq_eq_false rfl))).trans (fT_id _ _ (rfl))
                    have hP : va_P (dC, dI) vwCl (WR a k h0 vi (fT vj 12 (vj 12)) (fT (fT vF 4 (vF 4)) 5 (vF 5)) (fT vG 8 L8)) H := by rw [e9]; exact hP
                    have hD : va_D A (WR a k h0 vi (fT vj 12 (vj 12)) (fT (fT vF 4 (vF 4)) 5 (vF 5)) (fT vG 8 L8)) := by rw [e9]; exact hD
                    clear e9
                    have e9 : fT (fT vG 8 L8) 7 (vG 7) = fT vG 8 L8 := fT_id _ _ (fT_ne _ _ (Nat.ne_of_beq_eq_false rfl))
                    have hP : va_P (dC, dI) vwCl (WR a k h0 vi (fT vj 12 (vj 12)) (fT (fT vF 4 (vF 4)) 5 (vF 5)) (fT (fT vG 8 L8) 7 (vG 7))) H := by rw [e9]; exact hP
                    have hD : va_D A (WR a k h0 vi (fT vj 12 (vj 12)) (fT (fT vF 4 (vF 4)) 5 (vF 5)) (fT (fT vG 8 L8) 7 (vG 7))) := by rw [e9]; exact hD
                    clear e9
                    exact W.zret (v := 0) hx hb hr rfl (fun t9_ ht hW => ⟨⟨0, ((vj 12), (vG 7), L8, (vF 4), (vF 5)), rfl, by (try dsimp only); exact Or.inl ⟨rfl, rfl, rfl, rfl, rfl⟩, by rw [ht]; exact hP, hD⟩, hS.F ht⟩) hS.2.2 dX12_pivotsQuick_177
              · have t_104 : ((j : Nat) : Int) = ((cn : Nat) : Int) := toI_nne c_104 (nI_toInt (by omega)) (nI_toInt (by omega))
                refine lv_iload hx hb dX12_pivotsQuick_107 (lv_at hl 5 rfl) ?_
                refine lv_ineg hx hb dX12_pivotsQuick_109 ?_
                refine lv_i2l hx hb dX12_pivotsQuick_110 rfl ?_
                refine lv_lload hx hb dX12_pivotsQuick_111 (lv_at hl 0 rfl) ?_
                refine lv_lmul hx hb dX12_pivotsQuick_113 ?_
                refine lv_goto (tgt := 156) hx hb dX12_pivotsQuick_114 (by decide) ?_
                have hij := pl_lt (C := C) (show i < R + Gq by omega) (show j ≤ C by omega)
                have bx := hQ.1 (i * (C + 1) + j) hij
                have ex := hQ.2.1 i (by omega) j (by omega)
                have gx := sgI_n (x := t rn cn) (by omega)
                have ej : j = cn := by omega
                have ev : ((((-(-1))).toInt64 * ((vG 7) (i * (C + 1) + j)))).toInt = nvT rn cn (sgI (t rn cn)) t D i j := by show ((1 : Int64) * vG 7 (i * (C + 1) + j)).toInt = _; (have m9 := one64 (vG 7 (i * (C + 1) + j))); rw [ej, nv_col _ _ _ _ _ (by omega), gx]; rw [ej] at m9 ex; omega
                obtain ⟨vv, hvv⟩ : ∃ vv, vv = ((((-(-1))).toInt64 * ((vG 7) (i * (C + 1) + j))) : Int64) := ⟨_, rfl⟩
                rw [← hvv] at ev
                refine lv_topl (fun y42 hy42 => ?_)
                obtain rfl : vv = y42 := (hy42.trans (hvv.symm)).symm
                refine lv_lstore hx hb dX12_pivotsQuick_156 hl (by decide) rfl (fun ls (hl : lv_has ls _ ([(10, .long vv), (8, .long ((vG 7) (i * (C + 1) + j))), (0, .ref h0), (1, .int (nI rn)), (2, .int (nI cn)), (3, .long ((vG 7) (rn * (C + 1) + cn))), (5, .int (-1)), (6, .int (nI i)), (7, .int (nI j))])) => ?_)
                refine lv_lload hx hb dX12_pivotsQuick_158 (lv_at hl 0 rfl) ?_
                refine lv_ldc2 (v := 2147483648) hx hb hown (hts (.constantLong RX12 422 2147483648) (by decide +kernel)) dX12_pivotsQuick_160 ?_
                refine W.lcmp hx hb dX12_pivotsQuick_163 ?_
                refine lv_if_ge (tgt := 176) hx hb dX12_pivotsQuick_164 (by decide) (fun c_164 => ?_) (fun c_164 => ?_)
                · have t_164 : (vv).toInt ≥ 2147483648 := toL_ge c_164 rfl (by decide)
                  refine lv_iconst (v := 0) hx hb dX12_pivotsQuick_176 (by decide) ?_
                  refine W.widen (k := 0) (n := 0) (by decide +kernel) (by decide +kernel) ?_
                  have e9 : fT vj 12 (vj 12) = vj := fT_id _ _ (rfl)
                  have hP : va_P (dC, dI) vwCl (WR a k h0 vi (fT vj 12 (vj 12)) vF (fT vG 8 L8)) H := by rw [e9]; exact hP
                  have hD : va_D A (WR a k h0 vi (fT vj 12 (vj 12)) vF (fT vG 8 L8)) := by rw [e9]; exact hD
                  clear e9
                  have e9 : fT (fT vF 4 (vF 4)) 5 (vF 5) = vF := (fT_id _ _ (fT_ne _ _ (Nat.ne_of_beq_eq_false rfl))).trans (fT_id _ _ (rfl))
                  have hP : va_P (dC, dI) vwCl (WR a k h0 vi (fT vj 12 (vj 12)) (fT (fT vF 4 (vF 4)) 5 (vF 5)) (fT vG 8 L8)) H := by rw [e9]; exact hP
                  have hD : va_D A (WR a k h0 vi (fT vj 12 (vj 12)) (fT (fT vF 4 (vF 4)) 5 (vF 5)) (fT vG 8 L8)) := by rw [e9]; exact hD
                  clear e9
                  have e9 : fT (fT vG 8 L8) 7 (vG 7) = fT vG 8 L8 := fT_id _ _ (fT_ne _ _ (Nat.ne_of_beq_eq_false rfl))
                  have hP : va_P (dC, dI) vwCl (WR a k h0 vi (fT vj 12 (vj 12)) (fT (fT vF 4 (vF 4)) 5 (vF 5)) (fT (fT vG 8 L8) 7 (vG 7))) H := by rw [e9]; exact hP
                  have hD : va_D A (WR a k h0 vi (fT vj 12 (vj 12)) (fT (fT vF 4 (vF 4)) 5 (vF 5)) (fT (fT vG 8 L8) 7 (vG 7))) := by rw [e9]; exact hD
                  clear e9
                  exact W.zret (v := 0) hx hb hr rfl (fun t9_ ht hW => ⟨⟨0, ((vj 12), (vG 7), L8, (vF 4), (vF 5)), rfl, by (try dsimp only); exact Or.inl ⟨rfl, rfl, rfl, rfl, rfl⟩, by rw [ht]; exact hP, hD⟩, hS.F ht⟩) hS.2.2 dX12_pivotsQuick_177
                · have t_164 : ¬ (vv).toInt ≥ 2147483648 := toL_nge c_164 rfl (by decide)
                  refine lv_lload hx hb dX12_pivotsQuick_167 (lv_at hl 0 rfl) ?_
                  refine lv_ldc2 (v := (-2147483648)) hx hb hown (hts (.constantLong RX12 424 (-2147483648)) (by decide +kernel)) dX12_pivotsQuick_169 ?_
                  refine W.lcmp hx hb dX12_pivotsQuick_172 ?_
                  refine lv_if_gt (tgt := 178) hx hb dX12_pivotsQuick_173 (by decide) (fun c_173 => ?_) (fun c_173 => ?_)
                  · have t_173 : (vv).toInt > -2147483648 := toL_gt c_173 rfl (by decide)
                    refine lv_aload_n hx hb dX12_pivotsQuick_178 rfl (lv_at hl 2 rfl) ?_
                    refine va_get (D := (dC, dI)) (ci := 12) (v := .ref (a 8)) (C := RX12) (T := TX12) (N := 163) (fs := fM (vS a vi vj)) hx hb hts iwsRX12_pivotsQuick_in12 hown hK hP 0 rfl rfl 14 (by decide) (hts (.fieldLink RX12 36 "OptimaWorksModel" "later" "[J") (by decide +kernel)) (fun _ h9 => h9) rfl dX12_pivotsQuick_179 ?_
                    refine lv_aload_n hx hb dX12_pivotsQuick_182 rfl (lv_at hl 2 rfl) ?_
                    refine lv_iload hx hb dX12_pivotsQuick_183 (lv_at hl 7 rfl) ?_
                    refine lv_iload hx hb dX12_pivotsQuick_185 (lv_at hl 8 rfl) ?_
                    have hFc := allFree hD hS hA
                    refine va_calli (va_runV (As := [.int (nI i), .int (nI j)]) (rest := [.ref (a 8)]) ⟨hx, hb, hml, hown, hts⟩ (r_X12_place1 l dC dI a k h0 vi vj vF (fT vG 8 L8) i j C (by first | assumption | decide | omega | rfl) H.size) (cwV 2 hts gwsRX12_pivotsQuick_0 rfl rfl rfl (by decide +kernel) ⟨by decide +kernel, by decide +kernel⟩) ⟨fun a U g mk q => by obtain ⟨q0, q1, qP, qK, qD⟩ := q; exact ⟨q0, q1, qP, va_K.moved (u := U) (U := U.calling g mk a) (Vm.Alike.refl U.vm) qK, qD⟩, va_recv hK hP (ci := 12) (q0 := 0) rfl rfl, fun U hU9 hW => ⟨rfl, by rw [hU9], by rw [hU9]; exact hP, va_K.moved hW.alike hK, hD.weaken (fun _ _ _ _ => trivial)⟩⟩ rfl rfl hl.1 rfl (lv_room (Nat.le_of_ble_eq_true rfl)) dX12_pivotsQuick_187 ⟨by decide +kernel, by decide +kernel⟩) hS (fun q _ h => hFc q h) hFc (fun r187_5 u t9_ H1 locs ht hvm hw9 hB9 hz1 hk1 hS => ?_)
                    obtain ⟨hP1, hD1⟩ := hB9
                    rw [ht] at hP1
                    have hP := hP1
                    have hD := hD1.weaken (fun _ q _ h => hFc q.1 h)
                    generalize H1 = H at hP hS ⊢
                    have hP : va_P (dC, dI) vwCl (WR a k h0 vi vj vF (fT vG 8 L8)) H := hP
                    have hD : va_D A (WR a k h0 vi vj vF (fT vG 8 L8)) := hD
                    obtain rfl := hw9
                    refine lv_lload hx hb dX12_pivotsQuick_190 (lv_at hl 0 rfl) ?_
                    refine va_last (cA := k 8) (n := 1000) (f := L8) hx hb hK hP hD hS 9 8 (WR_get 8 (by decide)) (TR_get 8 (by decide)) (vp_in_nI (show (i * (C + 1) + j) < 1000 by omega) (by omega)) dX12_pivotsQuick_192 (fun H locs hP hD hS => ?_)
                    have e9 : fT vG 8 (vp_updL L8 ((nI (i * (C + 1) + j))).toNatClampNeg vv) = fT (fT vG 8 L8) 8 (vp_updL L8 ((nI (i * (C + 1) + j))).toNatClampNeg vv) := (fT_sm _ _ _ _).symm
                    have hP : va_P (dC, dI) vwCl (WR a k h0 vi vj vF (fT vG 8 (vp_updL L8 ((nI (i * (C + 1) + j))).toNatClampNeg vv))) H := by rw [e9, ← WR_G 8 (by decide) _ rfl]; exact hP
                    have hD : va_D A (WR a k h0 vi vj vF (fT vG 8 (vp_updL L8 ((nI (i * (C + 1) + j))).toNatClampNeg vv))) := by rw [e9, ← WR_G 8 (by decide) _ rfl]; exact hD
                    clear e9
                    refine lv_iinc (v := (nI (j + 1))) hx hb dX12_pivotsQuick_193 hl (k := 8) rfl (nI_add j 1) (by decide) rfl (fun ls (hl : lv_has ls _ ([(7, .int (nI (j + 1))), (10, .long vv), (8, .long ((vG 7) (i * (C + 1) + j))), (0, .ref h0), (1, .int (nI rn)), (2, .int (nI cn)), (3, .long ((vG 7) (rn * (C + 1) + cn))), (5, .int (-1)), (6, .int (nI i))])) => ?_)
                    refine lv_goto (tgt := 45) hx hb dX12_pivotsQuick_196 (by decide) ?_
                    have hl : lv_has _ _ ([(0, .ref h0), (1, .int (nI rn)), (2, .int (nI cn)), (3, .long ((vG 7) (rn * (C + 1) + cn))), (5, .int (-1)), (6, .int (nI i)), (7, .int (nI (j + 1)))]) := lv_sub hl [3, 4, 5, 6, 7, 8, 0] rfl
                    exact ih45_5 (j + 1) (vp_updL L8 ((nI (i * (C + 1) + j))).toNatClampNeg vv) _ _ _ (by omega) (fun p hp => by rw [updL_at (by omega)]; by_cases e9 : p = i * (C + 1) + j; (rw [if_pos e9]; omega); (rw [if_neg e9]; exact hb2 p (by omega))) (fun i2 j2 h1 h2 h3 => by rw [updL_at (by omega)]; by_cases e9 : i2 * (C + 1) + j2 = i * (C + 1) + j; (rw [if_pos e9, (pl_inj h2 (by omega) e9).1, (pl_inj h2 (by omega) e9).2]; exact ev); (rw [if_neg e9]; exact hv2 i2 j2 h1 h2 (by omega))) (by omega) hP hD hS hl
                  · have t_173 : ¬ (vv).toInt > -2147483648 := toL_ngt c_173 rfl (by decide)
                    refine lv_iconst (v := 0) hx hb dX12_pivotsQuick_176 (by decide) ?_
                    refine W.widen (k := 0) (n := 0) (by decide +kernel) (by decide +kernel) ?_
                    have e9 : fT vj 12 (vj 12) = vj := fT_id _ _ (rfl)
                    have hP : va_P (dC, dI) vwCl (WR a k h0 vi (fT vj 12 (vj 12)) vF (fT vG 8 L8)) H := by rw [e9]; exact hP
                    have hD : va_D A (WR a k h0 vi (fT vj 12 (vj 12)) vF (fT vG 8 L8)) := by rw [e9]; exact hD
                    clear e9
                    have e9 : fT (fT vF 4 (vF 4)) 5 (vF 5) = vF := (fT_id _ _ (fT_ne _ _ (Nat.ne_of_beq_eq_false rfl))).trans (fT_id _ _ (rfl))
                    have hP : va_P (dC, dI) vwCl (WR a k h0 vi (fT vj 12 (vj 12)) (fT (fT vF 4 (vF 4)) 5 (vF 5)) (fT vG 8 L8)) H := by rw [e9]; exact hP
                    have hD : va_D A (WR a k h0 vi (fT vj 12 (vj 12)) (fT (fT vF 4 (vF 4)) 5 (vF 5)) (fT vG 8 L8)) := by rw [e9]; exact hD
                    clear e9
                    have e9 : fT (fT vG 8 L8) 7 (vG 7) = fT vG 8 L8 := fT_id _ _ (fT_ne _ _ (Nat.ne_of_beq_eq_false rfl))
                    have hP : va_P (dC, dI) vwCl (WR a k h0 vi (fT vj 12 (vj 12)) (fT (fT vF 4 (vF 4)) 5 (vF 5)) (fT (fT vG 8 L8) 7 (vG 7))) H := by rw [e9]; exact hP
                    have hD : va_D A (WR a k h0 vi (fT vj 12 (vj 12)) (fT (fT vF 4 (vF 4)) 5 (vF 5)) (fT (fT vG 8 L8) 7 (vG 7))) := by rw [e9]; exact hD
                    clear e9
                    exact W.zret (v := 0) hx hb hr rfl (fun t9_ ht hW => ⟨⟨0, ((vj 12), (vG 7), L8, (vF 4), (vF 5)), rfl, by (try dsimp only); exact Or.inl ⟨rfl, rfl, rfl, rfl, rfl⟩, by rw [ht]; exact hP, hD⟩, hS.F ht⟩) hS.2.2 dX12_pivotsQuick_177
            · have t_72 : ((i : Nat) : Int) = ((rn : Nat) : Int) := toI_nne c_72 (nI_toInt (by omega)) (nI_toInt (by omega))
              refine lv_iload hx hb dX12_pivotsQuick_75 (lv_at hl 7 rfl) ?_
              refine lv_iload_n hx hb dX12_pivotsQuick_77 rfl (lv_at hl 3 rfl) ?_
              refine lv_icmp_ne (tgt := 92) hx hb dX12_pivotsQuick_78 (by decide) (fun c_78 => ?_) (fun c_78 => ?_)
              · have t_78 : ((j : Nat) : Int) ≠ ((cn : Nat) : Int) := toI_ne c_78 (nI_toInt (by omega)) (nI_toInt (by omega))
                refine lv_iload hx hb dX12_pivotsQuick_92 (lv_at hl 5 rfl) ?_
                refine lv_i2l hx hb dX12_pivotsQuick_94 rfl ?_
                refine lv_topl (fun y43 hy43 => ?_)
                obtain rfl : (-1) = y43 := (hy43.trans (by decide)).symm
                refine lv_lload hx hb dX12_pivotsQuick_95 (lv_at hl 0 rfl) ?_
                refine lv_lmul hx hb dX12_pivotsQuick_97 ?_
                refine lv_goto (tgt := 156) hx hb dX12_pivotsQuick_98 (by decide) ?_
                have hij := pl_lt (C := C) (show i < R + Gq by omega) (show j ≤ C by omega)
                have bx := hQ.1 (i * (C + 1) + j) hij
                have ex := hQ.2.1 i (by omega) j (by omega)
                have gx := sgI_n (x := t rn cn) (by omega)
                have ei : i = rn := by omega
                have ev : (((-1) * ((vG 7) (i * (C + 1) + j)))).toInt = nvT rn cn (sgI (t rn cn)) t D i j := by (have m9 := mone64 (x := vG 7 (i * (C + 1) + j)) (by omega)); rw [ei, nv_row _ _ _ _ _ (by omega), gx]; rw [ei] at m9 ex; omega
                obtain ⟨vv, hvv⟩ : ∃ vv, vv = (((-1) * ((vG 7) (i * (C + 1) + j))) : Int64) := ⟨_, rfl⟩
                rw [← hvv] at ev
                refine lv_topl (fun y44 hy44 => ?_)
                obtain rfl : vv = y44 := (hy44.trans (hvv.symm)).symm
                refine lv_lstore hx hb dX12_pivotsQuick_156 hl (by decide) rfl (fun ls (hl : lv_has ls _ ([(10, .long vv), (8, .long ((vG 7) (i * (C + 1) + j))), (0, .ref h0), (1, .int (nI rn)), (2, .int (nI cn)), (3, .long ((vG 7) (rn * (C + 1) + cn))), (5, .int (-1)), (6, .int (nI i)), (7, .int (nI j))])) => ?_)
                refine lv_lload hx hb dX12_pivotsQuick_158 (lv_at hl 0 rfl) ?_
                refine lv_ldc2 (v := 2147483648) hx hb hown (hts (.constantLong RX12 422 2147483648) (by decide +kernel)) dX12_pivotsQuick_160 ?_
                refine W.lcmp hx hb dX12_pivotsQuick_163 ?_
                refine lv_if_ge (tgt := 176) hx hb dX12_pivotsQuick_164 (by decide) (fun c_164 => ?_) (fun c_164 => ?_)
                · have t_164 : (vv).toInt ≥ 2147483648 := toL_ge c_164 rfl (by decide)
                  refine lv_iconst (v := 0) hx hb dX12_pivotsQuick_176 (by decide) ?_
                  refine W.widen (k := 0) (n := 0) (by decide +kernel) (by decide +kernel) ?_
                  have e9 : fT vj 12 (vj 12) = vj := fT_id _ _ (rfl)
                  have hP : va_P (dC, dI) vwCl (WR a k h0 vi (fT vj 12 (vj 12)) vF (fT vG 8 L8)) H := by rw [e9]; exact hP
                  have hD : va_D A (WR a k h0 vi (fT vj 12 (vj 12)) vF (fT vG 8 L8)) := by rw [e9]; exact hD
                  clear e9
                  have e9 : fT (fT vF 4 (vF 4)) 5 (vF 5) = vF := (fT_id _ _ (fT_ne _ _ (Nat.ne_of_beq_eq_false rfl))).trans (fT_id _ _ (rfl))
                  have hP : va_P (dC, dI) vwCl (WR a k h0 vi (fT vj 12 (vj 12)) (fT (fT vF 4 (vF 4)) 5 (vF 5)) (fT vG 8 L8)) H := by rw [e9]; exact hP
                  have hD : va_D A (WR a k h0 vi (fT vj 12 (vj 12)) (fT (fT vF 4 (vF 4)) 5 (vF 5)) (fT vG 8 L8)) := by rw [e9]; exact hD
                  clear e9
                  have e9 : fT (fT vG 8 L8) 7 (vG 7) = fT vG 8 L8 := fT_id _ _ (fT_ne _ _ (Nat.ne_of_beq_eq_false rfl))
                  have hP : va_P (dC, dI) vwCl (WR a k h0 vi (fT vj 12 (vj 12)) (fT (fT vF 4 (vF 4)) 5 (vF 5)) (fT (fT vG 8 L8) 7 (vG 7))) H := by rw [e9]; exact hP
                  have hD : va_D A (WR a k h0 vi (fT vj 12 (vj 12)) (fT (fT vF 4 (vF 4)) 5 (vF 5)) (fT (fT vG 8 L8) 7 (vG 7))) := by rw [e9]; exact hD
                  clear e9
                  exact W.zret (v := 0) hx hb hr rfl (fun t9_ ht hW => ⟨⟨0, ((vj 12), (vG 7), L8, (vF 4), (vF 5)), rfl, by (try dsimp only); exact Or.inl ⟨rfl, rfl, rfl, rfl, rfl⟩, by rw [ht]; exact hP, hD⟩, hS.F ht⟩) hS.2.2 dX12_pivotsQuick_177
                · have t_164 : ¬ (vv).toInt ≥ 2147483648 := toL_nge c_164 rfl (by decide)
                  refine lv_lload hx hb dX12_pivotsQuick_167 (lv_at hl 0 rfl) ?_
                  refine lv_ldc2 (v := (-2147483648)) hx hb hown (hts (.constantLong RX12 424 (-2147483648)) (by decide +kernel)) dX12_pivotsQuick_169 ?_
                  refine W.lcmp hx hb dX12_pivotsQuick_172 ?_
                  refine lv_if_gt (tgt := 178) hx hb dX12_pivotsQuick_173 (by decide) (fun c_173 => ?_) (fun c_173 => ?_)
                  · have t_173 : (vv).toInt > -2147483648 := toL_gt c_173 rfl (by decide)
                    refine lv_aload_n hx hb dX12_pivotsQuick_178 rfl (lv_at hl 2 rfl) ?_
                    refine va_get (D := (dC, dI)) (ci := 12) (v := .ref (a 8)) (C := RX12) (T := TX12) (N := 163) (fs := fM (vS a vi vj)) hx hb hts iwsRX12_pivotsQuick_in12 hown hK hP 0 rfl rfl 14 (by decide) (hts (.fieldLink RX12 36 "OptimaWorksModel" "later" "[J") (by decide +kernel)) (fun _ h9 => h9) rfl dX12_pivotsQuick_179 ?_
                    refine lv_aload_n hx hb dX12_pivotsQuick_182 rfl (lv_at hl 2 rfl) ?_
                    refine lv_iload hx hb dX12_pivotsQuick_183 (lv_at hl 7 rfl) ?_
                    refine lv_iload hx hb dX12_pivotsQuick_185 (lv_at hl 8 rfl) ?_
                    have hFc := allFree hD hS hA
                    refine va_calli (va_runV (As := [.int (nI i), .int (nI j)]) (rest := [.ref (a 8)]) ⟨hx, hb, hml, hown, hts⟩ (r_X12_place1 l dC dI a k h0 vi vj vF (fT vG 8 L8) i j C (by first | assumption | decide | omega | rfl) H.size) (cwV 2 hts gwsRX12_pivotsQuick_0 rfl rfl rfl (by decide +kernel) ⟨by decide +kernel, by decide +kernel⟩) ⟨fun a U g mk q => by obtain ⟨q0, q1, qP, qK, qD⟩ := q; exact ⟨q0, q1, qP, va_K.moved (u := U) (U := U.calling g mk a) (Vm.Alike.refl U.vm) qK, qD⟩, va_recv hK hP (ci := 12) (q0 := 0) rfl rfl, fun U hU9 hW => ⟨rfl, by rw [hU9], by rw [hU9]; exact hP, va_K.moved hW.alike hK, hD.weaken (fun _ _ _ _ => trivial)⟩⟩ rfl rfl hl.1 rfl (lv_room (Nat.le_of_ble_eq_true rfl)) dX12_pivotsQuick_187 ⟨by decide +kernel, by decide +kernel⟩) hS (fun q _ h => hFc q h) hFc (fun r187_6 u t9_ H1 locs ht hvm hw9 hB9 hz1 hk1 hS => ?_)
                    obtain ⟨hP1, hD1⟩ := hB9
                    rw [ht] at hP1
                    have hP := hP1
                    have hD := hD1.weaken (fun _ q _ h => hFc q.1 h)
                    generalize H1 = H at hP hS ⊢
                    have hP : va_P (dC, dI) vwCl (WR a k h0 vi vj vF (fT vG 8 L8)) H := hP
                    have hD : va_D A (WR a k h0 vi vj vF (fT vG 8 L8)) := hD
                    obtain rfl := hw9
                    refine lv_lload hx hb dX12_pivotsQuick_190 (lv_at hl 0 rfl) ?_
                    refine va_last (cA := k 8) (n := 1000) (f := L8) hx hb hK hP hD hS 9 8 (WR_get 8 (by decide)) (TR_get 8 (by decide)) (vp_in_nI (show (i * (C + 1) + j) < 1000 by omega) (by omega)) dX12_pivotsQuick_192 (fun H locs hP hD hS => ?_)
                    have e9 : fT vG 8 (vp_updL L8 ((nI (i * (C + 1) + j))).toNatClampNeg vv) = fT (fT vG 8 L8) 8 (vp_updL L8 ((nI (i * (C + 1) + j))).toNatClampNeg vv) := (fT_sm _ _ _ _).symm
                    have hP : va_P (dC, dI) vwCl (WR a k h0 vi vj vF (fT vG 8 (vp_updL L8 ((nI (i * (C + 1) + j))).toNatClampNeg vv))) H := by rw [e9, ← WR_G 8 (by decide) _ rfl]; exact hP
                    have hD : va_D A (WR a k h0 vi vj vF (fT vG 8 (vp_updL L8 ((nI (i * (C + 1) + j))).toNatClampNeg vv))) := by rw [e9, ← WR_G 8 (by decide) _ rfl]; exact hD
                    clear e9
                    refine lv_iinc (v := (nI (j + 1))) hx hb dX12_pivotsQuick_193 hl (k := 8) rfl (nI_add j 1) (by decide) rfl (fun ls (hl : lv_has ls _ ([(7, .int (nI (j + 1))), (10, .long vv), (8, .long ((vG 7) (i * (C + 1) + j))), (0, .ref h0), (1, .int (nI rn)), (2, .int (nI cn)), (3, .long ((vG 7) (rn * (C + 1) + cn))), (5, .int (-1)), (6, .int (nI i))])) => ?_)
                    refine lv_goto (tgt := 45) hx hb dX12_pivotsQuick_196 (by decide) ?_
                    have hl : lv_has _ _ ([(0, .ref h0), (1, .int (nI rn)), (2, .int (nI cn)), (3, .long ((vG 7) (rn * (C + 1) + cn))), (5, .int (-1)), (6, .int (nI i)), (7, .int (nI (j + 1)))]) := lv_sub hl [3, 4, 5, 6, 7, 8, 0] rfl
                    exact ih45_5 (j + 1) (vp_updL L8 ((nI (i * (C + 1) + j))).toNatClampNeg vv) _ _ _ (by omega) (fun p hp => by rw [updL_at (by omega)]; by_cases e9 : p = i * (C + 1) + j; (rw [if_pos e9]; omega); (rw [if_neg e9]; exact hb2 p (by omega))) (fun i2 j2 h1 h2 h3 => by rw [updL_at (by omega)]; by_cases e9 : i2 * (C + 1) + j2 = i * (C + 1) + j; (rw [if_pos e9, (pl_inj h2 (by omega) e9).1, (pl_inj h2 (by omega) e9).2]; exact ev); (rw [if_neg e9]; exact hv2 i2 j2 h1 h2 (by omega))) (by omega) hP hD hS hl
                  · have t_173 : ¬ (vv).toInt > -2147483648 := toL_ngt c_173 rfl (by decide)
                    refine lv_iconst (v := 0) hx hb dX12_pivotsQuick_176 (by decide) ?_
                    refine W.widen (k := 0) (n := 0) (by decide +kernel) (by decide +kernel) ?_
                    have e9 : fT vj 12 (vj 12) = vj := fT_id _ _ (rfl)
                    have hP : va_P (dC, dI) vwCl (WR a k h0 vi (fT vj 12 (vj 12)) vF (fT vG 8 L8)) H := by rw [e9]; exact hP
                    have hD : va_D A (WR a k h0 vi (fT vj 12 (vj 12)) vF (fT vG 8 L8)) := by rw [e9]; exact hD
                    clear e9
                    have e9 : fT (fT vF 4 (vF 4)) 5 (vF 5) = vF := (fT_id _ _ (fT_ne _ _ (Nat.ne_of_beq_eq_false rfl))).trans (fT_id _ _ (rfl))
                    have hP : va_P (dC, dI) vwCl (WR a k h0 vi (fT vj 12 (vj 12)) (fT (fT vF 4 (vF 4)) 5 (vF 5)) (fT vG 8 L8)) H := by rw [e9]; exact hP
                    have hD : va_D A (WR a k h0 vi (fT vj 12 (vj 12)) (fT (fT vF 4 (vF 4)) 5 (vF 5)) (fT vG 8 L8)) := by rw [e9]; exact hD
                    clear e9
                    have e9 : fT (fT vG 8 L8) 7 (vG 7) = fT vG 8 L8 := fT_id _ _ (fT_ne _ _ (Nat.ne_of_beq_eq_false rfl))
                    have hP : va_P (dC, dI) vwCl (WR a k h0 vi (fT vj 12 (vj 12)) (fT (fT vF 4 (vF 4)) 5 (vF 5)) (fT (fT vG 8 L8) 7 (vG 7))) H := by rw [e9]; exact hP
                    have hD : va_D A (WR a k h0 vi (fT vj 12 (vj 12)) (fT (fT vF 4 (vF 4)) 5 (vF 5)) (fT (fT vG 8 L8) 7 (vG 7))) := by rw [e9]; exact hD
                    clear e9
                    exact W.zret (v := 0) hx hb hr rfl (fun t9_ ht hW => ⟨⟨0, ((vj 12), (vG 7), L8, (vF 4), (vF 5)), rfl, by (try dsimp only); exact Or.inl ⟨rfl, rfl, rfl, rfl, rfl⟩, by rw [ht]; exact hP, hD⟩, hS.F ht⟩) hS.2.2 dX12_pivotsQuick_177
              · have t_78 : ((j : Nat) : Int) = ((cn : Nat) : Int) := toI_nne c_78 (nI_toInt (by omega)) (nI_toInt (by omega))
                refine lv_iload hx hb dX12_pivotsQuick_81 (lv_at hl 5 rfl) ?_
                refine lv_i2l hx hb dX12_pivotsQuick_83 rfl ?_
                refine lv_topl (fun y45 hy45 => ?_)
                obtain rfl : (-1) = y45 := (hy45.trans (by decide)).symm
                refine lv_aload_n hx hb dX12_pivotsQuick_84 rfl (lv_at hl 1 rfl) ?_
                refine va_get (D := (dC, dI)) (ci := 12) (v := .long (vj 12)) (C := RX12) (T := TX12) (N := 163) (fs := fM (vS a vi vj)) hx hb hts iwsRX12_pivotsQuick_in12 hown hK hP 0 rfl rfl 12 (by decide) (hts (.fieldLink RX12 426 "OptimaWorksModel" "quickDivisor" "J") (by decide +kernel)) (fun _ h9 => h9) rfl dX12_pivotsQuick_85 ?_
                refine lv_lmul hx hb dX12_pivotsQuick_88 ?_
                refine lv_goto (tgt := 156) hx hb dX12_pivotsQuick_89 (by decide) ?_
                have hij := pl_lt (C := C) (show i < R + Gq by omega) (show j ≤ C by omega)
                have bx := hQ.1 (i * (C + 1) + j) hij
                have ex := hQ.2.1 i (by omega) j (by omega)
                have gx := sgI_n (x := t rn cn) (by omega)
                have ei : i = rn := by omega
                have ej : j = cn := by omega
                have ev : (((-1) * (vj 12))).toInt = nvT rn cn (sgI (t rn cn)) t D i j := by rw [ei, ej, nv_piv, gx]; (have e8 := hQ.2.2.1); (have m9 := mone64 (x := vj 12) (by omega)); omega
                obtain ⟨vv, hvv⟩ : ∃ vv, vv = (((-1) * (vj 12)) : Int64) := ⟨_, rfl⟩
                rw [← hvv] at ev
                refine lv_topl (fun y46 hy46 => ?_)
                obtain rfl : vv = y46 := (hy46.trans (hvv.symm)).symm
                refine lv_lstore hx hb dX12_pivotsQuick_156 hl (by decide) rfl (fun ls (hl : lv_has ls _ ([(10, .long vv), (8, .long ((vG 7) (i * (C + 1) + j))), (0, .ref h0), (1, .int (nI rn)), (2, .int (nI cn)), (3, .long ((vG 7) (rn * (C + 1) + cn))), (5, .int (-1)), (6, .int (nI i)), (7, .int (nI j))])) => ?_)
                refine lv_lload hx hb dX12_pivotsQuick_158 (lv_at hl 0 rfl) ?_
                refine lv_ldc2 (v := 2147483648) hx hb hown (hts (.constantLong RX12 422 2147483648) (by decide +kernel)) dX12_pivotsQuick_160 ?_
                refine W.lcmp hx hb dX12_pivotsQuick_163 ?_
                refine lv_if_ge (tgt := 176) hx hb dX12_pivotsQuick_164 (by decide) (fun c_164 => ?_) (fun c_164 => ?_)
                · have t_164 : (vv).toInt ≥ 2147483648 := toL_ge c_164 rfl (by decide)
                  refine lv_iconst (v := 0) hx hb dX12_pivotsQuick_176 (by decide) ?_
                  refine W.widen (k := 0) (n := 0) (by decide +kernel) (by decide +kernel) ?_
                  have e9 : fT vj 12 (vj 12) = vj := fT_id _ _ (rfl)
                  have hP : va_P (dC, dI) vwCl (WR a k h0 vi (fT vj 12 (vj 12)) vF (fT vG 8 L8)) H := by rw [e9]; exact hP
                  have hD : va_D A (WR a k h0 vi (fT vj 12 (vj 12)) vF (fT vG 8 L8)) := by rw [e9]; exact hD
                  clear e9
                  have e9 : fT (fT vF 4 (vF 4)) 5 (vF 5) = vF := (fT_id _ _ (fT_ne _ _ (Nat.ne_of_beq_eq_false rfl))).trans (fT_id _ _ (rfl))
                  have hP : va_P (dC, dI) vwCl (WR a k h0 vi (fT vj 12 (vj 12)) (fT (fT vF 4 (vF 4)) 5 (vF 5)) (fT vG 8 L8)) H := by rw [e9]; exact hP
                  have hD : va_D A (WR a k h0 vi (fT vj 12 (vj 12)) (fT (fT vF 4 (vF 4)) 5 (vF 5)) (fT vG 8 L8)) := by rw [e9]; exact hD
                  clear e9
                  have e9 : fT (fT vG 8 L8) 7 (vG 7) = fT vG 8 L8 := fT_id _ _ (fT_ne _ _ (Nat.ne_of_beq_eq_false rfl))
                  have hP : va_P (dC, dI) vwCl (WR a k h0 vi (fT vj 12 (vj 12)) (fT (fT vF 4 (vF 4)) 5 (vF 5)) (fT (fT vG 8 L8) 7 (vG 7))) H := by rw [e9]; exact hP
                  have hD : va_D A (WR a k h0 vi (fT vj 12 (vj 12)) (fT (fT vF 4 (vF 4)) 5 (vF 5)) (fT (fT vG 8 L8) 7 (vG 7))) := by rw [e9]; exact hD
                  clear e9
                  exact W.zret (v := 0) hx hb hr rfl (fun t9_ ht hW => ⟨⟨0, ((vj 12), (vG 7), L8, (vF 4), (vF 5)), rfl, by (try dsimp only); exact Or.inl ⟨rfl, rfl, rfl, rfl, rfl⟩, by rw [ht]; exact hP, hD⟩, hS.F ht⟩) hS.2.2 dX12_pivotsQuick_177
                · have t_164 : ¬ (vv).toInt ≥ 2147483648 := toL_nge c_164 rfl (by decide)
                  refine lv_lload hx hb dX12_pivotsQuick_167 (lv_at hl 0 rfl) ?_
                  refine lv_ldc2 (v := (-2147483648)) hx hb hown (hts (.constantLong RX12 424 (-2147483648)) (by decide +kernel)) dX12_pivotsQuick_169 ?_
                  refine W.lcmp hx hb dX12_pivotsQuick_172 ?_
                  refine lv_if_gt (tgt := 178) hx hb dX12_pivotsQuick_173 (by decide) (fun c_173 => ?_) (fun c_173 => ?_)
                  · have t_173 : (vv).toInt > -2147483648 := toL_gt c_173 rfl (by decide)
                    refine lv_aload_n hx hb dX12_pivotsQuick_178 rfl (lv_at hl 2 rfl) ?_
                    refine va_get (D := (dC, dI)) (ci := 12) (v := .ref (a 8)) (C := RX12) (T := TX12) (N := 163) (fs := fM (vS a vi vj)) hx hb hts iwsRX12_pivotsQuick_in12 hown hK hP 0 rfl rfl 14 (by decide) (hts (.fieldLink RX12 36 "OptimaWorksModel" "later" "[J") (by decide +kernel)) (fun _ h9 => h9) rfl dX12_pivotsQuick_179 ?_
                    refine lv_aload_n hx hb dX12_pivotsQuick_182 rfl (lv_at hl 2 rfl) ?_
                    refine lv_iload hx hb dX12_pivotsQuick_183 (lv_at hl 7 rfl) ?_
                    refine lv_iload hx hb dX12_pivotsQuick_185 (lv_at hl 8 rfl) ?_
                    have hFc := allFree hD hS hA
                    refine va_calli (va_runV (As := [.int (nI i), .int (nI j)]) (rest := [.ref (a 8)]) ⟨hx, hb, hml, hown, hts⟩ (r_X12_place1 l dC dI a k h0 vi vj vF (fT vG 8 L8) i j C (by first | assumption | decide | omega | rfl) H.size) (cwV 2 hts gwsRX12_pivotsQuick_0 rfl rfl rfl (by decide +kernel) ⟨by decide +kernel, by decide +kernel⟩) ⟨fun a U g mk q => by obtain ⟨q0, q1, qP, qK, qD⟩ := q; exact ⟨q0, q1, qP, va_K.moved (u := U) (U := U.calling g mk a) (Vm.Alike.refl U.vm) qK, qD⟩, va_recv hK hP (ci := 12) (q0 := 0) rfl rfl, fun U hU9 hW => ⟨rfl, by rw [hU9], by rw [hU9]; exact hP, va_K.moved hW.alike hK, hD.weaken (fun _ _ _ _ => trivial)⟩⟩ rfl rfl hl.1 rfl (lv_room (Nat.le_of_ble_eq_true rfl)) dX12_pivotsQuick_187 ⟨by decide +kernel, by decide +kernel⟩) hS (fun q _ h => hFc q h) hFc (fun r187_7 u t9_ H1 locs ht hvm hw9 hB9 hz1 hk1 hS => ?_)
                    obtain ⟨hP1, hD1⟩ := hB9
                    rw [ht] at hP1
                    have hP := hP1
                    have hD := hD1.weaken (fun _ q _ h => hFc q.1 h)
                    generalize H1 = H at hP hS ⊢
                    have hP : va_P (dC, dI) vwCl (WR a k h0 vi vj vF (fT vG 8 L8)) H := hP
                    have hD : va_D A (WR a k h0 vi vj vF (fT vG 8 L8)) := hD
                    obtain rfl := hw9
                    refine lv_lload hx hb dX12_pivotsQuick_190 (lv_at hl 0 rfl) ?_
                    refine va_last (cA := k 8) (n := 1000) (f := L8) hx hb hK hP hD hS 9 8 (WR_get 8 (by decide)) (TR_get 8 (by decide)) (vp_in_nI (show (i * (C + 1) + j) < 1000 by omega) (by omega)) dX12_pivotsQuick_192 (fun H locs hP hD hS => ?_)
                    have e9 : fT vG 8 (vp_updL L8 ((nI (i * (C + 1) + j))).toNatClampNeg vv) = fT (fT vG 8 L8) 8 (vp_updL L8 ((nI (i * (C + 1) + j))).toNatClampNeg vv) := (fT_sm _ _ _ _).symm
                    have hP : va_P (dC, dI) vwCl (WR a k h0 vi vj vF (fT vG 8 (vp_updL L8 ((nI (i * (C + 1) + j))).toNatClampNeg vv))) H := by rw [e9, ← WR_G 8 (by decide) _ rfl]; exact hP
                    have hD : va_D A (WR a k h0 vi vj vF (fT vG 8 (vp_updL L8 ((nI (i * (C + 1) + j))).toNatClampNeg vv))) := by rw [e9, ← WR_G 8 (by decide) _ rfl]; exact hD
                    clear e9
                    refine lv_iinc (v := (nI (j + 1))) hx hb dX12_pivotsQuick_193 hl (k := 8) rfl (nI_add j 1) (by decide) rfl (fun ls (hl : lv_has ls _ ([(7, .int (nI (j + 1))), (10, .long vv), (8, .long ((vG 7) (i * (C + 1) + j))), (0, .ref h0), (1, .int (nI rn)), (2, .int (nI cn)), (3, .long ((vG 7) (rn * (C + 1) + cn))), (5, .int (-1)), (6, .int (nI i))])) => ?_)
                    refine lv_goto (tgt := 45) hx hb dX12_pivotsQuick_196 (by decide) ?_
                    have hl : lv_has _ _ ([(0, .ref h0), (1, .int (nI rn)), (2, .int (nI cn)), (3, .long ((vG 7) (rn * (C + 1) + cn))), (5, .int (-1)), (6, .int (nI i)), (7, .int (nI (j + 1)))]) := lv_sub hl [3, 4, 5, 6, 7, 8, 0] rfl
                    exact ih45_5 (j + 1) (vp_updL L8 ((nI (i * (C + 1) + j))).toNatClampNeg vv) _ _ _ (by omega) (fun p hp => by rw [updL_at (by omega)]; by_cases e9 : p = i * (C + 1) + j; (rw [if_pos e9]; omega); (rw [if_neg e9]; exact hb2 p (by omega))) (fun i2 j2 h1 h2 h3 => by rw [updL_at (by omega)]; by_cases e9 : i2 * (C + 1) + j2 = i * (C + 1) + j; (rw [if_pos e9, (pl_inj h2 (by omega) e9).1, (pl_inj h2 (by omega) e9).2]; exact ev); (rw [if_neg e9]; exact hv2 i2 j2 h1 h2 (by omega))) (by omega) hP hD hS hl
                  · have t_173 : ¬ (vv).toInt > -2147483648 := toL_ngt c_173 rfl (by decide)
                    refine lv_iconst (v := 0) hx hb dX12_pivotsQuick_176 (by decide) ?_
                    refine W.widen (k := 0) (n := 0) (by decide +kernel) (by decide +kernel) ?_
                    have e9 : fT vj 12 (vj 12) = vj := fT_id _ _ (rfl)
                    have hP : va_P (dC, dI) vwCl (WR a k h0 vi (fT vj 12 (vj 12)) vF (fT vG 8 L8)) H := by rw [e9]; exact hP
                    have hD : va_D A (WR a k h0 vi (fT vj 12 (vj 12)) vF (fT vG 8 L8)) := by rw [e9]; exact hD
                    clear e9
                    have e9 : fT (fT vF 4 (vF 4)) 5 (vF 5) = vF := (fT_id _ _ (fT_ne _ _ (Nat.ne_of_beq_eq_false rfl))).trans (fT_id _ _ (rfl))
                    have hP : va_P (dC, dI) vwCl (WR a k h0 vi (fT vj 12 (vj 12)) (fT (fT vF 4 (vF 4)) 5 (vF 5)) (fT vG 8 L8)) H := by rw [e9]; exact hP
                    have hD : va_D A (WR a k h0 vi (fT vj 12 (vj 12)) (fT (fT vF 4 (vF 4)) 5 (vF 5)) (fT vG 8 L8)) := by rw [e9]; exact hD
                    clear e9
                    have e9 : fT (fT vG 8 L8) 7 (vG 7) = fT vG 8 L8 := fT_id _ _ (fT_ne _ _ (Nat.ne_of_beq_eq_false rfl))
                    have hP : va_P (dC, dI) vwCl (WR a k h0 vi (fT vj 12 (vj 12)) (fT (fT vF 4 (vF 4)) 5 (vF 5)) (fT (fT vG 8 L8) 7 (vG 7))) H := by rw [e9]; exact hP
                    have hD : va_D A (WR a k h0 vi (fT vj 12 (vj 12)) (fT (fT vF 4 (vF 4)) 5 (vF 5)) (fT (fT vG 8 L8) 7 (vG 7))) := by rw [e9]; exact hD
                    clear e9
                    exact W.zret (v := 0) hx hb hr rfl (fun t9_ ht hW => ⟨⟨0, ((vj 12), (vG 7), L8, (vF 4), (vF 5)), rfl, by (try dsimp only); exact Or.inl ⟨rfl, rfl, rfl, rfl, rfl⟩, by rw [ht]; exact hP, hD⟩, hS.F ht⟩) hS.2.2 dX12_pivotsQuick_177

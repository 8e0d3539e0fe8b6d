theorem dX12_readDifferent_0 : decode cX12_readDifferent 0 = .ok (.aload_n 0, 1) := dk_42 (by decide +kernel)
theorem dX12_readDifferent_1 : decode cX12_readDifferent 1 = .ok (.getfield 802, 3) := dk_180 (by decide +kernel)
theorem dX12_readDifferent_4 : decode cX12_readDifferent 4 = .ok (.bipush 8, 2) := dk_16 (by decide +kernel)
theorem dX12_readDifferent_6 : decode cX12_readDifferent 6 = .ok (.if_icmp .ne 13, 3) := dk_160 (by decide +kernel)
theorem dX12_readDifferent_9 : decode cX12_readDifferent 9 = .ok (.aload_n 0, 1) := dk_42 (by decide +kernel)
theorem dX12_readDifferent_10 : decode cX12_readDifferent 10 = .ok (.iconst 4, 1) := dk_7 (by decide +kernel)
theorem dX12_readDifferent_11 : decode cX12_readDifferent 11 = .ok (.aload_n 0, 1) := dk_42 (by decide +kernel)
theorem dX12_readDifferent_12 : decode cX12_readDifferent 12 = .ok (.getfield 488, 3) := dk_180 (by decide +kernel)
theorem dX12_readDifferent_15 : decode cX12_readDifferent 15 = .ok (.invokevirtual 518, 3) := dk_182 (by decide +kernel)
theorem dX12_readDifferent_18 : decode cX12_readDifferent 18 = .ok (.return_, 1) := dk_177 (by decide +kernel)
theorem dX12_readDifferent_19 : decode cX12_readDifferent 19 = .ok (.aload_n 0, 1) := dk_42 (by decide +kernel)
theorem dX12_readDifferent_20 : decode cX12_readDifferent 20 = .ok (.invokevirtual 524, 3) := dk_182 (by decide +kernel)
theorem dX12_readDifferent_23 : decode cX12_readDifferent 23 = .ok (.iconst 0, 1) := dk_3 (by decide +kernel)
theorem dX12_readDifferent_24 : decode cX12_readDifferent 24 = .ok (.istore_n 1, 1) := dk_60 (by decide +kernel)
theorem dX12_readDifferent_25 : decode cX12_readDifferent 25 = .ok (.iconst 0, 1) := dk_3 (by decide +kernel)
theorem dX12_readDifferent_26 : decode cX12_readDifferent 26 = .ok (.istore_n 2, 1) := dk_61 (by decide +kernel)
theorem dX12_readDifferent_27 : decode cX12_readDifferent 27 = .ok (.iconst 1, 1) := dk_4 (by decide +kernel)
theorem dX12_readDifferent_28 : decode cX12_readDifferent 28 = .ok (.istore_n 3, 1) := dk_62 (by decide +kernel)
theorem dX12_readDifferent_29 : decode cX12_readDifferent 29 = .ok (.iload_n 3, 1) := dk_29 (by decide +kernel)
theorem dX12_readDifferent_30 : decode cX12_readDifferent 30 = .ok (.ifCond .eq 224, 3) := dk_153 (by decide +kernel)
theorem dX12_readDifferent_33 : decode cX12_readDifferent 33 = .ok (.aload_n 0, 1) := dk_42 (by decide +kernel)
theorem dX12_readDifferent_34 : decode cX12_readDifferent 34 = .ok (.getfield 515, 3) := dk_180 (by decide +kernel)
theorem dX12_readDifferent_37 : decode cX12_readDifferent 37 = .ok (.ifCond .ne 217, 3) := dk_154 (by decide +kernel)
theorem dX12_readDifferent_40 : decode cX12_readDifferent 40 = .ok (.aload_n 0, 1) := dk_42 (by decide +kernel)
theorem dX12_readDifferent_41 : decode cX12_readDifferent 41 = .ok (.getfield 494, 3) := dk_180 (by decide +kernel)
theorem dX12_readDifferent_44 : decode cX12_readDifferent 44 = .ok (.iconst 1, 1) := dk_4 (by decide +kernel)
theorem dX12_readDifferent_45 : decode cX12_readDifferent 45 = .ok (.if_icmp .eq 8, 3) := dk_159 (by decide +kernel)
theorem dX12_readDifferent_48 : decode cX12_readDifferent 48 = .ok (.aload_n 0, 1) := dk_42 (by decide +kernel)
theorem dX12_readDifferent_49 : decode cX12_readDifferent 49 = .ok (.invokevirtual 527, 3) := dk_182 (by decide +kernel)
theorem dX12_readDifferent_52 : decode cX12_readDifferent 52 = .ok (.return_, 1) := dk_177 (by decide +kernel)
theorem dX12_readDifferent_53 : decode cX12_readDifferent 53 = .ok (.aload_n 0, 1) := dk_42 (by decide +kernel)
theorem dX12_readDifferent_54 : decode cX12_readDifferent 54 = .ok (.invokevirtual 555, 3) := dk_182 (by decide +kernel)
theorem dX12_readDifferent_57 : decode cX12_readDifferent 57 = .ok (.istore 4, 2) := dk_54 (by decide +kernel)
theorem dX12_readDifferent_59 : decode cX12_readDifferent 59 = .ok (.iload 4, 2) := dk_21 (by decide +kernel)
theorem dX12_readDifferent_61 : decode cX12_readDifferent 61 = .ok (.iconst (-1), 1) := dk_2 (by decide +kernel)
theorem dX12_readDifferent_62 : decode cX12_readDifferent 62 = .ok (.if_icmp .eq 29, 3) := dk_159 (by decide +kernel)
theorem dX12_readDifferent_65 : decode cX12_readDifferent 65 = .ok (.aload_n 0, 1) := dk_42 (by decide +kernel)
theorem dX12_readDifferent_66 : decode cX12_readDifferent 66 = .ok (.getfield 50, 3) := dk_180 (by decide +kernel)
theorem dX12_readDifferent_69 : decode cX12_readDifferent 69 = .ok (.iload 4, 2) := dk_21 (by decide +kernel)
theorem dX12_readDifferent_71 : decode cX12_readDifferent 71 = .ok (.iaload, 1) := dk_46 (by decide +kernel)
theorem dX12_readDifferent_72 : decode cX12_readDifferent 72 = .ok (.iconst 3, 1) := dk_6 (by decide +kernel)
theorem dX12_readDifferent_73 : decode cX12_readDifferent 73 = .ok (.if_icmp .ne 18, 3) := dk_160 (by decide +kernel)
theorem dX12_readDifferent_76 : decode cX12_readDifferent 76 = .ok (.aload_n 0, 1) := dk_42 (by decide +kernel)
theorem dX12_readDifferent_77 : decode cX12_readDifferent 77 = .ok (.getfield 107, 3) := dk_180 (by decide +kernel)
theorem dX12_readDifferent_80 : decode cX12_readDifferent 80 = .ok (.aload_n 0, 1) := dk_42 (by decide +kernel)
theorem dX12_readDifferent_81 : decode cX12_readDifferent 81 = .ok (.getfield 59, 3) := dk_180 (by decide +kernel)
theorem dX12_readDifferent_84 : decode cX12_readDifferent 84 = .ok (.iload 4, 2) := dk_21 (by decide +kernel)
theorem dX12_readDifferent_86 : decode cX12_readDifferent 86 = .ok (.iaload, 1) := dk_46 (by decide +kernel)
theorem dX12_readDifferent_87 : decode cX12_readDifferent 87 = .ok (.iaload, 1) := dk_46 (by decide +kernel)
theorem dX12_readDifferent_88 : decode cX12_readDifferent 88 = .ok (.ifCond .ne 12, 3) := dk_154 (by decide +kernel)
theorem dX12_readDifferent_91 : decode cX12_readDifferent 91 = .ok (.aload_n 0, 1) := dk_42 (by decide +kernel)
theorem dX12_readDifferent_92 : decode cX12_readDifferent 92 = .ok (.iconst 3, 1) := dk_6 (by decide +kernel)
theorem dX12_readDifferent_93 : decode cX12_readDifferent 93 = .ok (.aload_n 0, 1) := dk_42 (by decide +kernel)
theorem dX12_readDifferent_94 : decode cX12_readDifferent 94 = .ok (.getfield 488, 3) := dk_180 (by decide +kernel)
theorem dX12_readDifferent_97 : decode cX12_readDifferent 97 = .ok (.invokevirtual 518, 3) := dk_182 (by decide +kernel)
theorem dX12_readDifferent_100 : decode cX12_readDifferent 100 = .ok (.aload_n 0, 1) := dk_42 (by decide +kernel)
theorem dX12_readDifferent_101 : decode cX12_readDifferent 101 = .ok (.getfield 515, 3) := dk_180 (by decide +kernel)
theorem dX12_readDifferent_104 : decode cX12_readDifferent 104 = .ok (.ifCond .le 4, 3) := dk_158 (by decide +kernel)
theorem dX12_readDifferent_107 : decode cX12_readDifferent 107 = .ok (.return_, 1) := dk_177 (by decide +kernel)
theorem dX12_readDifferent_108 : decode cX12_readDifferent 108 = .ok (.aload_n 0, 1) := dk_42 (by decide +kernel)
theorem dX12_readDifferent_109 : decode cX12_readDifferent 109 = .ok (.getfield 59, 3) := dk_180 (by decide +kernel)
theorem dX12_readDifferent_112 : decode cX12_readDifferent 112 = .ok (.iload 4, 2) := dk_21 (by decide +kernel)
theorem dX12_readDifferent_114 : decode cX12_readDifferent 114 = .ok (.iaload, 1) := dk_46 (by decide +kernel)
theorem dX12_readDifferent_115 : decode cX12_readDifferent 115 = .ok (.istore 5, 2) := dk_54 (by decide +kernel)
theorem dX12_readDifferent_117 : decode cX12_readDifferent 117 = .ok (.aload_n 0, 1) := dk_42 (by decide +kernel)
theorem dX12_readDifferent_118 : decode cX12_readDifferent 118 = .ok (.getfield 95, 3) := dk_180 (by decide +kernel)
theorem dX12_readDifferent_121 : decode cX12_readDifferent 121 = .ok (.iload 5, 2) := dk_21 (by decide +kernel)
theorem dX12_readDifferent_123 : decode cX12_readDifferent 123 = .ok (.iaload, 1) := dk_46 (by decide +kernel)
theorem dX12_readDifferent_124 : decode cX12_readDifferent 124 = .ok (.ifCond .ne 7, 3) := dk_154 (by decide +kernel)
theorem dX12_readDifferent_127 : decode cX12_readDifferent 127 = .ok (.iconst 1, 1) := dk_4 (by decide +kernel)
theorem dX12_readDifferent_128 : decode cX12_readDifferent 128 = .ok (.goto 54, 3) := dk_167 (by decide +kernel)
theorem dX12_readDifferent_131 : decode cX12_readDifferent 131 = .ok (.aload_n 0, 1) := dk_42 (by decide +kernel)
theorem dX12_readDifferent_132 : decode cX12_readDifferent 132 = .ok (.getfield 95, 3) := dk_180 (by decide +kernel)
theorem dX12_readDifferent_135 : decode cX12_readDifferent 135 = .ok (.iload 5, 2) := dk_21 (by decide +kernel)
theorem dX12_readDifferent_137 : decode cX12_readDifferent 137 = .ok (.iaload, 1) := dk_46 (by decide +kernel)
theorem dX12_readDifferent_138 : decode cX12_readDifferent 138 = .ok (.iconst 1, 1) := dk_4 (by decide +kernel)
theorem dX12_readDifferent_139 : decode cX12_readDifferent 139 = .ok (.if_icmp .ne 18, 3) := dk_160 (by decide +kernel)
theorem dX12_readDifferent_142 : decode cX12_readDifferent 142 = .ok (.aload_n 0, 1) := dk_42 (by decide +kernel)
theorem dX12_readDifferent_143 : decode cX12_readDifferent 143 = .ok (.getfield 74, 3) := dk_180 (by decide +kernel)
theorem dX12_readDifferent_146 : decode cX12_readDifferent 146 = .ok (.aload_n 0, 1) := dk_42 (by decide +kernel)
theorem dX12_readDifferent_147 : decode cX12_readDifferent 147 = .ok (.getfield 98, 3) := dk_180 (by decide +kernel)
theorem dX12_readDifferent_150 : decode cX12_readDifferent 150 = .ok (.iload 5, 2) := dk_21 (by decide +kernel)
theorem dX12_readDifferent_152 : decode cX12_readDifferent 152 = .ok (.iaload, 1) := dk_46 (by decide +kernel)
theorem dX12_readDifferent_153 : decode cX12_readDifferent 153 = .ok (.iaload, 1) := dk_46 (by decide +kernel)
theorem dX12_readDifferent_154 : decode cX12_readDifferent 154 = .ok (.goto 28, 3) := dk_167 (by decide +kernel)
theorem dX12_readDifferent_157 : decode cX12_readDifferent 157 = .ok (.aload_n 0, 1) := dk_42 (by decide +kernel)
theorem dX12_readDifferent_158 : decode cX12_readDifferent 158 = .ok (.getfield 74, 3) := dk_180 (by decide +kernel)
theorem dX12_readDifferent_161 : decode cX12_readDifferent 161 = .ok (.aload_n 0, 1) := dk_42 (by decide +kernel)
theorem dX12_readDifferent_162 : decode cX12_readDifferent 162 = .ok (.getfield 98, 3) := dk_180 (by decide +kernel)
theorem dX12_readDifferent_165 : decode cX12_readDifferent 165 = .ok (.iload 5, 2) := dk_21 (by decide +kernel)
theorem dX12_readDifferent_167 : decode cX12_readDifferent 167 = .ok (.iaload, 1) := dk_46 (by decide +kernel)
theorem dX12_readDifferent_168 : decode cX12_readDifferent 168 = .ok (.iaload, 1) := dk_46 (by decide +kernel)
theorem dX12_readDifferent_169 : decode cX12_readDifferent 169 = .ok (.aload_n 0, 1) := dk_42 (by decide +kernel)
theorem dX12_readDifferent_170 : decode cX12_readDifferent 170 = .ok (.getfield 74, 3) := dk_180 (by decide +kernel)
theorem dX12_readDifferent_173 : decode cX12_readDifferent 173 = .ok (.aload_n 0, 1) := dk_42 (by decide +kernel)
theorem dX12_readDifferent_174 : decode cX12_readDifferent 174 = .ok (.getfield 101, 3) := dk_180 (by decide +kernel)
theorem dX12_readDifferent_177 : decode cX12_readDifferent 177 = .ok (.iload 5, 2) := dk_21 (by decide +kernel)
theorem dX12_readDifferent_179 : decode cX12_readDifferent 179 = .ok (.iaload, 1) := dk_46 (by decide +kernel)
theorem dX12_readDifferent_180 : decode cX12_readDifferent 180 = .ok (.iaload, 1) := dk_46 (by decide +kernel)
theorem dX12_readDifferent_181 : decode cX12_readDifferent 181 = .ok (.imul, 1) := dk_104 (by decide +kernel)
theorem dX12_readDifferent_182 : decode cX12_readDifferent 182 = .ok (.istore 6, 2) := dk_54 (by decide +kernel)
theorem dX12_readDifferent_184 : decode cX12_readDifferent 184 = .ok (.iconst 0, 1) := dk_3 (by decide +kernel)
theorem dX12_readDifferent_185 : decode cX12_readDifferent 185 = .ok (.istore 7, 2) := dk_54 (by decide +kernel)
theorem dX12_readDifferent_187 : decode cX12_readDifferent 187 = .ok (.iload 7, 2) := dk_21 (by decide +kernel)
theorem dX12_readDifferent_189 : decode cX12_readDifferent 189 = .ok (.iload 6, 2) := dk_21 (by decide +kernel)
theorem dX12_readDifferent_191 : decode cX12_readDifferent 191 = .ok (.if_icmp .ge 24, 3) := dk_162 (by decide +kernel)
theorem dX12_readDifferent_194 : decode cX12_readDifferent 194 = .ok (.iload_n 1, 1) := dk_27 (by decide +kernel)
theorem dX12_readDifferent_195 : decode cX12_readDifferent 195 = .ok (.iconst 1, 1) := dk_4 (by decide +kernel)
theorem dX12_readDifferent_196 : decode cX12_readDifferent 196 = .ok (.aload_n 0, 1) := dk_42 (by decide +kernel)
theorem dX12_readDifferent_197 : decode cX12_readDifferent 197 = .ok (.getfield 104, 3) := dk_180 (by decide +kernel)
theorem dX12_readDifferent_200 : decode cX12_readDifferent 200 = .ok (.iload 5, 2) := dk_21 (by decide +kernel)
theorem dX12_readDifferent_202 : decode cX12_readDifferent 202 = .ok (.iaload, 1) := dk_46 (by decide +kernel)
theorem dX12_readDifferent_203 : decode cX12_readDifferent 203 = .ok (.iload 7, 2) := dk_21 (by decide +kernel)
theorem dX12_readDifferent_205 : decode cX12_readDifferent 205 = .ok (.iadd, 1) := dk_96 (by decide +kernel)
theorem dX12_readDifferent_206 : decode cX12_readDifferent 206 = .ok (.ishl, 1) := dk_120 (by decide +kernel)
theorem dX12_readDifferent_207 : decode cX12_readDifferent 207 = .ok (.ior, 1) := dk_128 (by decide +kernel)
theorem dX12_readDifferent_208 : decode cX12_readDifferent 208 = .ok (.istore_n 1, 1) := dk_60 (by decide +kernel)
theorem dX12_readDifferent_209 : decode cX12_readDifferent 209 = .ok (.iinc 7 1, 3) := dk_132 (by decide +kernel)
theorem dX12_readDifferent_212 : decode cX12_readDifferent 212 = .ok (.goto (-25), 3) := dk_167 (by decide +kernel)
theorem dX12_readDifferent_215 : decode cX12_readDifferent 215 = .ok (.aload_n 0, 1) := dk_42 (by decide +kernel)
theorem dX12_readDifferent_216 : decode cX12_readDifferent 216 = .ok (.invokevirtual 524, 3) := dk_182 (by decide +kernel)
theorem dX12_readDifferent_219 : decode cX12_readDifferent 219 = .ok (.iinc 2 1, 3) := dk_132 (by decide +kernel)
theorem dX12_readDifferent_222 : decode cX12_readDifferent 222 = .ok (.iload_n 2, 1) := dk_28 (by decide +kernel)
theorem dX12_readDifferent_223 : decode cX12_readDifferent 223 = .ok (.bipush 8, 2) := dk_16 (by decide +kernel)
theorem dX12_readDifferent_225 : decode cX12_readDifferent 225 = .ok (.if_icmp .ge 16, 3) := dk_162 (by decide +kernel)
theorem dX12_readDifferent_228 : decode cX12_readDifferent 228 = .ok (.aload_n 0, 1) := dk_42 (by decide +kernel)
theorem dX12_readDifferent_229 : decode cX12_readDifferent 229 = .ok (.bipush 44, 2) := dk_16 (by decide +kernel)
theorem dX12_readDifferent_231 : decode cX12_readDifferent 231 = .ok (.invokevirtual 521, 3) := dk_182 (by decide +kernel)
theorem dX12_readDifferent_234 : decode cX12_readDifferent 234 = .ok (.ifCond .eq 7, 3) := dk_153 (by decide +kernel)
theorem dX12_readDifferent_237 : decode cX12_readDifferent 237 = .ok (.iconst 1, 1) := dk_4 (by decide +kernel)
theorem dX12_readDifferent_238 : decode cX12_readDifferent 238 = .ok (.goto 4, 3) := dk_167 (by decide +kernel)
theorem dX12_readDifferent_241 : decode cX12_readDifferent 241 = .ok (.iconst 0, 1) := dk_3 (by decide +kernel)
theorem dX12_readDifferent_242 : decode cX12_readDifferent 242 = .ok (.istore_n 3, 1) := dk_62 (by decide +kernel)
theorem dX12_readDifferent_243 : decode cX12_readDifferent 243 = .ok (.iload_n 3, 1) := dk_29 (by decide +kernel)
theorem dX12_readDifferent_244 : decode cX12_readDifferent 244 = .ok (.ifCond .eq 7, 3) := dk_153 (by decide +kernel)
theorem dX12_readDifferent_247 : decode cX12_readDifferent 247 = .ok (.aload_n 0, 1) := dk_42 (by decide +kernel)
theorem dX12_readDifferent_248 : decode cX12_readDifferent 248 = .ok (.invokevirtual 524, 3) := dk_182 (by decide +kernel)
theorem dX12_readDifferent_251 : decode cX12_readDifferent 251 = .ok (.goto (-222), 3) := dk_167 (by decide +kernel)
theorem dX12_readDifferent_254 : decode cX12_readDifferent 254 = .ok (.aload_n 0, 1) := dk_42 (by decide +kernel)
theorem dX12_readDifferent_255 : decode cX12_readDifferent 255 = .ok (.bipush 59, 2) := dk_16 (by decide +kernel)
theorem dX12_readDifferent_257 : decode cX12_readDifferent 257 = .ok (.invokevirtual 611, 3) := dk_182 (by decide +kernel)
theorem dX12_readDifferent_260 : decode cX12_readDifferent 260 = .ok (.ifCond .ne 4, 3) := dk_154 (by decide +kernel)
theorem dX12_readDifferent_263 : decode cX12_readDifferent 263 = .ok (.return_, 1) := dk_177 (by decide +kernel)
theorem dX12_readDifferent_264 : decode cX12_readDifferent 264 = .ok (.aload_n 0, 1) := dk_42 (by decide +kernel)
theorem dX12_readDifferent_265 : decode cX12_readDifferent 265 = .ok (.getfield 209, 3) := dk_180 (by decide +kernel)
theorem dX12_readDifferent_268 : decode cX12_readDifferent 268 = .ok (.aload_n 0, 1) := dk_42 (by decide +kernel)
theorem dX12_readDifferent_269 : decode cX12_readDifferent 269 = .ok (.getfield 802, 3) := dk_180 (by decide +kernel)
theorem dX12_readDifferent_272 : decode cX12_readDifferent 272 = .ok (.iload_n 1, 1) := dk_27 (by decide +kernel)
theorem dX12_readDifferent_273 : decode cX12_readDifferent 273 = .ok (.iastore, 1) := dk_79 (by decide +kernel)
theorem dX12_readDifferent_274 : decode cX12_readDifferent 274 = .ok (.aload_n 0, 1) := dk_42 (by decide +kernel)
theorem dX12_readDifferent_275 : decode cX12_readDifferent 275 = .ok (.dup, 1) := dk_89 (by decide +kernel)
theorem dX12_readDifferent_276 : decode cX12_readDifferent 276 = .ok (.getfield 802, 3) := dk_180 (by decide +kernel)
theorem dX12_readDifferent_279 : decode cX12_readDifferent 279 = .ok (.iconst 1, 1) := dk_4 (by decide +kernel)
theorem dX12_readDifferent_280 : decode cX12_readDifferent 280 = .ok (.iadd, 1) := dk_96 (by decide +kernel)
theorem dX12_readDifferent_281 : decode cX12_readDifferent 281 = .ok (.putfield 802, 3) := dk_181 (by decide +kernel)
theorem dX12_readDifferent_284 : decode cX12_readDifferent 284 = .ok (.return_, 1) := dk_177 (by decide +kernel)
def wsRX12_readDifferent : List Cond := .code yX12_readDifferent cX12_readDifferent 8 none :: ([.fieldLink RX12 802 "OptimaWorksModel" "differents" "I", .fieldLink RX12 209 "OptimaWorksModel" "differentSet" "[I", .fieldLink RX12 515 "OptimaWorksModel" "stop" "I", .fieldLink RX12 494 "OptimaWorksModel" "word" "I", .fieldLink RX12 488 "OptimaWorksModel" "from" "I", .fieldLink RX12 50 "OptimaWorksModel" "nameKind" "[I", .fieldLink RX12 107 "OptimaWorksModel" "varWhole" "[I", .fieldLink RX12 59 "OptimaWorksModel" "nameOf" "[I", .fieldLink RX12 95 "OptimaWorksModel" "varPlaces" "[I", .fieldLink RX12 74 "OptimaWorksModel" "setMany" "[I", .fieldLink RX12 98 "OptimaWorksModel" "varOne" "[I", .fieldLink RX12 101 "OptimaWorksModel" "varTwo" "[I", .fieldLink RX12 104 "OptimaWorksModel" "varAt" "[I"] ++ wsX120 ++ (wsV RX12 524 RX12 yX12_next wsRX12_next) ++ (wsV RX12 611 RX12 yX12_needSign wsRX12_needSign) ++ (wsV RX12 555 RX12 yX12_declared wsRX12_declared) ++ (wsV RX12 518 RX12 yX12_faultAt wsRX12_faultAt) ++ (wsV RX12 521 RX12 yX12_isSign wsRX12_isSign) ++ (wsV RX12 527 RX12 yX12_wrong wsRX12_wrong))
theorem iwsRX12_readDifferent_in12 : ∀ w ∈ wsX120, w ∈ wsRX12_readDifferent := fun _ h => List.mem_cons_of_mem _ (List.mem_append_left _ (List.mem_append_left _ (List.mem_append_left _ (List.mem_append_left _ (List.mem_append_left _ (List.mem_append_left _ (List.mem_append_right _ h)))))))
theorem gwsRX12_readDifferent_0 : GoodIn wsRX12_readDifferent (wsV RX12 524 RX12 yX12_next wsRX12_next) := goodIn_sub (fun _ h => List.mem_cons_of_mem _ (List.mem_append_left _ (List.mem_append_left _ (List.mem_append_left _ (List.mem_append_left _ (List.mem_append_left _ (List.mem_append_right _ h))))))) (gdV (by decide +kernel) gdwsRX12_next)
theorem gwsRX12_readDifferent_1 : GoodIn wsRX12_readDifferent (wsV RX12 611 RX12 yX12_needSign wsRX12_needSign) := goodIn_sub (fun _ h => List.mem_cons_of_mem _ (List.mem_append_left _ (List.mem_append_left _ (List.mem_append_left _ (List.mem_append_left _ (List.mem_append_right _ h)))))) (gdV (by decide +kernel) gdwsRX12_needSign)
theorem gwsRX12_readDifferent_2 : GoodIn wsRX12_readDifferent (wsV RX12 555 RX12 yX12_declared wsRX12_declared) := goodIn_sub (fun _ h => List.mem_cons_of_mem _ (List.mem_append_left _ (List.mem_append_left _ (List.mem_append_left _ (List.mem_append_right _ h))))) (gdV (by decide +kernel) gdwsRX12_declared)
theorem gwsRX12_readDifferent_3 : GoodIn wsRX12_readDifferent (wsV RX12 518 RX12 yX12_faultAt wsRX12_faultAt) := goodIn_sub (fun _ h => List.mem_cons_of_mem _ (List.mem_append_left _ (List.mem_append_left _ (List.mem_append_right _ h)))) (gdV (by decide +kernel) gdwsRX12_faultAt)
theorem gwsRX12_readDifferent_4 : GoodIn wsRX12_readDifferent (wsV RX12 521 RX12 yX12_isSign wsRX12_isSign) := goodIn_sub (fun _ h => List.mem_cons_of_mem _ (List.mem_append_left _ (List.mem_append_right _ h))) (gdV (by decide +kernel) gdwsRX12_isSign)
theorem gwsRX12_readDifferent_5 : GoodIn wsRX12_readDifferent (wsV RX12 527 RX12 yX12_wrong wsRX12_wrong) := goodIn_sub (fun _ h => List.mem_cons_of_mem _ (List.mem_append_right _ h)) (gdV (by decide +kernel) gdwsRX12_wrong)
theorem gdwsRX12_readDifferent : wsRX12_readDifferent.all goodWord = true := gdC rfl (gdA (gdA (gdA (gdA (gdA (gdA (gdA (by decide +kernel : ([.fieldLink RX12 802 "OptimaWorksModel" "differents" "I", .fieldLink RX12 209 "OptimaWorksModel" "differentSet" "[I", .fieldLink RX12 515 "OptimaWorksModel" "stop" "I", .fieldLink RX12 494 "OptimaWorksModel" "word" "I", .fieldLink RX12 488 "OptimaWorksModel" "from" "I", .fieldLink RX12 50 "OptimaWorksModel" "nameKind" "[I", .fieldLink RX12 107 "OptimaWorksModel" "varWhole" "[I", .fieldLink RX12 59 "OptimaWorksModel" "nameOf" "[I", .fieldLink RX12 95 "OptimaWorksModel" "varPlaces" "[I", .fieldLink RX12 74 "OptimaWorksModel" "setMany" "[I", .fieldLink RX12 98 "OptimaWorksModel" "varOne" "[I", .fieldLink RX12 101 "OptimaWorksModel" "varTwo" "[I", .fieldLink RX12 104 "OptimaWorksModel" "varAt" "[I"] : List Cond).all goodWord = true) gdwsX120) (gdV (by decide +kernel) gdwsRX12_next)) (gdV (by decide +kernel) gdwsRX12_needSign)) (gdV (by decide +kernel) gdwsRX12_declared)) (gdV (by decide +kernel) gdwsRX12_faultAt)) (gdV (by decide +kernel) gdwsRX12_isSign)) (gdV (by decide +kernel) gdwsRX12_wrong))
theorem hm_r_X12_readDifferent_0 : (.fieldLink RX12 802 "OptimaWorksModel" "differents" "I" : Cond) ∈ wsRX12_readDifferent := by decide +kernel
theorem hm_r_X12_readDifferent_1 : (.fieldLink RX12 515 "OptimaWorksModel" "stop" "I" : Cond) ∈ wsRX12_readDifferent := by decide +kernel
theorem hm_r_X12_readDifferent_2 : (.fieldLink RX12 488 "OptimaWorksModel" "from" "I" : Cond) ∈ wsRX12_readDifferent := by decide +kernel
theorem hm_r_X12_readDifferent_3 : (.fieldLink RX12 59 "OptimaWorksModel" "nameOf" "[I" : Cond) ∈ wsRX12_readDifferent := by decide +kernel
theorem hm_r_X12_readDifferent_4 : (.fieldLink RX12 95 "OptimaWorksModel" "varPlaces" "[I" : Cond) ∈ wsRX12_readDifferent := by decide +kernel
theorem hm_r_X12_readDifferent_5 : (.fieldLink RX12 74 "OptimaWorksModel" "setMany" "[I" : Cond) ∈ wsRX12_readDifferent := by decide +kernel
theorem hm_r_X12_readDifferent_6 : (.fieldLink RX12 98 "OptimaWorksModel" "varOne" "[I" : Cond) ∈ wsRX12_readDifferent := by decide +kernel
set_option maxHeartbeats 4000000 in
set_option maxRecDepth 100000 in
/-- readDifferent() -/
theorem r_X12_readDifferent (l : Launch) (dC : Nat → ClassId) (dI : Nat → Nat → Nat) (a : Nat → Nat) (k : Nat → ClassId) (h0 : Nat) (vi : Nat → Int32) (vj : Nat → Int64) (vF : Nat → Nat → Int32) (vG : Nat → Nat → Int64) (tp : Nat) (an : Nat) (fn : Nat) (nm : Nat) (se : Nat) (pa : Nat) (va : Nat) (nu : Nat) (dn : Nat) (hTp : vi 16 = nI tp) (htp : tp ≤ 4000) (ha0 : vi 17 = nI an) (hfr : vi 19 = nI fn) (hLx : LxO tp fn an (vi 18) (vi 20)) (hst0 : 0 ≤ (vi 21).toInt) (hnm : vi 25 = nI nm) (hse9 : vi 35 = nI se) (hpa9 : vi 36 = nI pa) (hva9 : vi 37 = nI va) (hnu9 : vi 38 = nI nu) (hGl : GlbR (vF 10) (vF 11) (vF 12) (vF 13) (vF 16) (vF 17) (vF 18) (vF 19) (vF 20) (vF 21) (vF 22) (vF 23) (vF 24) (vF 25) (vF 26) (vF 27) nm se pa va nu) (hfl : fn < an) (hdn : vi 92 = nI dn) (hdn8 : dn ≤ 8) (hst1 : (vi 21).toInt ≤ 0) (sz : Nat) : Met l yX12_readDifferent wsRX12_readDifferent ({ frames := 9, cells := 0, slots := 0, locals := 194 }) (va_Pc [.ref h0] (fun U => U.heap.size = sz ∧ va_P (dC, dI) vwCl (WR a k h0 vi vj vF vG) U.heap ∧ va_K (dC, dI) vwCl (tX12 k) U ∧ va_D (fun _ => True) (WR a k h0 vi vj vF vG) ∧ StrA (va_A (WR a k h0 vi vj vF vG) sz) U U.heap)) (va_Qv (fun (u : (Nat) × (Nat) × (Int32) × (Int32) × (Int32) × (Int32) × (Nat → Int32) × (Nat)) => (LxO tp (u.2.1) (u.1) (u.2.2.2.1) (u.2.2.1)) ∧ (fn ≤ (u.2.1)) ∧ (0 ≤ ((u.2.2.2.2.1)).toInt) ∧ (0 < ((u.2.2.2.2.1)).toInt ∨ fn < (u.2.1)) ∧ ((u.2.2.2.2.2.2.2) ≤ 8)) (fun (u : (Nat) × (Nat) × (Int32) × (Int32) × (Int32) × (Int32) × (Nat → Int32) × (Nat)) t => va_P (dC, dI) vwCl (WR a k h0 (fT (fT (fT (fT (fT (fT (fT vi 17 (nI (u.1))) 19 (nI (u.2.1))) 20 (u.2.2.1)) 18 (u.2.2.2.1)) 21 (u.2.2.2.2.1)) 22 (u.2.2.2.2.2.1)) 92 (nI (u.2.2.2.2.2.2.2))) vj (fT vF 62 (u.2.2.2.2.2.2.1)) vG) t.heap ∧ va_D (va_A (WR a k h0 vi vj vF vG) sz) (WR a k h0 (fT (fT (fT (fT (fT (fT (fT vi 17 (nI (u.1))) 19 (nI (u.2.1))) 20 (u.2.2.1)) 18 (u.2.2.2.1)) 21 (u.2.2.2.2.1)) 22 (u.2.2.2.2.2.1)) 92 (nI (u.2.2.2.2.2.2.2))) vj (fT vF 62 (u.2.2.2.2.2.2.1)) vG)) (va_A (WR a k h0 vi vj vF vG) sz)) 0 0 (va_A (WR a k h0 vi vj vF vG) sz) := by
  refine Met.ofW (cc := cX12_readDifferent) (maxL := 8) (ret := none) (by decide) rfl ?_
  intro p e s m args below meth c s₁ B hml hv
  obtain ⟨rfl, hsz, hP, hK, hD0, hE⟩ := hv
  have hx := B.exec
  have hb := B.bytes
  have hr := B.returns
  have hts := atoms_spec (ws := wsRX12_readDifferent) B.pre
  have hown : s.vm.findClass RX12 = some m.cls := findClass_of_methodNamed B.named
  have hlocks := B.notSynchronized
  subst hsz
  have hD := hD0.self (sz := s.heap.size)
  generalize hAe : va_A (WR a k h0 vi vj vF vG) s.heap.size = A at hD hE ⊢
  have hA : ∀ q : Nat, s.heap.size ≤ q → A q := fun q h => by rw [← hAe]; exact Or.inr h
  have hS : va_S A s.heap s.heap [] := va_S.rf
  have hl := lv_entry ([.ref h0]) (n := 8) (Nat.le_of_ble_eq_true rfl)
  rw [lg_entry_eq]
  generalize (lg_sl ([.ref h0]) ++ List.replicate (8 - (lg_sl ([.ref h0])).length) Slot.unset).toArray = ls at hl ⊢
  have hl : lv_has ls 8 [(0, .ref h0)] := hl
  have hfa := hLx.1
  have han := hLx.2.1
  have han4 : an ≤ 4000 := by omega
  obtain ⟨⟨hnm40, hsum, hnu1⟩, hno, hNk, hSe, hPt, hDc⟩ := id hGl
  have hse44 : se ≤ 44 := by omega
  refine lv_aload_n hx hb dX12_readDifferent_0 rfl (lv_at hl 0 rfl) ?_
  refine va_get (D := (dC, dI)) (ci := 12) (v := .int (vi 92)) (C := RX12) (T := TX12) (N := 163) (fs := fM (vS a vi vj)) hx hb hts iwsRX12_readDifferent_in12 hown hK hP 0 rfl rfl 92 (by decide) (hts _ hm_r_X12_readDifferent_0) (fun _ h9 => h9) rfl dX12_readDifferent_1 ?_
  refine lv_topi (fun y1 hy1 => ?_)
  obtain rfl : (nI dn) = y1 := (hy1.trans (hdn)).symm
  refine lv_bipush (v := 8) hx hb dX12_readDifferent_4 (by decide) ?_
  refine lv_icmp_ne (tgt := 19) hx hb dX12_readDifferent_6 (by decide) (fun c_6 => ?_) (fun c_6 => ?_)
  · have t_6 : ((dn : Nat) : Int) ≠ 8 := toI_ne c_6 (nI_toInt (by omega)) (by decide)
    refine lv_aload_n hx hb dX12_readDifferent_19 rfl (lv_at hl 0 rfl) ?_
    have hFc := allFree hD hS hA
    refine va_callv (va_runV (As := []) (rest := []) ⟨hx, hb, hml, hown, hts⟩ (r_X12_next l dC dI a k h0 vi vj vF vG tp an hTp (by first | with_reducible assumption | decide | omega | rfl | assumption) ha0 (by first | with_reducible assumption | decide | omega | rfl | assumption) s.heap.size) (cwV 0 hts gwsRX12_readDifferent_0 rfl rfl rfl hd_yX12_next_RX12 (by decide +kernel)) (fz_preE (va_recv hK hP (ci := 12) (q0 := 0) rfl rfl) hP hK hD (fun a U g mk qE => qE.same rfl) (fun U hU9 hW => by rw [hU9]; exact (((hE : StrA A s s.heap).kept hS.2.1).narrow (fun q h => hFc q h)).warm hW)) rfl rfl hl.1 rfl (lv_room (Nat.le_of_ble_eq_true rfl)) dX12_readDifferent_20 (by decide +kernel)) hS (fun q _ h => hFc q h) hFc (fun u t9_ H locs ht hvm hw9 hB9 hz1 hk1 hS => ?_)
    revert u hw9 hB9
    refine fz_p4 ?_
    intro a220 f220 sg20 wd20 hw9 hB9
    try dsimp only at hw9 hB9
    have hP : va_P (dC, dI) vwCl (WR a k h0 (fT (fT (fT (fT vi 17 (nI a220)) 19 (nI f220)) 20 sg20) 18 wd20) vj vF vG) H := fz_P ht hB9.1
    have hD := fz_sd hP (hB9.2.weaken (fun _ q _ h => hFc q.1 h)) rfl
    revert hw9
    refine fz_a2 ?_
    intro f20_0 f20_1
    have hl1 := f20_0.1
    have hl2 := f20_0.2.1
    refine lv_iconst (v := 0) hx hb dX12_readDifferent_23 (by decide) ?_
    refine lv_istore_n hx hb dX12_readDifferent_24 rfl hl (by decide) rfl (fun ls (hl : lv_has ls _ ([(1, .int 0), (0, .ref h0)])) => ?_)
    refine lv_iconst (v := 0) hx hb dX12_readDifferent_25 (by decide) ?_
    refine lv_istore_n hx hb dX12_readDifferent_26 rfl hl (by decide) rfl (fun ls (hl : lv_has ls _ ([(2, .int 0), (1, .int 0), (0, .ref h0)])) => ?_)
    refine lv_iconst (v := 1) hx hb dX12_readDifferent_27 (by decide) ?_
    refine lv_istore_n hx hb dX12_readDifferent_28 rfl hl (by decide) rfl (fun ls (hl : lv_has ls _ ([(3, .int 1), (2, .int 0), (1, .int 0), (0, .ref h0)])) => ?_)
    have hl : lv_has _ _ ([(0, .ref h0), (1, .int 0), (2, .int (nI 0)), (3, .int 1)]) := lv_sub hl [3, 2, 1, 0] rfl
    refine (fun (loop : ∀ (n9 : Nat) (bt : Int32) (n5 : Nat) (mz : Int32) (a5 : Nat) (f5 : Nat) (w5 : Int32) (q5 : Int32) (H : Heap) (locs : List Loc) (ls : Array Slot), (n5 ≤ 8) → (mz = 0 ∨ n5 < 8) → (LxO tp f5 a5 w5 q5) → (f220 ≤ f5) →  (9 < n5 + n9) → va_P (dC, dI) vwCl (WR a k h0 (fT (fT (fT (fT vi 17 (nI a5)) 19 (nI f5)) 20 q5) 18 w5) vj vF vG) H → va_D A (WR a k h0 (fT (fT (fT (fT vi 17 (nI a5)) 19 (nI f5)) 20 q5) 18 w5) vj vF vG) → va_S A s.heap H locs → lv_has ls 8 [(0, .ref h0), (1, .int bt), (2, .int (nI n5)), (3, .int mz)] → W p l e _ s m _ below meth c H locs 0 0 _ (F0 m 29 ls [])) => loop (10) 0 0 1 a220 f220 wd20 sg20 _ _ _ (by omega) (Or.inr (by omega)) (f20_0) (Nat.le_refl _) (by omega) hP hD hS hl) ?_
    intro n9
    induction n9 with
    | zero => intro bt n5 mz a5 f5 w5 q5 H locs ls hn5 hmz hLx5 hf5 hf9; exact False.elim (by omega)
    | succ n9 ih29 =>
      intro bt n5 mz a5 f5 w5 q5 H locs ls hn5 hmz hLx5 hf5 hf29 hP hD hS hl
      have hla5 := hLx5.1
      have hlb5 := hLx5.2.1
      refine lv_iload_n hx hb dX12_readDifferent_29 rfl (lv_at hl 3 rfl) ?_
      refine lv_if_eq (tgt := 254) hx hb dX12_readDifferent_30 (by decide) (fun c_30 => ?_) (fun c_30 => ?_)
      · have t_30 : (mz).toInt = 0 := toI_eq c_30 rfl (by decide)
        refine lv_aload_n hx hb dX12_readDifferent_254 rfl (lv_at hl 0 rfl) ?_
        refine lv_bipush (v := 59) hx hb dX12_readDifferent_255 (by decide) ?_
        have hFc := allFree hD hS hA
        refine va_calli (va_runV (As := [.int 59]) (rest := []) ⟨hx, hb, hml, hown, hts⟩ (r_X12_needSign l dC dI a k h0 (fT (fT (fT (fT vi 17 (nI a5)) 19 (nI f5)) 20 q5) 18 w5) vj vF vG 59 tp a5 f5 hTp (by first | with_reducible assumption | decide | omega | rfl | assumption) rfl rfl (hLx5) (by first | with_reducible assumption | decide | omega | rfl | assumption) H.size) (cwV 1 hts gwsRX12_readDifferent_1 rfl rfl rfl hd_yX12_needSign_RX12 (by decide +kernel)) (fz_preE (va_recv hK hP (ci := 12) (q0 := 0) rfl rfl) hP hK hD (fun a U g mk qE => qE.same rfl) (fun U hU9 hW => by rw [hU9]; exact (((hE : StrA A s s.heap).kept hS.2.1).narrow (fun q h => hFc q h)).warm hW)) rfl rfl hl.1 rfl (lv_room (Nat.le_of_ble_eq_true rfl)) dX12_readDifferent_257 (by decide +kernel)) hS (fun q _ h => hFc q h) hFc (fun r257 u t9_ H locs ht hvm hw9 hB9 hz1 hk1 hS => ?_)
        revert u hw9 hB9
        refine fz_p6 ?_
        intro a2257 f2257 sg257 wd257 s2257 p2257 hw9 hB9
        try dsimp only at hw9 hB9
        have e9i : fT (fT (fT (fT (fT (fT vi 17 (nI a2257)) 19 (nI f2257)) 20 sg257) 18 wd257) 21 s2257) 22 p2257 = fT (fT (fT (fT (fT (fT (fT (fT (fT (fT vi 17 (nI a5)) 19 (nI f5)) 20 q5) 18 w5) 17 (nI a2257)) 19 (nI f2257)) 20 sg257) 18 wd257) 21 s2257) 22 p2257 := ((congrArg (fun g9 => fT (fT (fT (fT (fT g9 19 (nI f2257)) 20 sg257) 18 wd257) 21 s2257) 22 p2257) ((fT_sw _ _ _ (Nat.ne_of_beq_eq_false rfl)).trans (congrArg (fun g9 => fT g9 18 w5) ((fT_sw _ _ _ (Nat.ne_of_beq_eq_false rfl)).trans (congrArg (fun g9 => fT g9 20 q5) ((fT_sw _ _ _ (Nat.ne_of_beq_eq_false rfl)).trans (congrArg (fun g9 => fT g9 19 (nI f5)) (fT_sm _ _ _ _)))))))).trans ((congrArg (fun g9 => fT (fT (fT (fT g9 20 sg257) 18 wd257) 21 s2257) 22 p2257) ((fT_sw _ _ _ (Nat.ne_of_beq_eq_false rfl)).trans (congrArg (fun g9 => fT g9 18 w5) ((fT_sw _ _ _ (Nat.ne_of_beq_eq_false rfl)).trans (congrArg (fun g9 => fT g9 20 q5) (fT_sm _ _ _ _)))))).trans ((congrArg (fun g9 => fT (fT (fT g9 18 wd257) 21 s2257) 22 p2257) ((fT_sw _ _ _ (Nat.ne_of_beq_eq_false rfl)).trans (congrArg (fun g9 => fT g9 18 w5) (fT_sm _ _ _ _)))).trans (congrArg (fun g9 => fT (fT g9 21 s2257) 22 p2257) (fT_sm _ _ _ _))))).symm
        have hP := wr_Pi e9i (fz_P ht hB9.1)
        have hD := wr_Di e9i (hB9.2.weaken (fun _ q _ h => hFc q.1 h))
        clear e9i
        rcases hw9 with ⟨rfl, f257_0, f257_1, f257_2, f257_3⟩ | ⟨rfl, f257_0, f257_1, f257_2⟩
        · have f257_3 : (vi 21) = 0 := f257_3
          refine lv_if_ne (tgt := 264) hx hb dX12_readDifferent_260 (by decide) (fun _ => ?_) (fun c9 => absurd c9 (by decide))
          refine lv_aload_n hx hb dX12_readDifferent_264 rfl (lv_at hl 0 rfl) ?_
          refine va_get (D := (dC, dI)) (ci := 12) (v := .ref (a 62)) (C := RX12) (T := TX12) (N := 163) (fs := fM (vS a (fT (fT (fT (fT (fT (fT vi 17 (nI a2257)) 19 (nI f2257)) 20 sg257) 18 wd257) 21 s2257) 22 p2257) vj)) hx hb hts iwsRX12_readDifferent_in12 hown hK hP 0 rfl rfl 102 (by decide) (hts (.fieldLink RX12 209 "OptimaWorksModel" "differentSet" "[I") (by decide +kernel)) (fun _ h9 => h9) rfl dX12_readDifferent_265 ?_
          refine lv_aload_n hx hb dX12_readDifferent_268 rfl (lv_at hl 0 rfl) ?_
          refine va_get (D := (dC, dI)) (ci := 12) (v := .int (vi 92)) (C := RX12) (T := TX12) (N := 163) (fs := fM (vS a (fT (fT (fT (fT (fT (fT vi 17 (nI a2257)) 19 (nI f2257)) 20 sg257) 18 wd257) 21 s2257) 22 p2257) vj)) hx hb hts iwsRX12_readDifferent_in12 hown hK hP 0 rfl rfl 92 (by decide) (hts _ hm_r_X12_readDifferent_0) (fun _ h9 => h9) rfl dX12_readDifferent_269 ?_
          refine lv_topi (fun y2 hy2 => ?_)
          obtain rfl : (nI dn) = y2 := (hy2.trans (hdn)).symm
          refine lv_iload_n hx hb dX12_readDifferent_272 rfl (lv_at hl 1 rfl) ?_
          refine va_iast (cA := k 62) (n := 9) (f := (vF 62)) hx hb hK hP hD hS 63 62 (WR_get 62 (by decide)) (TR_get 62 (by decide)) (vp_in_nI (show dn < 9 by omega) (by omega)) dX12_readDifferent_273 (fun H locs hP hD hS => ?_)
          have hP : va_P (dC, dI) vwCl (WR a k h0 (fT (fT (fT (fT (fT (fT vi 17 (nI a2257)) 19 (nI f2257)) 20 sg257) 18 wd257) 21 s2257) 22 p2257) vj (fT vF 62 (upd (vF 62) ((nI dn)).toNatClampNeg bt)) vG) H := fz_w (WR_F 62 (by decide) _ rfl) hP
          have hD : va_D A (WR a k h0 (fT (fT (fT (fT (fT (fT vi 17 (nI a2257)) 19 (nI f2257)) 20 sg257) 18 wd257) 21 s2257) 22 p2257) vj (fT vF 62 (upd (vF 62) ((nI dn)).toNatClampNeg bt)) vG) := fz_wD (WR_F 62 (by decide) _ rfl) hD
          refine lv_aload_n hx hb dX12_readDifferent_274 rfl (lv_at hl 0 rfl) ?_
          refine lv_dup hx hb dX12_readDifferent_275 rfl ?_
          refine va_get (D := (dC, dI)) (ci := 12) (v := .int (vi 92)) (C := RX12) (T := TX12) (N := 163) (fs := fM (vS a (fT (fT (fT (fT (fT (fT vi 17 (nI a2257)) 19 (nI f2257)) 20 sg257) 18 wd257) 21 s2257) 22 p2257) vj)) hx hb hts iwsRX12_readDifferent_in12 hown hK hP 0 rfl rfl 92 (by decide) (hts _ hm_r_X12_readDifferent_0) (fun _ h9 => h9) rfl dX12_readDifferent_276 ?_
          refine lv_topi (fun y3 hy3 => ?_)
          obtain rfl : (nI dn) = y3 := (hy3.trans (hdn)).symm
          refine lv_iconst (v := 1) hx hb dX12_readDifferent_279 (by decide) ?_
          refine lv_iadd hx hb dX12_readDifferent_280 ?_
          refine lv_topi (fun y4 hy4 => ?_)
          obtain rfl : (nI (dn + 1)) = y4 := (hy4.trans (nI_add dn 1)).symm
          refine va_put (D := (dC, dI)) (ci := 12) (v := .int (nI (dn + 1))) (ty := .int) (C := RX12) (T := TX12) (N := 163) (fs := fM (vS a (fT (fT (fT (fT (fT (fT vi 17 (nI a2257)) 19 (nI f2257)) 20 sg257) 18 wd257) 21 s2257) 22 p2257) vj)) hx hb hts iwsRX12_readDifferent_in12 tyX12 tyX12_ok nmX12 hown hK hP hD hS 0 rfl rfl 92 (by decide) (hts _ hm_r_X12_readDifferent_0) (fun _ h9 => h9) rfl (by decide +kernel) rfl rfl (Nat.le_of_ble_eq_true rfl) dX12_readDifferent_281 (fun H locs hP hD hS => ?_)
          have hP : va_P (dC, dI) vwCl (WR a k h0 (fT (fT (fT (fT (fT (fT (fT vi 17 (nI a2257)) 19 (nI f2257)) 20 sg257) 18 wd257) 21 s2257) 22 p2257) 92 (nI (dn + 1))) vj (fT vF 62 (upd (vF 62) ((nI dn)).toNatClampNeg bt)) vG) H := fz_w (WR_i 92 _ rfl) hP
          have hD : va_D A (WR a k h0 (fT (fT (fT (fT (fT (fT (fT vi 17 (nI a2257)) 19 (nI f2257)) 20 sg257) 18 wd257) 21 s2257) 22 p2257) 92 (nI (dn + 1))) vj (fT vF 62 (upd (vF 62) ((nI dn)).toNatClampNeg bt)) vG) := fz_wD (WR_i 92 _ rfl) hD
          refine W.widen (k := 0) (n := 0) (by decide +kernel) (by decide +kernel) ?_
          exact W.vret hx hb hr (fun t9_ ht hW => ⟨⟨(a2257, f2257, sg257, wd257, s2257, p2257, (upd (vF 62) ((nI dn)).toNatClampNeg bt), (dn + 1)), rfl, by (try dsimp only); exact ⟨f257_1, by omega, by rw [f257_0]; decide, Or.inr (by omega), by omega⟩, by rw [ht]; exact hP, hD⟩, hS.F ht⟩) hS.2.2 dX12_readDifferent_284
        · refine lv_if_ne (tgt := 264) hx hb dX12_readDifferent_260 (by decide) (fun c9 => absurd c9 (by decide)) (fun _ => ?_)
          refine W.widen (k := 0) (n := 0) (by decide +kernel) (by decide +kernel) ?_
          have e9 : fT (fT (fT (fT (fT (fT (fT vi 17 (nI a2257)) 19 (nI f2257)) 20 sg257) 18 wd257) 21 s2257) 22 p2257) 92 (nI dn) = fT (fT (fT (fT (fT (fT vi 17 (nI a2257)) 19 (nI f2257)) 20 sg257) 18 wd257) 21 s2257) 22 p2257 := by funext q9; by_cases h9_17 : q9 = 17; (subst h9_17; exact ((fT_ne _ _ (Nat.ne_of_beq_eq_false rfl)).trans ((fT_ne _ _ (Nat.ne_of_beq_eq_false rfl)).trans ((fT_ne _ _ (Nat.ne_of_beq_eq_false rfl)).trans ((fT_ne _ _ (Nat.ne_of_beq_eq_false rfl)).trans ((fT_ne _ _ (Nat.ne_of_beq_eq_false rfl)).trans ((fT_ne _ _ (Nat.ne_of_beq_eq_false rfl)).trans (fT_eq _ _ _))))))).trans (Eq.trans (by first | with_reducible rfl | with_reducible assumption | (symm; with_reducible assumption) | rfl | assumption | (symm; assumption) | (subst_vars; rfl)) ((fT_ne _ _ (Nat.ne_of_beq_eq_false rfl)).trans ((fT_ne _ _ (Nat.ne_of_beq_eq_false rfl)).trans ((fT_ne _ _ (Nat.ne_of_beq_eq_false rfl)).trans ((fT_ne _ _ (Nat.ne_of_beq_eq_false rfl)).trans ((fT_ne _ _ (Nat.ne_of_beq_eq_false rfl)).trans (fT_eq _ _ _)))))).symm)); by_cases h9_19 : q9 = 19; (subst h9_19; exact ((fT_ne _ _ (Nat.ne_of_beq_eq_false rfl)).trans ((fT_ne _ _ (Nat.ne_of_beq_eq_false rfl)).trans ((fT_ne _ _ (Nat.ne_of_beq_eq_false rfl)).trans ((fT_ne _ _ (Nat.ne_of_beq_eq_false rfl)).trans ((fT_ne _ _ (Nat.ne_of_beq_eq_false rfl)).trans (fT_eq _ _ _)))))).trans (Eq.trans (by first | with_reducible rfl | with_reducible assumption | (symm; with_reducible assumption) | rfl | assumption | (symm; assumption) | (subst_vars; rfl)) ((fT_ne _ _ (Nat.ne_of_beq_eq_false rfl)).trans ((fT_ne _ _ (Nat.ne_of_beq_eq_false rfl)).trans ((fT_ne _ _ (Nat.ne_of_beq_eq_false rfl)).trans ((fT_ne _ _ (Nat.ne_of_beq_eq_false rfl)).trans (fT_eq _ _ _))))).symm)); by_cases h9_20 : q9 = 20; (subst h9_20; exact ((fT_ne _ _ (Nat.ne_of_beq_eq_false rfl)).trans ((fT_ne _ _ (Nat.ne_of_beq_eq_false rfl)).trans ((fT_ne _ _ (Nat.ne_of_beq_eq_false rfl)).trans ((fT_ne _ _ (Nat.ne_of_beq_eq_false rfl)).trans (fT_eq _ _ _))))).trans (Eq.trans (by first | with_reducible rfl | with_reducible assumption | (symm; with_reducible assumption) | rfl | assumption | (symm; assumption) | (subst_vars; rfl)) ((fT_ne _ _ (Nat.ne_of_beq_eq_false rfl)).trans ((fT_ne _ _ (Nat.ne_of_beq_eq_false rfl)).trans ((fT_ne _ _ (Nat.ne_of_beq_eq_false rfl)).trans (fT_eq _ _ _)))).symm)); by_cases h9_18 : q9 = 18; (subst h9_18; exact ((fT_ne _ _ (Nat.ne_of_beq_eq_false rfl)).trans ((fT_ne _ _ (Nat.ne_of_beq_eq_false rfl)).trans ((fT_ne _ _ (Nat.ne_of_beq_eq_false rfl)).trans (fT_eq _ _ _)))).trans (Eq.trans (by first | with_reducible rfl | with_reducible assumption | (symm; with_reducible assumption) | rfl | assumption | (symm; assumption) | (subst_vars; rfl)) ((fT_ne _ _ (Nat.ne_of_beq_eq_false rfl)).trans ((fT_ne _ _ (Nat.ne_of_beq_eq_false rfl)).trans (fT_eq _ _ _))).symm)); by_cases h9_21 : q9 = 21; (subst h9_21; exact ((fT_ne _ _ (Nat.ne_of_beq_eq_false rfl)).trans ((fT_ne _ _ (Nat.ne_of_beq_eq_false rfl)).trans (fT_eq _ _ _))).trans (Eq.trans (by first | with_reducible rfl | with_reducible assumption | (symm; with_reducible assumption) | rfl | assumption | (symm; assumption) | (subst_vars; rfl)) ((fT_ne _ _ (Nat.ne_of_beq_eq_false rfl)).trans (fT_eq _ _ _)).symm)); by_cases h9_22 : q9 = 22; (subst h9_22; exact ((fT_ne _ _ (Nat.ne_of_beq_eq_false rfl)).trans (fT_eq _ _ _)).trans (Eq.trans (by first | with_reducible rfl | with_reducible assumption | (symm; with_reducible assumption) | rfl | assumption | (symm; assumption) | (subst_vars; rfl)) (fT_eq _ _ _).symm)); by_cases h9_92 : q9 = 92; (subst h9_92; exact (fT_eq _ _ _).trans (Eq.trans (by first | with_reducible rfl | with_reducible assumption | (symm; with_reducible assumption) | rfl | assumption | (symm; assumption) | (subst_vars; rfl)) ((fT_ne _ _ (Nat.ne_of_beq_eq_false rfl)).trans ((fT_ne _ _ (Nat.ne_of_beq_eq_false rfl)).trans ((fT_ne _ _ (Nat.ne_of_beq_eq_false rfl)).trans ((fT_ne _ _ (Nat.ne_of_beq_eq_false rfl)).trans ((fT_ne _ _ (Nat.ne_of_beq_eq_false rfl)).trans (fT_ne _ _ (Nat.ne_of_beq_eq_false rfl))))))).symm)); exact ((fT_ne _ _ h9_92).trans ((fT_ne _ _ h9_22).trans ((fT_ne _ _ h9_21).trans ((fT_ne _ _ h9_18).trans ((fT_ne _ _ h9_20).trans ((fT_ne _ _ h9_19).trans (fT_ne _ _ h9_17))))))).trans ((fT_ne _ _ h9_22).trans ((fT_ne _ _ h9_21).trans ((fT_ne _ _ h9_18).trans ((fT_ne _ _ h9_20).trans ((fT_ne _ _ h9_19).trans (fT_ne _ _ h9_17)))))).symm
          have hP := wr_Pi e9 hP
          have hD := wr_Di e9 hD
          clear e9
          have e9 : fT vF 62 (vF 62) = vF := fT_id _ _ (rfl)
          have hP := wr_PF e9 hP
          have hD := wr_DF e9 hD
          clear e9
          exact W.vret hx hb hr (fun t9_ ht hW => ⟨⟨(a2257, f2257, sg257, wd257, s2257, p2257, (vF 62), dn), rfl, by (try dsimp only); exact ⟨f257_1, by omega, by omega, Or.inl f257_0, by omega⟩, by rw [ht]; exact hP, hD⟩, hS.F ht⟩) hS.2.2 dX12_readDifferent_263
      · have t_30 : ¬ (mz).toInt = 0 := toI_neq c_30 rfl (by decide)
        have hn8 := hmz.resolve_left c_30
        refine lv_aload_n hx hb dX12_readDifferent_33 rfl (lv_at hl 0 rfl) ?_
        refine va_get (D := (dC, dI)) (ci := 12) (v := .int (vi 21)) (C := RX12) (T := TX12) (N := 163) (fs := fM (vS a (fT (fT (fT (fT vi 17 (nI a5)) 19 (nI f5)) 20 q5) 18 w5) vj)) hx hb hts iwsRX12_readDifferent_in12 hown hK hP 0 rfl rfl 21 (by decide) (hts _ hm_r_X12_readDifferent_1) (fun _ h9 => h9) rfl dX12_readDifferent_34 ?_
        refine lv_if_ne (tgt := 254) hx hb dX12_readDifferent_37 (by decide) (fun c9 => False.elim (by have t9 : ((vi 21)).toInt ≠ 0 := toI_ne c9 rfl (by decide); omega)) (fun c_37 => ?_)
        have t_37 : ((vi 21)).toInt = 0 := toI_nne c_37 rfl (by decide)
        refine lv_aload_n hx hb dX12_readDifferent_40 rfl (lv_at hl 0 rfl) ?_
        refine va_get (D := (dC, dI)) (ci := 12) (v := .int w5) (C := RX12) (T := TX12) (N := 163) (fs := fM (vS a (fT (fT (fT (fT vi 17 (nI a5)) 19 (nI f5)) 20 q5) 18 w5) vj)) hx hb hts iwsRX12_readDifferent_in12 hown hK hP 0 rfl rfl 18 (by decide) (hts (.fieldLink RX12 494 "OptimaWorksModel" "word" "I") (by decide +kernel)) (fun _ h9 => h9) rfl dX12_readDifferent_41 ?_
        refine lv_iconst (v := 1) hx hb dX12_readDifferent_44 (by decide) ?_
        refine lv_icmp_eq (tgt := 53) hx hb dX12_readDifferent_45 (by decide) (fun c_45 => ?_) (fun c_45 => ?_)
        · have t_45 : (w5).toInt = 1 := toI_eq c_45 rfl (by decide)
          refine lv_aload_n hx hb dX12_readDifferent_53 rfl (lv_at hl 0 rfl) ?_
          have hFc := allFree hD hS hA
          refine va_calli (va_runV (As := []) (rest := []) ⟨hx, hb, hml, hown, hts⟩ (r_X12_declared l dC dI a k h0 (fT (fT (fT (fT vi 17 (nI a5)) 19 (nI f5)) 20 q5) 18 w5) vj vF vG a5 f5 nm rfl rfl (by first | with_reducible assumption | decide | omega | rfl | assumption) (by first | with_reducible assumption | decide | omega | rfl | assumption) hnm (by first | with_reducible assumption | decide | omega | rfl | assumption) (by first | with_reducible assumption | decide | omega | rfl | assumption) H.size) (cwV 0 hts gwsRX12_readDifferent_2 rfl rfl rfl hd_yX12_declared_RX12 (by decide +kernel)) (fz_pre (va_recv hK hP (ci := 12) (q0 := 0) rfl rfl) hP hK hD) rfl rfl hl.1 rfl (lv_room (Nat.le_of_ble_eq_true rfl)) dX12_readDifferent_54 (by decide +kernel)) hS (fun q _ h => hFc q h) hFc (fun r54 kx54 t9_ H locs ht hvm hw9 hB9 hz1 hk1 hS => ?_)
          have hP : va_P (dC, dI) vwCl (WR a k h0 (fT (fT (fT (fT vi 17 (nI a5)) 19 (nI f5)) 20 q5) 18 w5) vj vF vG) H := fz_P ht hB9.1
          have hD := fz_sd hP (hB9.2.weaken (fun _ q _ h => hFc q.1 h)) rfl
          rcases hw9 with rfl | ⟨rfl, f54_0⟩
          · refine lv_istore hx hb dX12_readDifferent_57 hl (by decide) rfl (fun ls (hl : lv_has ls _ ([(4, .int (-1)), (0, .ref h0), (1, .int bt), (2, .int (nI n5)), (3, .int mz)])) => ?_)
            refine lv_iload hx hb dX12_readDifferent_59 (lv_at hl 0 rfl) ?_
            refine lv_iconst (v := (-1)) hx hb dX12_readDifferent_61 (by decide) ?_
            refine lv_icmp_eq (tgt := 91) hx hb dX12_readDifferent_62 (by decide) (fun _ => ?_) (fun c9 => absurd (by decide) c9)
            refine lv_aload_n hx hb dX12_readDifferent_91 rfl (lv_at hl 1 rfl) ?_
            refine lv_iconst (v := 3) hx hb dX12_readDifferent_92 (by decide) ?_
            refine lv_aload_n hx hb dX12_readDifferent_93 rfl (lv_at hl 1 rfl) ?_
            refine va_get (D := (dC, dI)) (ci := 12) (v := .int (nI f5)) (C := RX12) (T := TX12) (N := 163) (fs := fM (vS a (fT (fT (fT (fT vi 17 (nI a5)) 19 (nI f5)) 20 q5) 18 w5) vj)) hx hb hts iwsRX12_readDifferent_in12 hown hK hP 0 rfl rfl 19 (by decide) (hts _ hm_r_X12_readDifferent_2) (fun _ h9 => h9) rfl dX12_readDifferent_94 ?_
            have hFc := allFree hD hS hA
            refine va_callv (va_runV (As := [.int 3, .int (nI f5)]) (rest := []) ⟨hx, hb, hml, hown, hts⟩ (r_X12_faultAt l dC dI a k h0 (fT (fT (fT (fT vi 17 (nI a5)) 19 (nI f5)) 20 q5) 18 w5) vj vF vG 3 (nI f5) (by first | with_reducible assumption | decide | omega | rfl | assumption) H.size) (cwV 2 hts gwsRX12_readDifferent_3 rfl rfl rfl hd_yX12_faultAt_RX12 (by decide +kernel)) (fz_pre (va_recv hK hP (ci := 12) (q0 := 0) rfl rfl) hP hK hD) rfl rfl hl.1 rfl (lv_room (Nat.le_of_ble_eq_true rfl)) dX12_readDifferent_97 (by decide +kernel)) hS (fun q _ h => hFc q h) hFc (fun u t9_ H locs ht hvm hw9 hB9 hz1 hk1 hS => ?_)
            revert u hw9 hB9
            refine fz_p2 ?_
            intro s297 p297 hw9 hB9
            try dsimp only at hw9 hB9
            have hP : va_P (dC, dI) vwCl (WR a k h0 (fT (fT (fT (fT (fT (fT vi 17 (nI a5)) 19 (nI f5)) 20 q5) 18 w5) 21 s297) 22 p297) vj vF vG) H := fz_P ht hB9.1
            have hD := fz_sd hP (hB9.2.weaken (fun _ q _ h => hFc q.1 h)) rfl
            revert hw9
            refine fz_a2 ?_
            intro f97_0 f97_1
            have f97_0 : (0 < (vi 21).toInt ∧ s297 = (vi 21) ∧ p297 = (vi 22)) ∨ (¬ 0 < (vi 21).toInt ∧ s297 = 3 ∧ p297 = (nI f5)) := f97_0
            refine lv_aload_n hx hb dX12_readDifferent_100 rfl (lv_at hl 1 rfl) ?_
            refine va_get (D := (dC, dI)) (ci := 12) (v := .int s297) (C := RX12) (T := TX12) (N := 163) (fs := fM (vS a (fT (fT (fT (fT (fT (fT vi 17 (nI a5)) 19 (nI f5)) 20 q5) 18 w5) 21 s297) 22 p297) vj)) hx hb hts iwsRX12_readDifferent_in12 hown hK hP 0 rfl rfl 21 (by decide) (hts _ hm_r_X12_readDifferent_1) (fun _ h9 => h9) rfl dX12_readDifferent_101 ?_
            refine lv_if_le (tgt := 108) hx hb dX12_readDifferent_104 (by decide) (fun c9 => False.elim (by have t9 : (s297).toInt ≤ 0 := toI_le c9 rfl (by decide); omega)) (fun c_104 => ?_)
            have t_104 : ¬ (s297).toInt ≤ 0 := toI_nle c_104 rfl (by decide)
            refine W.widen (k := 0) (n := 0) (by decide +kernel) (by decide +kernel) ?_
            have e9 : fT (fT (fT (fT (fT (fT (fT vi 17 (nI a5)) 19 (nI f5)) 20 q5) 18 w5) 21 s297) 22 p297) 92 (nI dn) = fT (fT (fT (fT (fT (fT vi 17 (nI a5)) 19 (nI f5)) 20 q5) 18 w5) 21 s297) 22 p297 := by funext q9; by_cases h9_17 : q9 = 17; (subst h9_17; exact ((fT_ne _ _ (Nat.ne_of_beq_eq_false rfl)).trans ((fT_ne _ _ (Nat.ne_of_beq_eq_false rfl)).trans ((fT_ne _ _ (Nat.ne_of_beq_eq_false rfl)).trans ((fT_ne _ _ (Nat.ne_of_beq_eq_false rfl)).trans ((fT_ne _ _ (Nat.ne_of_beq_eq_false rfl)).trans ((fT_ne _ _ (Nat.ne_of_beq_eq_false rfl)).trans (fT_eq _ _ _))))))).trans (Eq.trans (by first | with_reducible rfl | with_reducible assumption | (symm; with_reducible assumption) | rfl | assumption | (symm; assumption) | (subst_vars; rfl)) ((fT_ne _ _ (Nat.ne_of_beq_eq_false rfl)).trans ((fT_ne _ _ (Nat.ne_of_beq_eq_false rfl)).trans ((fT_ne _ _ (Nat.ne_of_beq_eq_false rfl)).trans ((fT_ne _ _ (Nat.ne_of_beq_eq_false rfl)).trans ((fT_ne _ _ (Nat.ne_of_beq_eq_false rfl)).trans (fT_eq _ _ _)))))).symm)); by_cases h9_19 : q9 = 19; (subst h9_19; exact ((fT_ne _ _ (Nat.ne_of_beq_eq_false rfl)).trans ((fT_ne _ _ (Nat.ne_of_beq_eq_false rfl)).trans ((fT_ne _ _ (Nat.ne_of_beq_eq_false rfl)).trans ((fT_ne _ _ (Nat.ne_of_beq_eq_false rfl)).trans ((fT_ne _ _ (Nat.ne_of_beq_eq_false rfl)).trans (fT_eq _ _ _)))))).trans (Eq.trans (by first | with_reducible rfl | with_reducible assumption | (symm; with_reducible assumption) | rfl | assumption | (symm; assumption) | (subst_vars; rfl)) ((fT_ne _ _ (Nat.ne_of_beq_eq_false rfl)).trans ((fT_ne _ _ (Nat.ne_of_beq_eq_false rfl)).trans ((fT_ne _ _ (Nat.ne_of_beq_eq_false rfl)).trans ((fT_ne _ _ (Nat.ne_of_beq_eq_false rfl)).trans (fT_eq _ _ _))))).symm)); by_cases h9_20 : q9 = 20; (subst h9_20; exact ((fT_ne _ _ (Nat.ne_of_beq_eq_false rfl)).trans ((fT_ne _ _ (Nat.ne_of_beq_eq_false rfl)).trans ((fT_ne _ _ (Nat.ne_of_beq_eq_false rfl)).trans ((fT_ne _ _ (Nat.ne_of_beq_eq_false rfl)).trans (fT_eq _ _ _))))).trans (Eq.trans (by first | with_reducible rfl | with_reducible assumption | (symm; with_reducible assumption) | rfl | assumption | (symm; assumption) | (subst_vars; rfl)) ((fT_ne _ _ (Nat.ne_of_beq_eq_false rfl)).trans ((fT_ne _ _ (Nat.ne_of_beq_eq_false rfl)).trans ((fT_ne _ _ (Nat.ne_of_beq_eq_false rfl)).trans (fT_eq _ _ _)))).symm)); by_cases h9_18 : q9 = 18; (subst h9_18; exact ((fT_ne _ _ (Nat.ne_of_beq_eq_false rfl)).trans ((fT_ne _ _ (Nat.ne_of_beq_eq_false rfl)).trans ((fT_ne _ _ (Nat.ne_of_beq_eq_false rfl)).trans (fT_eq _ _ _)))).trans (Eq.trans (by first | with_reducible rfl | with_reducible assumption | (symm; with_reducible assumption) | rfl | assumption | (symm; assumption) | (subst_vars; rfl)) ((fT_ne _ _ (Nat.ne_of_beq_eq_false rfl)).trans ((fT_ne _ _ (Nat.ne_of_beq_eq_false rfl)).trans (fT_eq _ _ _))).symm)); by_cases h9_21 : q9 = 21; (subst h9_21; exact ((fT_ne _ _ (Nat.ne_of_beq_eq_false rfl)).trans ((fT_ne _ _ (Nat.ne_of_beq_eq_false rfl)).trans (fT_eq _ _ _))).trans (Eq.trans (by first | with_reducible rfl | with_reducible assumption | (symm; with_reducible assumption) | rfl | assumption | (symm; assumption) | (subst_vars; rfl)) ((fT_ne _ _ (Nat.ne_of_beq_eq_false rfl)).trans (fT_eq _ _ _)).symm)); by_cases h9_22 : q9 = 22; (subst h9_22; exact ((fT_ne _ _ (Nat.ne_of_beq_eq_false rfl)).trans (fT_eq _ _ _)).trans (Eq.trans (by first | with_reducible rfl | with_reducible assumption | (symm; with_reducible assumption) | rfl | assumption | (symm; assumption) | (subst_vars; rfl)) (fT_eq _ _ _).symm)); by_cases h9_92 : q9 = 92; (subst h9_92; exact (fT_eq _ _ _).trans (Eq.trans (by first | with_reducible rfl | with_reducible assumption | (symm; with_reducible assumption) | rfl | assumption | (symm; assumption) | (subst_vars; rfl)) ((fT_ne _ _ (Nat.ne_of_beq_eq_false rfl)).trans ((fT_ne _ _ (Nat.ne_of_beq_eq_false rfl)).trans ((fT_ne _ _ (Nat.ne_of_beq_eq_false rfl)).trans ((fT_ne _ _ (Nat.ne_of_beq_eq_false rfl)).trans ((fT_ne _ _ (Nat.ne_of_beq_eq_false rfl)).trans (fT_ne _ _ (Nat.ne_of_beq_eq_false rfl))))))).symm)); exact ((fT_ne _ _ h9_92).trans ((fT_ne _ _ h9_22).trans ((fT_ne _ _ h9_21).trans ((fT_ne _ _ h9_18).trans ((fT_ne _ _ h9_20).trans ((fT_ne _ _ h9_19).trans (fT_ne _ _ h9_17))))))).trans ((fT_ne _ _ h9_22).trans ((fT_ne _ _ h9_21).trans ((fT_ne _ _ h9_18).trans ((fT_ne _ _ h9_20).trans ((fT_ne _ _ h9_19).trans (fT_ne _ _ h9_17)))))).symm
            have hP := wr_Pi e9 hP
            have hD := wr_Di e9 hD
            clear e9
            have e9 : fT vF 62 (vF 62) = vF := fT_id _ _ (rfl)
            have hP := wr_PF e9 hP
            have hD := wr_DF e9 hD
            clear e9
            exact W.vret hx hb hr (fun t9_ ht hW => ⟨⟨(a5, f5, q5, w5, s297, p297, (vF 62), dn), rfl, by (try dsimp only); exact ⟨hLx5, by omega, by (have h9 := f97_1); omega, Or.inl f97_1, by omega⟩, by rw [ht]; exact hP, hD⟩, hS.F ht⟩) hS.2.2 dX12_readDifferent_107
          · refine lv_istore hx hb dX12_readDifferent_57 hl (by decide) rfl (fun ls (hl : lv_has ls _ ([(4, .int (nI kx54)), (0, .ref h0), (1, .int bt), (2, .int (nI n5)), (3, .int mz)])) => ?_)
            refine lv_iload hx hb dX12_readDifferent_59 (lv_at hl 0 rfl) ?_
            refine lv_iconst (v := (-1)) hx hb dX12_readDifferent_61 (by decide) ?_
            refine lv_icmp_eq (tgt := 91) hx hb dX12_readDifferent_62 (by decide) (fun c_62 => ?_) (fun c_62 => ?_)
            · have t_62 : ((kx54 : Nat) : Int) = -1 := toI_eq c_62 (nI_toInt (by omega)) (by decide)
              refine lv_aload_n hx hb dX12_readDifferent_91 rfl (lv_at hl 1 rfl) ?_
              refine lv_iconst (v := 3) hx hb dX12_readDifferent_92 (by decide) ?_
              refine lv_aload_n hx hb dX12_readDifferent_93 rfl (lv_at hl 1 rfl) ?_
              refine va_get (D := (dC, dI)) (ci := 12) (v := .int (nI f5)) (C := RX12) (T := TX12) (N := 163) (fs := fM (vS a (fT (fT (fT (fT vi 17 (nI a5)) 19 (nI f5)) 20 q5) 18 w5) vj)) hx hb hts iwsRX12_readDifferent_in12 hown hK hP 0 rfl rfl 19 (by decide) (hts _ hm_r_X12_readDifferent_2) (fun _ h9 => h9) rfl dX12_readDifferent_94 ?_
              have hFc := allFree hD hS hA
              refine va_callv (va_runV (As := [.int 3, .int (nI f5)]) (rest := []) ⟨hx, hb, hml, hown, hts⟩ (r_X12_faultAt l dC dI a k h0 (fT (fT (fT (fT vi 17 (nI a5)) 19 (nI f5)) 20 q5) 18 w5) vj vF vG 3 (nI f5) (by first | with_reducible assumption | decide | omega | rfl | assumption) H.size) (cwV 2 hts gwsRX12_readDifferent_3 rfl rfl rfl hd_yX12_faultAt_RX12 (by decide +kernel)) (fz_pre (va_recv hK hP (ci := 12) (q0 := 0) rfl rfl) hP hK hD) rfl rfl hl.1 rfl (lv_room (Nat.le_of_ble_eq_true rfl)) dX12_readDifferent_97 (by decide +kernel)) hS (fun q _ h => hFc q h) hFc (fun u t9_ H locs ht hvm hw9 hB9 hz1 hk1 hS => ?_)
              revert u hw9 hB9
              refine fz_p2 ?_
              intro s297_1 p297_1 hw9 hB9
              try dsimp only at hw9 hB9
              have hP : va_P (dC, dI) vwCl (WR a k h0 (fT (fT (fT (fT (fT (fT vi 17 (nI a5)) 19 (nI f5)) 20 q5) 18 w5) 21 s297_1) 22 p297_1) vj vF vG) H := fz_P ht hB9.1
              have hD := fz_sd hP (hB9.2.weaken (fun _ q _ h => hFc q.1 h)) rfl
              revert hw9
              refine fz_a2 ?_
              intro f97_1_0 f97_1_1
              have f97_1_0 : (0 < (vi 21).toInt ∧ s297_1 = (vi 21) ∧ p297_1 = (vi 22)) ∨ (¬ 0 < (vi 21).toInt ∧ s297_1 = 3 ∧ p297_1 = (nI f5)) := f97_1_0
              refine lv_aload_n hx hb dX12_readDifferent_100 rfl (lv_at hl 1 rfl) ?_
              refine va_get (D := (dC, dI)) (ci := 12) (v := .int s297_1) (C := RX12) (T := TX12) (N := 163) (fs := fM (vS a (fT (fT (fT (fT (fT (fT vi 17 (nI a5)) 19 (nI f5)) 20 q5) 18 w5) 21 s297_1) 22 p297_1) vj)) hx hb hts iwsRX12_readDifferent_in12 hown hK hP 0 rfl rfl 21 (by decide) (hts _ hm_r_X12_readDifferent_1) (fun _ h9 => h9) rfl dX12_readDifferent_101 ?_
              refine lv_if_le (tgt := 108) hx hb dX12_readDifferent_104 (by decide) (fun c9 => False.elim (by have t9 : (s297_1).toInt ≤ 0 := toI_le c9 rfl (by decide); omega)) (fun c_104 => ?_)
              have t_104 : ¬ (s297_1).toInt ≤ 0 := toI_nle c_104 rfl (by decide)
              refine W.widen (k := 0) (n := 0) (by decide +kernel) (by decide +kernel) ?_
              have e9 : fT (fT (fT (fT (fT (fT (fT vi 17 (nI a5)) 19 (nI f5)) 20 q5) 18 w5) 21 s297_1) 22 p297_1) 92 (nI dn) = fT (fT (fT (fT (fT (fT vi 17 (nI a5)) 19 (nI f5)) 20 q5) 18 w5) 21 s297_1) 22 p297_1 := by funext q9; by_cases h9_17 : q9 = 17; (subst h9_17; exact ((fT_ne _ _ (Nat.ne_of_beq_eq_false rfl)).trans ((fT_ne _ _ (Nat.ne_of_beq_eq_false rfl)).trans ((fT_ne _ _ (Nat.ne_of_beq_eq_false rfl)).trans ((fT_ne _ _ (Nat.ne_of_beq_eq_false rfl)).trans ((fT_ne _ _ (Nat.ne_of_beq_eq_false rfl)).trans ((fT_ne _ _ (Nat.ne_of_beq_eq_false rfl)).trans (fT_eq _ _ _))))))).trans (Eq.trans (by first | with_reducible rfl | with_reducible assumption | (symm; with_reducible assumption) | rfl | assumption | (symm; assumption) | (subst_vars; rfl)) ((fT_ne _ _ (Nat.ne_of_beq_eq_false rfl)).trans ((fT_ne _ _ (Nat.ne_of_beq_eq_false rfl)).trans ((fT_ne _ _ (Nat.ne_of_beq_eq_false rfl)).trans ((fT_ne _ _ (Nat.ne_of_beq_eq_false rfl)).trans ((fT_ne _ _ (Nat.ne_of_beq_eq_false rfl)).trans (fT_eq _ _ _)))))).symm)); by_cases h9_19 : q9 = 19; (subst h9_19; exact ((fT_ne _ _ (Nat.ne_of_beq_eq_false rfl)).trans ((fT_ne _ _ (Nat.ne_of_beq_eq_false rfl)).trans ((fT_ne _ _ (Nat.ne_of_beq_eq_false rfl)).trans ((fT_ne _ _ (Nat.ne_of_beq_eq_false rfl)).trans ((fT_ne _ _ (Nat.ne_of_beq_eq_false rfl)).trans (fT_eq _ _ _)))))).trans (Eq.trans (by first | with_reducible rfl | with_reducible assumption | (symm; with_reducible assumption) | rfl | assumption | (symm; assumption) | (subst_vars; rfl)) ((fT_ne _ _ (Nat.ne_of_beq_eq_false rfl)).trans ((fT_ne _ _ (Nat.ne_of_beq_eq_false rfl)).trans ((fT_ne _ _ (Nat.ne_of_beq_eq_false rfl)).trans ((fT_ne _ _ (Nat.ne_of_beq_eq_false rfl)).trans (fT_eq _ _ _))))).symm)); by_cases h9_20 : q9 = 20; (subst h9_20; exact ((fT_ne _ _ (Nat.ne_of_beq_eq_false rfl)).trans ((fT_ne _ _ (Nat.ne_of_beq_eq_false rfl)).trans ((fT_ne _ _ (Nat.ne_of_beq_eq_false rfl)).trans ((fT_ne _ _ (Nat.ne_of_beq_eq_false rfl)).trans (fT_eq _ _ _))))).trans (Eq.trans (by first | with_reducible rfl | with_reducible assumption | (symm; with_reducible assumption) | rfl | assumption | (symm; assumption) | (subst_vars; rfl)) ((fT_ne _ _ (Nat.ne_of_beq_eq_false rfl)).trans ((fT_ne _ _ (Nat.ne_of_beq_eq_false rfl)).trans ((fT_ne _ _ (Nat.ne_of_beq_eq_false rfl)).trans (fT_eq _ _ _)))).symm)); by_cases h9_18 : q9 = 18; (subst h9_18; exact ((fT_ne _ _ (Nat.ne_of_beq_eq_false rfl)).trans ((fT_ne _ _ (Nat.ne_of_beq_eq_false rfl)).trans ((fT_ne _ _ (Nat.ne_of_beq_eq_false rfl)).trans (fT_eq _ _ _)))).trans (Eq.trans (by first | with_reducible rfl | with_reducible assumption | (symm; with_reducible assumption) | rfl | assumption | (symm; assumption) | (subst_vars; rfl)) ((fT_ne _ _ (Nat.ne_of_beq_eq_false rfl)).trans ((fT_ne _ _ (Nat.ne_of_beq_eq_false rfl)).trans (fT_eq _ _ _))).symm)); by_cases h9_21 : q9 = 21; (subst h9_21; exact ((fT_ne _ _ (Nat.ne_of_beq_eq_false rfl)).trans ((fT_ne _ _ (Nat.ne_of_beq_eq_false rfl)).trans (fT_eq _ _ _))).trans (Eq.trans (by first | with_reducible rfl | with_reducible assumption | (symm; with_reducible assumption) | rfl | assumption | (symm; assumption) | (subst_vars; rfl)) ((fT_ne _ _ (Nat.ne_of_beq_eq_false rfl)).trans (fT_eq _ _ _)).symm)); by_cases h9_22 : q9 = 22; (subst h9_22; exact ((fT_ne _ _ (Nat.ne_of_beq_eq_false rfl)).trans (fT_eq _ _ _)).trans (Eq.trans (by first | with_reducible rfl | with_reducible assumption | (symm; with_reducible assumption) | rfl | assumption | (symm; assumption) | (subst_vars; rfl)) (fT_eq _ _ _).symm)); by_cases h9_92 : q9 = 92; (subst h9_92; exact (fT_eq _ _ _).trans (Eq.trans (by first | with_reducible rfl | with_reducible assumption | (symm; with_reducible assumption) | rfl | assumption | (symm; assumption) | (subst_vars; rfl)) ((fT_ne _ _ (Nat.ne_of_beq_eq_false rfl)).trans ((fT_ne _ _ (Nat.ne_of_beq_eq_false rfl)).trans ((fT_ne _ _ (Nat.ne_of_beq_eq_false rfl)).trans ((fT_ne _ _ (Nat.ne_of_beq_eq_false rfl)).trans ((fT_ne _ _ (Nat.ne_of_beq_eq_false rfl)).trans (fT_ne _ _ (Nat.ne_of_beq_eq_false rfl))))))).symm)); exact ((fT_ne _ _ h9_92).trans ((fT_ne _ _ h9_22).trans ((fT_ne _ _ h9_21).trans ((fT_ne _ _ h9_18).trans ((fT_ne _ _ h9_20).trans ((fT_ne _ _ h9_19).trans (fT_ne _ _ h9_17))))))).trans ((fT_ne _ _ h9_22).trans ((fT_ne _ _ h9_21).trans ((fT_ne _ _ h9_18).trans ((fT_ne _ _ h9_20).trans ((fT_ne _ _ h9_19).trans (fT_ne _ _ h9_17)))))).symm
              have hP := wr_Pi e9 hP
              have hD := wr_Di e9 hD
              clear e9
              have e9 : fT vF 62 (vF 62) = vF := fT_id _ _ (rfl)
              have hP := wr_PF e9 hP
              have hD := wr_DF e9 hD
              clear e9
              exact W.vret hx hb hr (fun t9_ ht hW => ⟨⟨(a5, f5, q5, w5, s297_1, p297_1, (vF 62), dn), rfl, by (try dsimp only); exact ⟨hLx5, by omega, by (have h9 := f97_1_1); omega, Or.inl f97_1_1, by omega⟩, by rw [ht]; exact hP, hD⟩, hS.F ht⟩) hS.2.2 dX12_readDifferent_107
            · have t_62 : ¬ ((kx54 : Nat) : Int) = -1 := toI_neq c_62 (nI_toInt (by omega)) (by decide)
              obtain ⟨oA, eoA, hoA, _, _, hoV⟩ := hNk kx54 (by omega)
              refine lv_aload_n hx hb dX12_readDifferent_65 rfl (lv_at hl 1 rfl) ?_
              refine va_get (D := (dC, dI)) (ci := 12) (v := .ref (a 10)) (C := RX12) (T := TX12) (N := 163) (fs := fM (vS a (fT (fT (fT (fT vi 17 (nI a5)) 19 (nI f5)) 20 q5) 18 w5) vj)) hx hb hts iwsRX12_readDifferent_in12 hown hK hP 0 rfl rfl 26 (by decide) (hts (.fieldLink RX12 50 "OptimaWorksModel" "nameKind" "[I") (by decide +kernel)) (fun _ h9 => h9) rfl dX12_readDifferent_66 ?_
              refine lv_iload hx hb dX12_readDifferent_69 (lv_at hl 0 rfl) ?_
              refine va_iald (cA := k 10) (n := 44) (f := (vF 10)) hx hb hK hP 11 10 (WR_get 10 (by decide)) (TR_get 10 (by decide)) (vp_in_nI (show kx54 < 44 by omega) (by omega)) dX12_readDifferent_71 ?_
              refine lv_topi (fun y5 hy5 => ?_)
              obtain rfl : ((vF 10) kx54) = y5 := (hy5.trans (by rw [nI_clamp (by omega)])).symm
              refine lv_iconst (v := 3) hx hb dX12_readDifferent_72 (by decide) ?_
              refine lv_icmp_ne (tgt := 91) hx hb dX12_readDifferent_73 (by decide) (fun c_73 => ?_) (fun c_73 => ?_)
              · have t_73 : (((vF 10) kx54)).toInt ≠ 3 := toI_ne c_73 rfl (by decide)
                refine lv_aload_n hx hb dX12_readDifferent_91 rfl (lv_at hl 1 rfl) ?_
                refine lv_iconst (v := 3) hx hb dX12_readDifferent_92 (by decide) ?_
                refine lv_aload_n hx hb dX12_readDifferent_93 rfl (lv_at hl 1 rfl) ?_
                refine va_get (D := (dC, dI)) (ci := 12) (v := .int (nI f5)) (C := RX12) (T := TX12) (N := 163) (fs := fM (vS a (fT (fT (fT (fT vi 17 (nI a5)) 19 (nI f5)) 20 q5) 18 w5) vj)) hx hb hts iwsRX12_readDifferent_in12 hown hK hP 0 rfl rfl 19 (by decide) (hts _ hm_r_X12_readDifferent_2) (fun _ h9 => h9) rfl dX12_readDifferent_94 ?_
                have hFc := allFree hD hS hA
                refine va_callv (va_runV (As := [.int 3, .int (nI f5)]) (rest := []) ⟨hx, hb, hml, hown, hts⟩ (r_X12_faultAt l dC dI a k h0 (fT (fT (fT (fT vi 17 (nI a5)) 19 (nI f5)) 20 q5) 18 w5) vj vF vG 3 (nI f5) (by first | with_reducible assumption | decide | omega | rfl | assumption) H.size) (cwV 2 hts gwsRX12_readDifferent_3 rfl rfl rfl hd_yX12_faultAt_RX12 (by decide +kernel)) (fz_pre (va_recv hK hP (ci := 12) (q0 := 0) rfl rfl) hP hK hD) rfl rfl hl.1 rfl (lv_room (Nat.le_of_ble_eq_true rfl)) dX12_readDifferent_97 (by decide +kernel)) hS (fun q _ h => hFc q h) hFc (fun u t9_ H locs ht hvm hw9 hB9 hz1 hk1 hS => ?_)
                revert u hw9 hB9
                refine fz_p2 ?_
                intro s297_2 p297_2 hw9 hB9
                try dsimp only at hw9 hB9
                have hP : va_P (dC, dI) vwCl (WR a k h0 (fT (fT (fT (fT (fT (fT vi 17 (nI a5)) 19 (nI f5)) 20 q5) 18 w5) 21 s297_2) 22 p297_2) vj vF vG) H := fz_P ht hB9.1
                have hD := fz_sd hP (hB9.2.weaken (fun _ q _ h => hFc q.1 h)) rfl
                revert hw9
                refine fz_a2 ?_
                intro f97_2_0 f97_2_1
                have f97_2_0 : (0 < (vi 21).toInt ∧ s297_2 = (vi 21) ∧ p297_2 = (vi 22)) ∨ (¬ 0 < (vi 21).toInt ∧ s297_2 = 3 ∧ p297_2 = (nI f5)) := f97_2_0
                refine lv_aload_n hx hb dX12_readDifferent_100 rfl (lv_at hl 1 rfl) ?_
                refine va_get (D := (dC, dI)) (ci := 12) (v := .int s297_2) (C := RX12) (T := TX12) (N := 163) (fs := fM (vS a (fT (fT (fT (fT (fT (fT vi 17 (nI a5)) 19 (nI f5)) 20 q5) 18 w5) 21 s297_2) 22 p297_2) vj)) hx hb hts iwsRX12_readDifferent_in12 hown hK hP 0 rfl rfl 21 (by decide) (hts _ hm_r_X12_readDifferent_1) (fun _ h9 => h9) rfl dX12_readDifferent_101 ?_
                refine lv_if_le (tgt := 108) hx hb dX12_readDifferent_104 (by decide) (fun c9 => False.elim (by have t9 : (s297_2).toInt ≤ 0 := toI_le c9 rfl (by decide); omega)) (fun c_104 => ?_)
                have t_104 : ¬ (s297_2).toInt ≤ 0 := toI_nle c_104 rfl (by decide)
                refine W.widen (k := 0) (n := 0) (by decide +kernel) (by decide +kernel) ?_
                have e9 : fT (fT (fT (fT (fT (fT (fT vi 17 (nI a5)) 19 (nI f5)) 20 q5) 18 w5) 21 s297_2) 22 p297_2) 92 (nI dn) = fT (fT (fT (fT (fT (fT vi 17 (nI a5)) 19 (nI f5)) 20 q5) 18 w5) 21 s297_2) 22 p297_2 := by funext q9; by_cases h9_17 : q9 = 17; (subst h9_17; exact ((fT_ne _ _ (Nat.ne_of_beq_eq_false rfl)).trans ((fT_ne _ _ (Nat.ne_of_beq_eq_false rfl)).trans ((fT_ne _ _ (Nat.ne_of_beq_eq_false rfl)).trans ((fT_ne _ _ (Nat.ne_of_beq_eq_false rfl)).trans ((fT_ne _ _ (Nat.ne_of_beq_eq_false rfl)).trans ((fT_ne _ _ (Nat.ne_of_beq_eq_false rfl)).trans (fT_eq _ _ _))))))).trans (Eq.trans (by first | with_reducible rfl | with_reducible assumption | (symm; with_reducible assumption) | rfl | assumption | (symm; assumption) | (subst_vars; rfl)) ((fT_ne _ _ (Nat.ne_of_beq_eq_false rfl)).trans ((fT_ne _ _ (Nat.ne_of_beq_eq_false rfl)).trans ((fT_ne _ _ (Nat.ne_of_beq_eq_false rfl)).trans ((fT_ne _ _ (Nat.ne_of_beq_eq_false rfl)).trans ((fT_ne _ _ (Nat.ne_of_beq_eq_false rfl)).trans (fT_eq _ _ _)))))).symm)); by_cases h9_19 : q9 = 19; (subst h9_19; exact ((fT_ne _ _ (Nat.ne_of_beq_eq_false rfl)).trans ((fT_ne _ _ (Nat.ne_of_beq_eq_false rfl)).trans ((fT_ne _ _ (Nat.ne_of_beq_eq_false rfl)).trans ((fT_ne _ _ (Nat.ne_of_beq_eq_false rfl)).trans ((fT_ne _ _ (Nat.ne_of_beq_eq_false rfl)).trans (fT_eq _ _ _)))))).trans (Eq.trans (by first | with_reducible rfl | with_reducible assumption | (symm; with_reducible assumption) | rfl | assumption | (symm; assumption) | (subst_vars; rfl)) ((fT_ne _ _ (Nat.ne_of_beq_eq_false rfl)).trans ((fT_ne _ _ (Nat.ne_of_beq_eq_false rfl)).trans ((fT_ne _ _ (Nat.ne_of_beq_eq_false rfl)).trans ((fT_ne _ _ (Nat.ne_of_beq_eq_false rfl)).trans (fT_eq _ _ _))))).symm)); by_cases h9_20 : q9 = 20; (subst h9_20; exact ((fT_ne _ _ (Nat.ne_of_beq_eq_false rfl)).trans ((fT_ne _ _ (Nat.ne_of_beq_eq_false rfl)).trans ((fT_ne _ _ (Nat.ne_of_beq_eq_false rfl)).trans ((fT_ne _ _ (Nat.ne_of_beq_eq_false rfl)).trans (fT_eq _ _ _))))).trans (Eq.trans (by first | with_reducible rfl | with_reducible assumption | (symm; with_reducible assumption) | rfl | assumption | (symm; assumption) | (subst_vars; rfl)) ((fT_ne _ _ (Nat.ne_of_beq_eq_false rfl)).trans ((fT_ne _ _ (Nat.ne_of_beq_eq_false rfl)).trans ((fT_ne _ _ (Nat.ne_of_beq_eq_false rfl)).trans (fT_eq _ _ _)))).symm)); by_cases h9_18 : q9 = 18; (subst h9_18; exact ((fT_ne _ _ (Nat.ne_of_beq_eq_false rfl)).trans ((fT_ne _ _ (Nat.ne_of_beq_eq_false rfl)).trans ((fT_ne _ _ (Nat.ne_of_beq_eq_false rfl)).trans (fT_eq _ _ _)))).trans (Eq.trans (by first | with_reducible rfl | with_reducible assumption | (symm; with_reducible assumption) | rfl | assumption | (symm; assumption) | (subst_vars; rfl)) ((fT_ne _ _ (Nat.ne_of_beq_eq_false rfl)).trans ((fT_ne _ _ (Nat.ne_of_beq_eq_false rfl)).trans (fT_eq _ _ _))).symm)); by_cases h9_21 : q9 = 21; (subst h9_21; exact ((fT_ne _ _ (Nat.ne_of_beq_eq_false rfl)).trans ((fT_ne _ _ (Nat.ne_of_beq_eq_false rfl)).trans (fT_eq _ _ _))).trans (Eq.trans (by first | with_reducible rfl | with_reducible assumption | (symm; with_reducible assumption) | rfl | assumption | (symm; assumption) | (subst_vars; rfl)) ((fT_ne _ _ (Nat.ne_of_beq_eq_false rfl)).trans (fT_eq _ _ _)).symm)); by_cases h9_22 : q9 = 22; (subst h9_22; exact ((fT_ne _ _ (Nat.ne_of_beq_eq_false rfl)).trans (fT_eq _ _ _)).trans (Eq.trans (by first | with_reducible rfl | with_reducible assumption | (symm; with_reducible assumption) | rfl | assumption | (symm; assumption) | (subst_vars; rfl)) (fT_eq _ _ _).symm)); by_cases h9_92 : q9 = 92; (subst h9_92; exact (fT_eq _ _ _).trans (Eq.trans (by first | with_reducible rfl | with_reducible assumption | (symm; with_reducible assumption) | rfl | assumption | (symm; assumption) | (subst_vars; rfl)) ((fT_ne _ _ (Nat.ne_of_beq_eq_false rfl)).trans ((fT_ne _ _ (Nat.ne_of_beq_eq_false rfl)).trans ((fT_ne _ _ (Nat.ne_of_beq_eq_false rfl)).trans ((fT_ne _ _ (Nat.ne_of_beq_eq_false rfl)).trans ((fT_ne _ _ (Nat.ne_of_beq_eq_false rfl)).trans (fT_ne _ _ (Nat.ne_of_beq_eq_false rfl))))))).symm)); exact ((fT_ne _ _ h9_92).trans ((fT_ne _ _ h9_22).trans ((fT_ne _ _ h9_21).trans ((fT_ne _ _ h9_18).trans ((fT_ne _ _ h9_20).trans ((fT_ne _ _ h9_19).trans (fT_ne _ _ h9_17))))))).trans ((fT_ne _ _ h9_22).trans ((fT_ne _ _ h9_21).trans ((fT_ne _ _ h9_18).trans ((fT_ne _ _ h9_20).trans ((fT_ne _ _ h9_19).trans (fT_ne _ _ h9_17)))))).symm
                have hP := wr_Pi e9 hP
                have hD := wr_Di e9 hD
                clear e9
                have e9 : fT vF 62 (vF 62) = vF := fT_id _ _ (rfl)
                have hP := wr_PF e9 hP
                have hD := wr_DF e9 hD
                clear e9
                exact W.vret hx hb hr (fun t9_ ht hW => ⟨⟨(a5, f5, q5, w5, s297_2, p297_2, (vF 62), dn), rfl, by (try dsimp only); exact ⟨hLx5, by omega, by (have h9 := f97_2_1); omega, Or.inl f97_2_1, by omega⟩, by rw [ht]; exact hP, hD⟩, hS.F ht⟩) hS.2.2 dX12_readDifferent_107
              · have t_73 : (((vF 10) kx54)).toInt = 3 := toI_nne c_73 rfl (by decide)
                refine lv_aload_n hx hb dX12_readDifferent_76 rfl (lv_at hl 1 rfl) ?_
                refine va_get (D := (dC, dI)) (ci := 12) (v := .ref (a 28)) (C := RX12) (T := TX12) (N := 163) (fs := fM (vS a (fT (fT (fT (fT vi 17 (nI a5)) 19 (nI f5)) 20 q5) 18 w5) vj)) hx hb hts iwsRX12_readDifferent_in12 hown hK hP 0 rfl rfl 51 (by decide) (hts (.fieldLink RX12 107 "OptimaWorksModel" "varWhole" "[I") (by decide +kernel)) (fun _ h9 => h9) rfl dX12_readDifferent_77 ?_
                refine lv_aload_n hx hb dX12_readDifferent_80 rfl (lv_at hl 1 rfl) ?_
                refine va_get (D := (dC, dI)) (ci := 12) (v := .ref (a 13)) (C := RX12) (T := TX12) (N := 163) (fs := fM (vS a (fT (fT (fT (fT vi 17 (nI a5)) 19 (nI f5)) 20 q5) 18 w5) vj)) hx hb hts iwsRX12_readDifferent_in12 hown hK hP 0 rfl rfl 29 (by decide) (hts _ hm_r_X12_readDifferent_3) (fun _ h9 => h9) rfl dX12_readDifferent_81 ?_
                refine lv_iload hx hb dX12_readDifferent_84 (lv_at hl 0 rfl) ?_
                refine va_iald (cA := k 13) (n := 44) (f := (vF 13)) hx hb hK hP 14 13 (WR_get 13 (by decide)) (TR_get 13 (by decide)) (vp_in_nI (show kx54 < 44 by omega) (by omega)) dX12_readDifferent_86 ?_
                refine lv_topi (fun y6 hy6 => ?_)
                obtain rfl : ((vF 13) kx54) = y6 := (hy6.trans (by rw [nI_clamp (by omega)])).symm
                refine lv_topi (fun y7 hy7 => ?_)
                obtain rfl : (nI oA) = y7 := (hy7.trans (eoA)).symm
                refine va_iald (cA := k 28) (n := 44) (f := (vF 28)) hx hb hK hP 29 28 (WR_get 28 (by decide)) (TR_get 28 (by decide)) (vp_in_nI (show oA < 44 by omega) (by omega)) dX12_readDifferent_87 ?_
                refine lv_topi (fun y8 hy8 => ?_)
                obtain rfl : ((vF 28) oA) = y8 := (hy8.trans (by rw [nI_clamp (by omega)])).symm
                refine lv_if_ne (tgt := 100) hx hb dX12_readDifferent_88 (by decide) (fun c_88 => ?_) (fun c_88 => ?_)
                · have t_88 : (((vF 28) oA)).toInt ≠ 0 := toI_ne c_88 rfl (by decide)
                  refine lv_aload_n hx hb dX12_readDifferent_100 rfl (lv_at hl 1 rfl) ?_
                  refine va_get (D := (dC, dI)) (ci := 12) (v := .int (vi 21)) (C := RX12) (T := TX12) (N := 163) (fs := fM (vS a (fT (fT (fT (fT vi 17 (nI a5)) 19 (nI f5)) 20 q5) 18 w5) vj)) hx hb hts iwsRX12_readDifferent_in12 hown hK hP 0 rfl rfl 21 (by decide) (hts _ hm_r_X12_readDifferent_1) (fun _ h9 => h9) rfl dX12_readDifferent_101 ?_
                  refine lv_if_le (tgt := 108) hx hb dX12_readDifferent_104 (by decide) (fun c_104 => ?_) (fun c9 => False.elim (by have t9 : ¬ ((vi 21)).toInt ≤ 0 := toI_nle c9 rfl (by decide); omega))
                  have t_104 : ((vi 21)).toInt ≤ 0 := toI_le c_104 rfl (by decide)
                  obtain ⟨pl, o1, o2, aT, hSm⟩ := hDc.2 oA (hoV c_73)
                  have hpl2 := hSm.2.2.2.1
                  have haT := hSm.2.2.1
                  have hPk := hSm.2.2.2.2.1
                  refine lv_aload_n hx hb dX12_readDifferent_108 rfl (lv_at hl 1 rfl) ?_
                  refine va_get (D := (dC, dI)) (ci := 12) (v := .ref (a 13)) (C := RX12) (T := TX12) (N := 163) (fs := fM (vS a (fT (fT (fT (fT vi 17 (nI a5)) 19 (nI f5)) 20 q5) 18 w5) vj)) hx hb hts iwsRX12_readDifferent_in12 hown hK hP 0 rfl rfl 29 (by decide) (hts _ hm_r_X12_readDifferent_3) (fun _ h9 => h9) rfl dX12_readDifferent_109 ?_
                  refine lv_iload hx hb dX12_readDifferent_112 (lv_at hl 0 rfl) ?_
                  refine va_iald (cA := k 13) (n := 44) (f := (vF 13)) hx hb hK hP 14 13 (WR_get 13 (by decide)) (TR_get 13 (by decide)) (vp_in_nI (show kx54 < 44 by omega) (by omega)) dX12_readDifferent_114 ?_
                  refine lv_topi (fun y9 hy9 => ?_)
                  obtain rfl : ((vF 13) kx54) = y9 := (hy9.trans (by rw [nI_clamp (by omega)])).symm
                  refine lv_topi (fun y10 hy10 => ?_)
                  obtain rfl : (nI oA) = y10 := (hy10.trans (eoA)).symm
                  refine lv_istore hx hb dX12_readDifferent_115 hl (by decide) rfl (fun ls (hl : lv_has ls _ ([(5, .int (nI oA)), (4, .int (nI kx54)), (0, .ref h0), (1, .int bt), (2, .int (nI n5)), (3, .int mz)])) => ?_)
                  refine lv_aload_n hx hb dX12_readDifferent_117 rfl (lv_at hl 2 rfl) ?_
                  refine va_get (D := (dC, dI)) (ci := 12) (v := .ref (a 24)) (C := RX12) (T := TX12) (N := 163) (fs := fM (vS a (fT (fT (fT (fT vi 17 (nI a5)) 19 (nI f5)) 20 q5) 18 w5) vj)) hx hb hts iwsRX12_readDifferent_in12 hown hK hP 0 rfl rfl 47 (by decide) (hts _ hm_r_X12_readDifferent_4) (fun _ h9 => h9) rfl dX12_readDifferent_118 ?_
                  refine lv_iload hx hb dX12_readDifferent_121 (lv_at hl 0 rfl) ?_
                  refine va_iald (cA := k 24) (n := 44) (f := (vF 24)) hx hb hK hP 25 24 (WR_get 24 (by decide)) (TR_get 24 (by decide)) (vp_in_nI (show oA < 44 by omega) (by omega)) dX12_readDifferent_123 ?_
                  refine lv_topi (fun y11 hy11 => ?_)
                  obtain rfl : ((vF 24) oA) = y11 := (hy11.trans (by rw [nI_clamp (by omega)])).symm
                  refine lv_topi (fun y12 hy12 => ?_)
                  obtain rfl : (nI pl) = y12 := (hy12.trans (hSm.1.2 rfl)).symm
                  refine W.cut (pc := 182) (fun H locs ls stk => ∃ (mm : Nat), (mm ≤ 144) ∧  stk = [.int (nI mm)] ∧ va_P (dC, dI) vwCl (WR a k h0 (fT (fT (fT (fT vi 17 (nI a5)) 19 (nI f5)) 20 q5) 18 w5) vj vF vG) H ∧ va_D A (WR a k h0 (fT (fT (fT (fT vi 17 (nI a5)) 19 (nI f5)) 20 q5) 18 w5) vj vF vG) ∧ va_S A s.heap H locs ∧ lv_has ls 8 [(0, .ref h0), (1, .int bt), (2, .int (nI n5)), (5, .int (nI oA))]) (fun join1 => ?_) ?_
                  · refine lv_if_ne (tgt := 131) hx hb dX12_readDifferent_124 (by decide) (fun c_124 => ?_) (fun c_124 => ?_)
                    · have t_124 : ((pl : Nat) : Int) ≠ 0 := toI_ne c_124 (nI_toInt (by omega)) (by decide)
                      obtain ⟨⟨m1, hm1a, hm1b, em1⟩, _⟩ := hSe o1 (hPk.1 (by omega))
                      refine lv_aload_n hx hb dX12_readDifferent_131 rfl (lv_at hl 2 rfl) ?_
                      refine va_get (D := (dC, dI)) (ci := 12) (v := .ref (a 24)) (C := RX12) (T := TX12) (N := 163) (fs := fM (vS a (fT (fT (fT (fT vi 17 (nI a5)) 19 (nI f5)) 20 q5) 18 w5) vj)) hx hb hts iwsRX12_readDifferent_in12 hown hK hP 0 rfl rfl 47 (by decide) (hts _ hm_r_X12_readDifferent_4) (fun _ h9 => h9) rfl dX12_readDifferent_132 ?_
                      refine lv_iload hx hb dX12_readDifferent_135 (lv_at hl 0 rfl) ?_
                      refine va_iald (cA := k 24) (n := 44) (f := (vF 24)) hx hb hK hP 25 24 (WR_get 24 (by decide)) (TR_get 24 (by decide)) (vp_in_nI (show oA < 44 by omega) (by omega)) dX12_readDifferent_137 ?_
                      refine lv_topi (fun y13 hy13 => ?_)
                      obtain rfl : ((vF 24) oA) = y13 := (hy13.trans (by rw [nI_clamp (by omega)])).symm
                      refine lv_topi (fun y14 hy14 => ?_)
                      obtain rfl : (nI pl) = y14 := (hy14.trans (hSm.1.2 rfl)).symm
                      refine lv_iconst (v := 1) hx hb dX12_readDifferent_138 (by decide) ?_
                      refine lv_icmp_ne (tgt := 157) hx hb dX12_readDifferent_139 (by decide) (fun c_139 => ?_) (fun c_139 => ?_)
                      · have t_139 : ((pl : Nat) : Int) ≠ 1 := toI_ne c_139 (nI_toInt (by omega)) (by decide)
                        obtain ⟨⟨m2, hm2a, hm2b, em2⟩, _⟩ := hSe o2 (hPk.2 (by omega))
                        refine lv_aload_n hx hb dX12_readDifferent_157 rfl (lv_at hl 2 rfl) ?_
                        refine va_get (D := (dC, dI)) (ci := 12) (v := .ref (a 17)) (C := RX12) (T := TX12) (N := 163) (fs := fM (vS a (fT (fT (fT (fT vi 17 (nI a5)) 19 (nI f5)) 20 q5) 18 w5) vj)) hx hb hts iwsRX12_readDifferent_in12 hown hK hP 0 rfl rfl 40 (by decide) (hts _ hm_r_X12_readDifferent_5) (fun _ h9 => h9) rfl dX12_readDifferent_158 ?_
                        refine lv_aload_n hx hb dX12_readDifferent_161 rfl (lv_at hl 2 rfl) ?_
                        refine va_get (D := (dC, dI)) (ci := 12) (v := .ref (a 25)) (C := RX12) (T := TX12) (N := 163) (fs := fM (vS a (fT (fT (fT (fT vi 17 (nI a5)) 19 (nI f5)) 20 q5) 18 w5) vj)) hx hb hts iwsRX12_readDifferent_in12 hown hK hP 0 rfl rfl 48 (by decide) (hts _ hm_r_X12_readDifferent_6) (fun _ h9 => h9) rfl dX12_readDifferent_162 ?_
                        refine lv_iload hx hb dX12_readDifferent_165 (lv_at hl 0 rfl) ?_
                        refine va_iald (cA := k 25) (n := 44) (f := (vF 25)) hx hb hK hP 26 25 (WR_get 25 (by decide)) (TR_get 25 (by decide)) (vp_in_nI (show oA < 44 by omega) (by omega)) dX12_readDifferent_167 ?_
                        refine lv_topi (fun y15 hy15 => ?_)
                        obtain rfl : ((vF 25) oA) = y15 := (hy15.trans (by rw [nI_clamp (by omega)])).symm
                        refine lv_topi (fun y16 hy16 => ?_)
                        obtain rfl : (nI o1) = y16 := (hy16.trans (hSm.2.1.2.2.2.1 rfl)).symm
                        refine va_iald (cA := k 17) (n := 44) (f := (vF 17)) hx hb hK hP 18 17 (WR_get 17 (by decide)) (TR_get 17 (by decide)) (vp_in_nI (show o1 < 44 by omega) (by omega)) dX12_readDifferent_168 ?_
                        refine lv_topi (fun y17 hy17 => ?_)
                        obtain rfl : ((vF 17) o1) = y17 := (hy17.trans (by rw [nI_clamp (by omega)])).symm
                        refine lv_topi (fun y18 hy18 => ?_)
                        obtain rfl : (nI m1) = y18 := (hy18.trans (em1)).symm
                        refine lv_aload_n hx hb dX12_readDifferent_169 rfl (lv_at hl 2 rfl) ?_
                        refine va_get (D := (dC, dI)) (ci := 12) (v := .ref (a 17)) (C := RX12) (T := TX12) (N := 163) (fs := fM (vS a (fT (fT (fT (fT vi 17 (nI a5)) 19 (nI f5)) 20 q5) 18 w5) vj)) hx hb hts iwsRX12_readDifferent_in12 hown hK hP 0 rfl rfl 40 (by decide) (hts _ hm_r_X12_readDifferent_5) (fun _ h9 => h9) rfl dX12_readDifferent_170 ?_
                        refine lv_aload_n hx hb dX12_readDifferent_173 rfl (lv_at hl 2 rfl) ?_
                        refine va_get (D := (dC, dI)) (ci := 12) (v := .ref (a 26)) (C := RX12) (T := TX12) (N := 163) (fs := fM (vS a (fT (fT (fT (fT vi 17 (nI a5)) 19 (nI f5)) 20 q5) 18 w5) vj)) hx hb hts iwsRX12_readDifferent_in12 hown hK hP 0 rfl rfl 49 (by decide) (hts (.fieldLink RX12 101 "OptimaWorksModel" "varTwo" "[I") (by decide +kernel)) (fun _ h9 => h9) rfl dX12_readDifferent_174 ?_
                        refine lv_iload hx hb dX12_readDifferent_177 (lv_at hl 0 rfl) ?_
                        refine va_iald (cA := k 26) (n := 44) (f := (vF 26)) hx hb hK hP 27 26 (WR_get 26 (by decide)) (TR_get 26 (by decide)) (vp_in_nI (show oA < 44 by omega) (by omega)) dX12_readDifferent_179 ?_
                        refine lv_topi (fun y19 hy19 => ?_)
                        obtain rfl : ((vF 26) oA) = y19 := (hy19.trans (by rw [nI_clamp (by omega)])).symm
                        refine lv_topi (fun y20 hy20 => ?_)
                        obtain rfl : (nI o2) = y20 := (hy20.trans (hSm.2.1.2.2.2.2.1 rfl)).symm
                        refine va_iald (cA := k 17) (n := 44) (f := (vF 17)) hx hb hK hP 18 17 (WR_get 17 (by decide)) (TR_get 17 (by decide)) (vp_in_nI (show o2 < 44 by omega) (by omega)) dX12_readDifferent_180 ?_
                        refine lv_topi (fun y21 hy21 => ?_)
                        obtain rfl : ((vF 17) o2) = y21 := (hy21.trans (by rw [nI_clamp (by omega)])).symm
                        refine lv_topi (fun y22 hy22 => ?_)
                        obtain rfl : (nI m2) = y22 := (hy22.trans (em2)).symm
                        refine lv_imul hx hb dX12_readDifferent_181 ?_
                        refine lv_topi (fun y23 hy23 => ?_)
                        obtain rfl : (nI (m1 * m2)) = y23 := (hy23.trans (pk_mul m1 m2)).symm
                        have hl : lv_has _ _ ([(0, .ref h0), (1, .int bt), (2, .int (nI n5)), (5, .int (nI oA))]) := lv_sub hl [2, 3, 4, 0] rfl
                        exact join1 _ _ _ _ ⟨(m1 * m2), (by (have h9 : m1 * m2 ≤ 12 * 12 := Nat.mul_le_mul hm1b hm2b); omega), rfl, hP, hD, hS, hl⟩
                      · have t_139 : ((pl : Nat) : Int) = 1 := toI_nne c_139 (nI_toInt (by omega)) (by decide)
                        refine lv_aload_n hx hb dX12_readDifferent_142 rfl (lv_at hl 2 rfl) ?_
                        refine va_get (D := (dC, dI)) (ci := 12) (v := .ref (a 17)) (C := RX12) (T := TX12) (N := 163) (fs := fM (vS a (fT (fT (fT (fT vi 17 (nI a5)) 19 (nI f5)) 20 q5) 18 w5) vj)) hx hb hts iwsRX12_readDifferent_in12 hown hK hP 0 rfl rfl 40 (by decide) (hts _ hm_r_X12_readDifferent_5) (fun _ h9 => h9) rfl dX12_readDifferent_143 ?_
                        refine lv_aload_n hx hb dX12_readDifferent_146 rfl (lv_at hl 2 rfl) ?_
                        refine va_get (D := (dC, dI)) (ci := 12) (v := .ref (a 25)) (C := RX12) (T := TX12) (N := 163) (fs := fM (vS a (fT (fT (fT (fT vi 17 (nI a5)) 19 (nI f5)) 20 q5) 18 w5) vj)) hx hb hts iwsRX12_readDifferent_in12 hown hK hP 0 rfl rfl 48 (by decide) (hts _ hm_r_X12_readDifferent_6) (fun _ h9 => h9) rfl dX12_readDifferent_147 ?_
                        refine lv_iload hx hb dX12_readDifferent_150 (lv_at hl 0 rfl) ?_
                        refine va_iald (cA := k 25) (n := 44) (f := (vF 25)) hx hb hK hP 26 25 (WR_get 25 (by decide)) (TR_get 25 (by decide)) (vp_in_nI (show oA < 44 by omega) (by omega)) dX12_readDifferent_152 ?_
                        refine lv_topi (fun y24 hy24 => ?_)
                        obtain rfl : ((vF 25) oA) = y24 := (hy24.trans (by rw [nI_clamp (by omega)])).symm
                        refine lv_topi (fun y25 hy25 => ?_)
                        obtain rfl : (nI o1) = y25 := (hy25.trans (hSm.2.1.2.2.2.1 rfl)).symm
                        refine va_iald (cA := k 17) (n := 44) (f := (vF 17)) hx hb hK hP 18 17 (WR_get 17 (by decide)) (TR_get 17 (by decide)) (vp_in_nI (show o1 < 44 by omega) (by omega)) dX12_readDifferent_153 ?_
                        refine lv_topi (fun y26 hy26 => ?_)
                        obtain rfl : ((vF 17) o1) = y26 := (hy26.trans (by rw [nI_clamp (by omega)])).symm
                        refine lv_topi (fun y27 hy27 => ?_)
                        obtain rfl : (nI m1) = y27 := (hy27.trans (em1)).symm
                        refine lv_goto (tgt := 182) hx hb dX12_readDifferent_154 (by decide) ?_
                        have hl : lv_has _ _ ([(0, .ref h0), (1, .int bt), (2, .int (nI n5)), (5, .int (nI oA))]) := lv_sub hl [2, 3, 4, 0] rfl
                        exact join1 _ _ _ _ ⟨m1, by omega, rfl, hP, hD, hS, hl⟩
                    · have t_124 : ((pl : Nat) : Int) = 0 := toI_nne c_124 (nI_toInt (by omega)) (by decide)
                      refine lv_iconst (v := 1) hx hb dX12_readDifferent_127 (by decide) ?_
                      refine lv_goto (tgt := 182) hx hb dX12_readDifferent_128 (by decide) ?_
                      have hl : lv_has _ _ ([(0, .ref h0), (1, .int bt), (2, .int (nI n5)), (5, .int (nI oA))]) := lv_sub hl [2, 3, 4, 0] rfl
                      exact join1 _ _ _ _ ⟨1, by decide, rfl, hP, hD, hS, hl⟩
                  · rintro H locs ls stk ⟨mm, hmm, rfl, hP, hD, hS, hl⟩
                    refine lv_istore hx hb dX12_readDifferent_182 hl (by decide) rfl (fun ls (hl : lv_has ls _ ([(6, .int (nI mm)), (0, .ref h0), (1, .int bt), (2, .int (nI n5)), (5, .int (nI oA))])) => ?_)
                    refine lv_iconst (v := 0) hx hb dX12_readDifferent_184 (by decide) ?_
                    refine lv_istore hx hb dX12_readDifferent_185 hl (by decide) rfl (fun ls (hl : lv_has ls _ ([(7, .int 0), (6, .int (nI mm)), (0, .ref h0), (1, .int bt), (2, .int (nI n5)), (5, .int (nI oA))])) => ?_)
                    have hl : lv_has _ _ ([(0, .ref h0), (1, .int bt), (2, .int (nI n5)), (5, .int (nI oA)), (6, .int (nI mm)), (7, .int (nI 0))]) := lv_sub hl [2, 3, 4, 5, 1, 0] rfl
                    refine (fun (loop : ∀ (n9 : Nat) (bq : Int32) (k7 : Nat) (H : Heap) (locs : List Loc) (ls : Array Slot), (k7 ≤ mm) →  (mm < k7 + n9) → va_P (dC, dI) vwCl (WR a k h0 (fT (fT (fT (fT vi 17 (nI a5)) 19 (nI f5)) 20 q5) 18 w5) vj vF vG) H → va_D A (WR a k h0 (fT (fT (fT (fT vi 17 (nI a5)) 19 (nI f5)) 20 q5) 18 w5) vj vF vG) → va_S A s.heap H locs → lv_has ls 8 [(0, .ref h0), (1, .int bq), (2, .int (nI n5)), (5, .int (nI oA)), (6, .int (nI mm)), (7, .int (nI k7))] → W p l e _ s m _ below meth c H locs 0 0 _ (F0 m 187 ls [])) => loop (mm + 1) bt 0 _ _ _ (by omega) (by omega) hP hD hS hl) ?_
                    intro n9
                    induction n9 with
                    | zero => intro bq k7 H locs ls hk7 hf9; exact False.elim (by omega)
                    | succ n9 ih187_1 =>
                      intro bq k7 H locs ls hk7 hf187_1 hP hD hS hl
                      refine lv_iload hx hb dX12_readDifferent_187 (lv_at hl 5 rfl) ?_
                      refine lv_iload hx hb dX12_readDifferent_189 (lv_at hl 4 rfl) ?_
                      refine lv_icmp_ge (tgt := 215) hx hb dX12_readDifferent_191 (by decide) (fun c_191 => ?_) (fun c_191 => ?_)
                      · have t_191 : ((k7 : Nat) : Int) ≥ ((mm : Nat) : Int) := toI_ge c_191 (nI_toInt (by omega)) (nI_toInt (by omega))
                        refine lv_aload_n hx hb dX12_readDifferent_215 rfl (lv_at hl 0 rfl) ?_
                        have hFc := allFree hD hS hA
                        refine va_callv (va_runV (As := []) (rest := []) ⟨hx, hb, hml, hown, hts⟩ (r_X12_next l dC dI a k h0 (fT (fT (fT (fT vi 17 (nI a5)) 19 (nI f5)) 20 q5) 18 w5) vj vF vG tp a5 hTp (by first | with_reducible assumption | decide | omega | rfl | assumption) rfl (by first | with_reducible assumption | decide | omega | rfl | assumption) H.size) (cwV 0 hts gwsRX12_readDifferent_0 rfl rfl rfl hd_yX12_next_RX12 (by decide +kernel)) (fz_preE (va_recv hK hP (ci := 12) (q0 := 0) rfl rfl) hP hK hD (fun a U g mk qE => qE.same rfl) (fun U hU9 hW => by rw [hU9]; exact (((hE : StrA A s s.heap).kept hS.2.1).narrow (fun q h => hFc q h)).warm hW)) rfl rfl hl.1 rfl (lv_room (Nat.le_of_ble_eq_true rfl)) dX12_readDifferent_216 (by decide +kernel)) hS (fun q _ h => hFc q h) hFc (fun u t9_ H locs ht hvm hw9 hB9 hz1 hk1 hS => ?_)
                        revert u hw9 hB9
                        refine fz_p4 ?_
                        intro a2216 f2216 sg216 wd216 hw9 hB9
                        try dsimp only at hw9 hB9
                        have e9i : fT (fT (fT (fT vi 17 (nI a2216)) 19 (nI f2216)) 20 sg216) 18 wd216 = fT (fT (fT (fT (fT (fT (fT (fT vi 17 (nI a5)) 19 (nI f5)) 20 q5) 18 w5) 17 (nI a2216)) 19 (nI f2216)) 20 sg216) 18 wd216 := ((congrArg (fun g9 => fT (fT (fT g9 19 (nI f2216)) 20 sg216) 18 wd216) ((fT_sw _ _ _ (Nat.ne_of_beq_eq_false rfl)).trans (congrArg (fun g9 => fT g9 18 w5) ((fT_sw _ _ _ (Nat.ne_of_beq_eq_false rfl)).trans (congrArg (fun g9 => fT g9 20 q5) ((fT_sw _ _ _ (Nat.ne_of_beq_eq_false rfl)).trans (congrArg (fun g9 => fT g9 19 (nI f5)) (fT_sm _ _ _ _)))))))).trans ((congrArg (fun g9 => fT (fT g9 20 sg216) 18 wd216) ((fT_sw _ _ _ (Nat.ne_of_beq_eq_false rfl)).trans (congrArg (fun g9 => fT g9 18 w5) ((fT_sw _ _ _ (Nat.ne_of_beq_eq_false rfl)).trans (congrArg (fun g9 => fT g9 20 q5) (fT_sm _ _ _ _)))))).trans ((congrArg (fun g9 => fT g9 18 wd216) ((fT_sw _ _ _ (Nat.ne_of_beq_eq_false rfl)).trans (congrArg (fun g9 => fT g9 18 w5) (fT_sm _ _ _ _)))).trans (fT_sm _ _ _ _)))).symm
                        have hP := wr_Pi e9i (fz_P ht hB9.1)
                        have hD := wr_Di e9i (hB9.2.weaken (fun _ q _ h => hFc q.1 h))
                        clear e9i
                        revert hw9
                        refine fz_a2 ?_
                        intro f216_0 f216_1
                        have hl3 := f216_0.1
                        have hl4 := f216_0.2.1
                        refine lv_iinc (v := (nI (n5 + 1))) hx hb dX12_readDifferent_219 hl (k := 2) rfl (nI_add n5 1) (by decide) rfl (fun ls (hl : lv_has ls _ ([(2, .int (nI (n5 + 1))), (0, .ref h0), (1, .int bq), (5, .int (nI oA)), (6, .int (nI mm)), (7, .int (nI k7))])) => ?_)
                        refine lv_iload_n hx hb dX12_readDifferent_222 rfl (lv_at hl 0 rfl) ?_
                        refine lv_bipush (v := 8) hx hb dX12_readDifferent_223 (by decide) ?_
                        refine W.cut (pc := 242) (fun H locs ls stk => ∃ (m7 : Int32), (m7 = 0 ∨ n5 + 1 < 8) ∧  stk = [.int m7] ∧ va_P (dC, dI) vwCl (WR a k h0 (fT (fT (fT (fT vi 17 (nI a2216)) 19 (nI f2216)) 20 sg216) 18 wd216) vj vF vG) H ∧ va_D A (WR a k h0 (fT (fT (fT (fT vi 17 (nI a2216)) 19 (nI f2216)) 20 sg216) 18 wd216) vj vF vG) ∧ va_S A s.heap H locs ∧ lv_has ls 8 [(0, .ref h0), (1, .int bq), (2, .int (nI (n5 + 1)))]) (fun join2 => ?_) ?_
                        · refine lv_icmp_ge (tgt := 241) hx hb dX12_readDifferent_225 (by decide) (fun c_225 => ?_) (fun c_225 => ?_)
                          · have t_225 : (((n5 + 1) : Nat) : Int) ≥ 8 := toI_ge c_225 (nI_toInt (by omega)) (by decide)
                            refine lv_iconst (v := 0) hx hb dX12_readDifferent_241 (by decide) ?_
                            have hl : lv_has _ _ ([(0, .ref h0), (1, .int bq), (2, .int (nI (n5 + 1)))]) := lv_sub hl [1, 2, 0] rfl
                            exact join2 _ _ _ _ ⟨0, Or.inl rfl, rfl, hP, hD, hS, hl⟩
                          · have t_225 : ¬ (((n5 + 1) : Nat) : Int) ≥ 8 := toI_nge c_225 (nI_toInt (by omega)) (by decide)
                            refine lv_aload_n hx hb dX12_readDifferent_228 rfl (lv_at hl 1 rfl) ?_
                            refine lv_bipush (v := 44) hx hb dX12_readDifferent_229 (by decide) ?_
                            have hFc := allFree hD hS hA
                            refine va_calli (va_runV (As := [.int 44]) (rest := []) ⟨hx, hb, hml, hown, hts⟩ (r_X12_isSign l dC dI a k h0 (fT (fT (fT (fT vi 17 (nI a2216)) 19 (nI f2216)) 20 sg216) 18 wd216) vj vF vG 44 H.size) (cwV 1 hts gwsRX12_readDifferent_4 rfl rfl rfl hd_yX12_isSign_RX12 (by decide +kernel)) (fz_pre (va_recv hK hP (ci := 12) (q0 := 0) rfl rfl) hP hK hD) rfl rfl hl.1 rfl (lv_room (Nat.le_of_ble_eq_true rfl)) dX12_readDifferent_231 (by decide +kernel)) hS (fun q _ h => hFc q h) hFc (fun r231 u t9_ H locs ht hvm hw9 hB9 hz1 hk1 hS => ?_)
                            have hP : va_P (dC, dI) vwCl (WR a k h0 (fT (fT (fT (fT vi 17 (nI a2216)) 19 (nI f2216)) 20 sg216) 18 wd216) vj vF vG) H := fz_P ht hB9.1
                            have hD := fz_sd hP (hB9.2.weaken (fun _ q _ h => hFc q.1 h)) rfl
                            rcases hw9 with ⟨rfl, f231_0, f231_1⟩ | ⟨rfl, f231_0⟩
                            · have f231_0 : wd216.toInt = 4 := f231_0
                              have f231_1 : sg216 = 44 := f231_1
                              refine lv_if_eq (tgt := 241) hx hb dX12_readDifferent_234 (by decide) (fun c9 => absurd c9 (by decide)) (fun _ => ?_)
                              refine lv_iconst (v := 1) hx hb dX12_readDifferent_237 (by decide) ?_
                              refine lv_goto (tgt := 242) hx hb dX12_readDifferent_238 (by decide) ?_
                              have hl : lv_has _ _ ([(0, .ref h0), (1, .int bq), (2, .int (nI (n5 + 1)))]) := lv_sub hl [1, 2, 0] rfl
                              exact join2 _ _ _ _ ⟨1, Or.inr (by omega), rfl, hP, hD, hS, hl⟩
                            · have f231_0 : ¬ (wd216.toInt = 4 ∧ sg216 = 44) := f231_0
                              refine lv_if_eq (tgt := 241) hx hb dX12_readDifferent_234 (by decide) (fun _ => ?_) (fun c9 => absurd (by decide) c9)
                              refine lv_iconst (v := 0) hx hb dX12_readDifferent_241 (by decide) ?_
                              have hl : lv_has _ _ ([(0, .ref h0), (1, .int bq), (2, .int (nI (n5 + 1)))]) := lv_sub hl [1, 2, 0] rfl
                              exact join2 _ _ _ _ ⟨0, Or.inl rfl, rfl, hP, hD, hS, hl⟩
                        · rintro H locs ls stk ⟨m7, hm7, rfl, hP, hD, hS, hl⟩
                          refine lv_istore_n hx hb dX12_readDifferent_242 rfl hl (by decide) rfl (fun ls (hl : lv_has ls _ ([(3, .int m7), (0, .ref h0), (1, .int bq), (2, .int (nI (n5 + 1)))])) => ?_)
                          refine lv_iload_n hx hb dX12_readDifferent_243 rfl (lv_at hl 0 rfl) ?_
                          refine W.cut (pc := 251) (fun H locs ls stk => ∃ (a6 : Nat) (f6 : Nat) (w6 : Int32) (q6 : Int32), (LxO tp f6 a6 w6 q6) ∧ (f2216 ≤ f6) ∧  stk = [] ∧ va_P (dC, dI) vwCl (WR a k h0 (fT (fT (fT (fT vi 17 (nI a6)) 19 (nI f6)) 20 q6) 18 w6) vj vF vG) H ∧ va_D A (WR a k h0 (fT (fT (fT (fT vi 17 (nI a6)) 19 (nI f6)) 20 q6) 18 w6) vj vF vG) ∧ va_S A s.heap H locs ∧ lv_has ls 8 [(0, .ref h0), (1, .int bq), (2, .int (nI (n5 + 1))), (3, .int m7)]) (fun join3 => ?_) ?_
                          · refine lv_if_eq (tgt := 251) hx hb dX12_readDifferent_244 (by decide) (fun c_244 => ?_) (fun c_244 => ?_)
                            · have t_244 : (m7).toInt = 0 := toI_eq c_244 rfl (by decide)
                              have hl : lv_has _ _ ([(0, .ref h0), (1, .int bq), (2, .int (nI (n5 + 1))), (3, .int m7)]) := lv_sub hl [1, 2, 3, 0] rfl
                              exact join3 _ _ _ _ ⟨a2216, f2216, wd216, sg216, f216_0, Nat.le_refl _, rfl, hP, hD, hS, hl⟩
                            · have t_244 : ¬ (m7).toInt = 0 := toI_neq c_244 rfl (by decide)
                              refine lv_aload_n hx hb dX12_readDifferent_247 rfl (lv_at hl 1 rfl) ?_
                              have hFc := allFree hD hS hA
                              refine va_callv (va_runV (As := []) (rest := []) ⟨hx, hb, hml, hown, hts⟩ (r_X12_next l dC dI a k h0 (fT (fT (fT (fT vi 17 (nI a2216)) 19 (nI f2216)) 20 sg216) 18 wd216) vj vF vG tp a2216 hTp (by first | with_reducible assumption | decide | omega | rfl | assumption) rfl (by first | with_reducible assumption | decide | omega | rfl | assumption) H.size) (cwV 0 hts gwsRX12_readDifferent_0 rfl rfl rfl hd_yX12_next_RX12 (by decide +kernel)) (fz_preE (va_recv hK hP (ci := 12) (q0 := 0) rfl rfl) hP hK hD (fun a U g mk qE => qE.same rfl) (fun U hU9 hW => by rw [hU9]; exact (((hE : StrA A s s.heap).kept hS.2.1).narrow (fun q h => hFc q h)).warm hW)) rfl rfl hl.1 rfl (lv_room (Nat.le_of_ble_eq_true rfl)) dX12_readDifferent_248 (by decide +kernel)) hS (fun q _ h => hFc q h) hFc (fun u t9_ H locs ht hvm hw9 hB9 hz1 hk1 hS => ?_)
                              revert u hw9 hB9
                              refine fz_p4 ?_
                              intro a2248 f2248 sg248 wd248 hw9 hB9
                              try dsimp only at hw9 hB9
                              have e9i : fT (fT (fT (fT vi 17 (nI a2248)) 19 (nI f2248)) 20 sg248) 18 wd248 = fT (fT (fT (fT (fT (fT (fT (fT vi 17 (nI a2216)) 19 (nI f2216)) 20 sg216) 18 wd216) 17 (nI a2248)) 19 (nI f2248)) 20 sg248) 18 wd248 := ((congrArg (fun g9 => fT (fT (fT g9 19 (nI f2248)) 20 sg248) 18 wd248) ((fT_sw _ _ _ (Nat.ne_of_beq_eq_false rfl)).trans (congrArg (fun g9 => fT g9 18 wd216) ((fT_sw _ _ _ (Nat.ne_of_beq_eq_false rfl)).trans (congrArg (fun g9 => fT g9 20 sg216) ((fT_sw _ _ _ (Nat.ne_of_beq_eq_false rfl)).trans (congrArg (fun g9 => fT g9 19 (nI f2216)) (fT_sm _ _ _ _)))))))).trans ((congrArg (fun g9 => fT (fT g9 20 sg248) 18 wd248) ((fT_sw _ _ _ (Nat.ne_of_beq_eq_false rfl)).trans (congrArg (fun g9 => fT g9 18 wd216) ((fT_sw _ _ _ (Nat.ne_of_beq_eq_false rfl)).trans (congrArg (fun g9 => fT g9 20 sg216) (fT_sm _ _ _ _)))))).trans ((congrArg (fun g9 => fT g9 18 wd248) ((fT_sw _ _ _ (Nat.ne_of_beq_eq_false rfl)).trans (congrArg (fun g9 => fT g9 18 wd216) (fT_sm _ _ _ _)))).trans (fT_sm _ _ _ _)))).symm
                              have hP := wr_Pi e9i (fz_P ht hB9.1)
                              have hD := wr_Di e9i (hB9.2.weaken (fun _ q _ h => hFc q.1 h))
                              clear e9i
                              revert hw9
                              refine fz_a2 ?_
                              intro f248_0 f248_1
                              have hl : lv_has _ _ ([(0, .ref h0), (1, .int bq), (2, .int (nI (n5 + 1))), (3, .int m7)]) := lv_sub hl [1, 2, 3, 0] rfl
                              exact join3 _ _ _ _ ⟨a2248, f2248, wd248, sg248, f248_0, by (have h9 := f216_0.1); (have h8 := f248_1); omega, rfl, hP, hD, hS, hl⟩
                          · rintro H locs ls stk ⟨a6, f6, w6, q6, hLx6, hf6, rfl, hP, hD, hS, hl⟩
                            refine lv_goto (tgt := 29) hx hb dX12_readDifferent_251 (by decide) ?_
                            have hl : lv_has _ _ ([(0, .ref h0), (1, .int bq), (2, .int (nI (n5 + 1))), (3, .int m7)]) := lv_sub hl [0, 1, 2, 3] rfl
                            exact ih29 bq (n5 + 1) m7 a6 f6 w6 q6 _ _ _ (by omega) (hm7) (hLx6) (by omega) (by omega) hP hD hS hl
                      · have t_191 : ¬ ((k7 : Nat) : Int) ≥ ((mm : Nat) : Int) := toI_nge c_191 (nI_toInt (by omega)) (nI_toInt (by omega))
                        refine lv_iload_n hx hb dX12_readDifferent_194 rfl (lv_at hl 1 rfl) ?_
                        refine lv_iconst (v := 1) hx hb dX12_readDifferent_195 (by decide) ?_
                        refine lv_aload_n hx hb dX12_readDifferent_196 rfl (lv_at hl 0 rfl) ?_
                        refine va_get (D := (dC, dI)) (ci := 12) (v := .ref (a 27)) (C := RX12) (T := TX12) (N := 163) (fs := fM (vS a (fT (fT (fT (fT vi 17 (nI a5)) 19 (nI f5)) 20 q5) 18 w5) vj)) hx hb hts iwsRX12_readDifferent_in12 hown hK hP 0 rfl rfl 50 (by decide) (hts (.fieldLink RX12 104 "OptimaWorksModel" "varAt" "[I") (by decide +kernel)) (fun _ h9 => h9) rfl dX12_readDifferent_197 ?_
                        refine lv_iload hx hb dX12_readDifferent_200 (lv_at hl 3 rfl) ?_
                        refine va_iald (cA := k 27) (n := 44) (f := (vF 27)) hx hb hK hP 28 27 (WR_get 27 (by decide)) (TR_get 27 (by decide)) (vp_in_nI (show oA < 44 by omega) (by omega)) dX12_readDifferent_202 ?_
                        refine lv_topi (fun y28 hy28 => ?_)
                        obtain rfl : ((vF 27) oA) = y28 := (hy28.trans (by rw [nI_clamp (by omega)])).symm
                        refine lv_topi (fun y29 hy29 => ?_)
                        obtain rfl : (nI aT) = y29 := (hy29.trans (hSm.2.1.2.2.2.2.2 rfl)).symm
                        refine lv_iload hx hb dX12_readDifferent_203 (lv_at hl 5 rfl) ?_
                        refine lv_iadd hx hb dX12_readDifferent_205 ?_
                        refine lv_topi (fun y30 hy30 => ?_)
                        obtain rfl : (nI (aT + k7)) = y30 := (hy30.trans (nI_add aT k7)).symm
                        refine lv_ishl hx hb dX12_readDifferent_206 ?_
                        refine lv_ior hx hb dX12_readDifferent_207 ?_
                        refine lv_istore_n hx hb dX12_readDifferent_208 rfl hl (by decide) rfl (fun ls (hl : lv_has ls _ ([(1, .int (bq ||| (1 <<< ((nI (aT + k7)) &&& 31)))), (0, .ref h0), (2, .int (nI n5)), (5, .int (nI oA)), (6, .int (nI mm)), (7, .int (nI k7))])) => ?_)
                        refine lv_iinc (v := (nI (k7 + 1))) hx hb dX12_readDifferent_209 hl (k := 5) rfl (nI_add k7 1) (by decide) rfl (fun ls (hl : lv_has ls _ ([(7, .int (nI (k7 + 1))), (1, .int (bq ||| (1 <<< ((nI (aT + k7)) &&& 31)))), (0, .ref h0), (2, .int (nI n5)), (5, .int (nI oA)), (6, .int (nI mm))])) => ?_)
                        refine lv_goto (tgt := 187) hx hb dX12_readDifferent_212 (by decide) ?_
                        have hl : lv_has _ _ ([(0, .ref h0), (1, .int (bq ||| (1 <<< ((nI (aT + k7)) &&& 31)))), (2, .int (nI n5)), (5, .int (nI oA)), (6, .int (nI mm)), (7, .int (nI (k7 + 1)))]) := lv_sub hl [2, 1, 3, 4, 5, 0] rfl
                        exact ih187_1 (bq ||| (1 <<< ((nI (aT + k7)) &&& 31))) (k7 + 1) _ _ _ (by omega) (by omega) hP hD hS hl
                · have t_88 : (((vF 28) oA)).toInt = 0 := toI_nne c_88 rfl (by decide)
                  refine lv_aload_n hx hb dX12_readDifferent_91 rfl (lv_at hl 1 rfl) ?_
                  refine lv_iconst (v := 3) hx hb dX12_readDifferent_92 (by decide) ?_
                  refine lv_aload_n hx hb dX12_readDifferent_93 rfl (lv_at hl 1 rfl) ?_
                  refine va_get (D := (dC, dI)) (ci := 12) (v := .int (nI f5)) (C := RX12) (T := TX12) (N := 163) (fs := fM (vS a (fT (fT (fT (fT vi 17 (nI a5)) 19 (nI f5)) 20 q5) 18 w5) vj)) hx hb hts iwsRX12_readDifferent_in12 hown hK hP 0 rfl rfl 19 (by decide) (hts _ hm_r_X12_readDifferent_2) (fun _ h9 => h9) rfl dX12_readDifferent_94 ?_
                  have hFc := allFree hD hS hA
                  refine va_callv (va_runV (As := [.int 3, .int (nI f5)]) (rest := []) ⟨hx, hb, hml, hown, hts⟩ (r_X12_faultAt l dC dI a k h0 (fT (fT (fT (fT vi 17 (nI a5)) 19 (nI f5)) 20 q5) 18 w5) vj vF vG 3 (nI f5) (by first | with_reducible assumption | decide | omega | rfl | assumption) H.size) (cwV 2 hts gwsRX12_readDifferent_3 rfl rfl rfl hd_yX12_faultAt_RX12 (by decide +kernel)) (fz_pre (va_recv hK hP (ci := 12) (q0 := 0) rfl rfl) hP hK hD) rfl rfl hl.1 rfl (lv_room (Nat.le_of_ble_eq_true rfl)) dX12_readDifferent_97 (by decide +kernel)) hS (fun q _ h => hFc q h) hFc (fun u t9_ H locs ht hvm hw9 hB9 hz1 hk1 hS => ?_)
                  revert u hw9 hB9
                  refine fz_p2 ?_
                  intro s297_3 p297_3 hw9 hB9
                  try dsimp only at hw9 hB9
                  have hP : va_P (dC, dI) vwCl (WR a k h0 (fT (fT (fT (fT (fT (fT vi 17 (nI a5)) 19 (nI f5)) 20 q5) 18 w5) 21 s297_3) 22 p297_3) vj vF vG) H := fz_P ht hB9.1
                  have hD := fz_sd hP (hB9.2.weaken (fun _ q _ h => hFc q.1 h)) rfl
                  revert hw9
                  refine fz_a2 ?_
                  intro f97_3_0 f97_3_1
                  have f97_3_0 : (0 < (vi 21).toInt ∧ s297_3 = (vi 21) ∧ p297_3 = (vi 22)) ∨ (¬ 0 < (vi 21).toInt ∧ s297_3 = 3 ∧ p297_3 = (nI f5)) := f97_3_0
                  refine lv_aload_n hx hb dX12_readDifferent_100 rfl (lv_at hl 1 rfl) ?_
                  refine va_get (D := (dC, dI)) (ci := 12) (v := .int s297_3) (C := RX12) (T := TX12) (N := 163) (fs := fM (vS a (fT (fT (fT (fT (fT (fT vi 17 (nI a5)) 19 (nI f5)) 20 q5) 18 w5) 21 s297_3) 22 p297_3) vj)) hx hb hts iwsRX12_readDifferent_in12 hown hK hP 0 rfl rfl 21 (by decide) (hts _ hm_r_X12_readDifferent_1) (fun _ h9 => h9) rfl dX12_readDifferent_101 ?_
                  refine lv_if_le (tgt := 108) hx hb dX12_readDifferent_104 (by decide) (fun c9 => False.elim (by have t9 : (s297_3).toInt ≤ 0 := toI_le c9 rfl (by decide); omega)) (fun c_104 => ?_)
                  have t_104 : ¬ (s297_3).toInt ≤ 0 := toI_nle c_104 rfl (by decide)
                  refine W.widen (k := 0) (n := 0) (by decide +kernel) (by decide +kernel) ?_
                  have e9 : fT (fT (fT (fT (fT (fT (fT vi 17 (nI a5)) 19 (nI f5)) 20 q5) 18 w5) 21 s297_3) 22 p297_3) 92 (nI dn) = fT (fT (fT (fT (fT (fT vi 17 (nI a5)) 19 (nI f5)) 20 q5) 18 w5) 21 s297_3) 22 p297_3 := by funext q9; by_cases h9_17 : q9 = 17; (subst h9_17; exact ((fT_ne _ _ (Nat.ne_of_beq_eq_false rfl)).trans ((fT_ne _ _ (Nat.ne_of_beq_eq_false rfl)).trans ((fT_ne _ _ (Nat.ne_of_beq_eq_false rfl)).trans ((fT_ne _ _ (Nat.ne_of_beq_eq_false rfl)).trans ((fT_ne _ _ (Nat.ne_of_beq_eq_false rfl)).trans ((fT_ne _ _ (Nat.ne_of_beq_eq_false rfl)).trans (fT_eq _ _ _))))))).trans (Eq.trans (by first | with_reducible rfl | with_reducible assumption | (symm; with_reducible assumption) | rfl | assumption | (symm; assumption) | (subst_vars; rfl)) ((fT_ne _ _ (Nat.ne_of_beq_eq_false rfl)).trans ((fT_ne _ _ (Nat.ne_of_beq_eq_false rfl)).trans ((fT_ne _ _ (Nat.ne_of_beq_eq_false rfl)).trans ((fT_ne _ _ (Nat.ne_of_beq_eq_false rfl)).trans ((fT_ne _ _ (Nat.ne_of_beq_eq_false rfl)).trans (fT_eq _ _ _)))))).symm)); by_cases h9_19 : q9 = 19; (subst h9_19; exact ((fT_ne _ _ (Nat.ne_of_beq_eq_false rfl)).trans ((fT_ne _ _ (Nat.ne_of_beq_eq_false rfl)).trans ((fT_ne _ _ (Nat.ne_of_beq_eq_false rfl)).trans ((fT_ne _ _ (Nat.ne_of_beq_eq_false rfl)).trans ((fT_ne _ _ (Nat.ne_of_beq_eq_false rfl)).trans (fT_eq _ _ _)))))).trans (Eq.trans (by first | with_reducible rfl | with_reducible assumption | (symm; with_reducible assumption) | rfl | assumption | (symm; assumption) | (subst_vars; rfl)) ((fT_ne _ _ (Nat.ne_of_beq_eq_false rfl)).trans ((fT_ne _ _ (Nat.ne_of_beq_eq_false rfl)).trans ((fT_ne _ _ (Nat.ne_of_beq_eq_false rfl)).trans ((fT_ne _ _ (Nat.ne_of_beq_eq_false rfl)).trans (fT_eq _ _ _))))).symm)); by_cases h9_20 : q9 = 20; (subst h9_20; exact ((fT_ne _ _ (Nat.ne_of_beq_eq_false rfl)).trans ((fT_ne _ _ (Nat.ne_of_beq_eq_false rfl)).trans ((fT_ne _ _ (Nat.ne_of_beq_eq_false rfl)).trans ((fT_ne _ _ (Nat.ne_of_beq_eq_false rfl)).trans (fT_eq _ _ _))))).trans (Eq.trans (by first | with_reducible rfl | with_reducible assumption | (symm; with_reducible assumption) | rfl | assumption | (symm; assumption) | (subst_vars; rfl)) ((fT_ne _ _ (Nat.ne_of_beq_eq_false rfl)).trans ((fT_ne _ _ (Nat.ne_of_beq_eq_false rfl)).trans ((fT_ne _ _ (Nat.ne_of_beq_eq_false rfl)).trans (fT_eq _ _ _)))).symm)); by_cases h9_18 : q9 = 18; (subst h9_18; exact ((fT_ne _ _ (Nat.ne_of_beq_eq_false rfl)).trans ((fT_ne _ _ (Nat.ne_of_beq_eq_false rfl)).trans ((fT_ne _ _ (Nat.ne_of_beq_eq_false rfl)).trans (fT_eq _ _ _)))).trans (Eq.trans (by first | with_reducible rfl | with_reducible assumption | (symm; with_reducible assumption) | rfl | assumption | (symm; assumption) | (subst_vars; rfl)) ((fT_ne _ _ (Nat.ne_of_beq_eq_false rfl)).trans ((fT_ne _ _ (Nat.ne_of_beq_eq_false rfl)).trans (fT_eq _ _ _))).symm)); by_cases h9_21 : q9 = 21; (subst h9_21; exact ((fT_ne _ _ (Nat.ne_of_beq_eq_false rfl)).trans ((fT_ne _ _ (Nat.ne_of_beq_eq_false rfl)).trans (fT_eq _ _ _))).trans (Eq.trans (by first | with_reducible rfl | with_reducible assumption | (symm; with_reducible assumption) | rfl | assumption | (symm; assumption) | (subst_vars; rfl)) ((fT_ne _ _ (Nat.ne_of_beq_eq_false rfl)).trans (fT_eq _ _ _)).symm)); by_cases h9_22 : q9 = 22; (subst h9_22; exact ((fT_ne _ _ (Nat.ne_of_beq_eq_false rfl)).trans (fT_eq _ _ _)).trans (Eq.trans (by first | with_reducible rfl | with_reducible assumption | (symm; with_reducible assumption) | rfl | assumption | (symm; assumption) | (subst_vars; rfl)) (fT_eq _ _ _).symm)); by_cases h9_92 : q9 = 92; (subst h9_92; exact (fT_eq _ _ _).trans (Eq.trans (by first | with_reducible rfl | with_reducible assumption | (symm; with_reducible assumption) | rfl | assumption | (symm; assumption) | (subst_vars; rfl)) ((fT_ne _ _ (Nat.ne_of_beq_eq_false rfl)).trans ((fT_ne _ _ (Nat.ne_of_beq_eq_false rfl)).trans ((fT_ne _ _ (Nat.ne_of_beq_eq_false rfl)).trans ((fT_ne _ _ (Nat.ne_of_beq_eq_false rfl)).trans ((fT_ne _ _ (Nat.ne_of_beq_eq_false rfl)).trans (fT_ne _ _ (Nat.ne_of_beq_eq_false rfl))))))).symm)); exact ((fT_ne _ _ h9_92).trans ((fT_ne _ _ h9_22).trans ((fT_ne _ _ h9_21).trans ((fT_ne _ _ h9_18).trans ((fT_ne _ _ h9_20).trans ((fT_ne _ _ h9_19).trans (fT_ne _ _ h9_17))))))).trans ((fT_ne _ _ h9_22).trans ((fT_ne _ _ h9_21).trans ((fT_ne _ _ h9_18).trans ((fT_ne _ _ h9_20).trans ((fT_ne _ _ h9_19).trans (fT_ne _ _ h9_17)))))).symm
                  have hP := wr_Pi e9 hP
                  have hD := wr_Di e9 hD
                  clear e9
                  have e9 : fT vF 62 (vF 62) = vF := fT_id _ _ (rfl)
                  have hP := wr_PF e9 hP
                  have hD := wr_DF e9 hD
                  clear e9
                  exact W.vret hx hb hr (fun t9_ ht hW => ⟨⟨(a5, f5, q5, w5, s297_3, p297_3, (vF 62), dn), rfl, by (try dsimp only); exact ⟨hLx5, by omega, by (have h9 := f97_3_1); omega, Or.inl f97_3_1, by omega⟩, by rw [ht]; exact hP, hD⟩, hS.F ht⟩) hS.2.2 dX12_readDifferent_107
        · have t_45 : ¬ (w5).toInt = 1 := toI_neq c_45 rfl (by decide)
          refine lv_aload_n hx hb dX12_readDifferent_48 rfl (lv_at hl 0 rfl) ?_
          have hFc := allFree hD hS hA
          refine va_callv (va_runV (As := []) (rest := []) ⟨hx, hb, hml, hown, hts⟩ (r_X12_wrong l dC dI a k h0 (fT (fT (fT (fT vi 17 (nI a5)) 19 (nI f5)) 20 q5) 18 w5) vj vF vG H.size) (cwV 0 hts gwsRX12_readDifferent_5 rfl rfl rfl hd_yX12_wrong_RX12 (by decide +kernel)) (fz_pre (va_recv hK hP (ci := 12) (q0 := 0) rfl rfl) hP hK hD) rfl rfl hl.1 rfl (lv_room (Nat.le_of_ble_eq_true rfl)) dX12_readDifferent_49 (by decide +kernel)) hS (fun q _ h => hFc q h) hFc (fun u t9_ H locs ht hvm hw9 hB9 hz1 hk1 hS => ?_)
          revert u hw9 hB9
          refine fz_p2 ?_
          intro s249 p249 hw9 hB9
          try dsimp only at hw9 hB9
          have hP : va_P (dC, dI) vwCl (WR a k h0 (fT (fT (fT (fT (fT (fT vi 17 (nI a5)) 19 (nI f5)) 20 q5) 18 w5) 21 s249) 22 p249) vj vF vG) H := fz_P ht hB9.1
          have hD := fz_sd hP (hB9.2.weaken (fun _ q _ h => hFc q.1 h)) rfl
          revert hw9
          refine fz_a2 ?_
          intro f49_0 f49_1
          have f49_0 : (0 < (vi 21).toInt ∧ s249 = (vi 21) ∧ p249 = (vi 22)) ∨ (¬ 0 < (vi 21).toInt ∧ (s249 = 1 ∨ s249 = 2) ∧ p249 = (nI f5)) := f49_0
          refine W.widen (k := 0) (n := 0) (by decide +kernel) (by decide +kernel) ?_
          have e9 : fT (fT (fT (fT (fT (fT (fT vi 17 (nI a5)) 19 (nI f5)) 20 q5) 18 w5) 21 s249) 22 p249) 92 (nI dn) = fT (fT (fT (fT (fT (fT vi 17 (nI a5)) 19 (nI f5)) 20 q5) 18 w5) 21 s249) 22 p249 := by funext q9; by_cases h9_17 : q9 = 17; (subst h9_17; exact ((fT_ne _ _ (Nat.ne_of_beq_eq_false rfl)).trans ((fT_ne _ _ (Nat.ne_of_beq_eq_false rfl)).trans ((fT_ne _ _ (Nat.ne_of_beq_eq_false rfl)).trans ((fT_ne _ _ (Nat.ne_of_beq_eq_false rfl)).trans ((fT_ne _ _ (Nat.ne_of_beq_eq_false rfl)).trans ((fT_ne _ _ (Nat.ne_of_beq_eq_false rfl)).trans (fT_eq _ _ _))))))).trans (Eq.trans (by first | with_reducible rfl | with_reducible assumption | (symm; with_reducible assumption) | rfl | assumption | (symm; assumption) | (subst_vars; rfl)) ((fT_ne _ _ (Nat.ne_of_beq_eq_false rfl)).trans ((fT_ne _ _ (Nat.ne_of_beq_eq_false rfl)).trans ((fT_ne _ _ (Nat.ne_of_beq_eq_false rfl)).trans ((fT_ne _ _ (Nat.ne_of_beq_eq_false rfl)).trans ((fT_ne _ _ (Nat.ne_of_beq_eq_false rfl)).trans (fT_eq _ _ _)))))).symm)); by_cases h9_19 : q9 = 19; (subst h9_19; exact ((fT_ne _ _ (Nat.ne_of_beq_eq_false rfl)).trans ((fT_ne _ _ (Nat.ne_of_beq_eq_false rfl)).trans ((fT_ne _ _ (Nat.ne_of_beq_eq_false rfl)).trans ((fT_ne _ _ (Nat.ne_of_beq_eq_false rfl)).trans ((fT_ne _ _ (Nat.ne_of_beq_eq_false rfl)).trans (fT_eq _ _ _)))))).trans (Eq.trans (by first | with_reducible rfl | with_reducible assumption | (symm; with_reducible assumption) | rfl | assumption | (symm; assumption) | (subst_vars; rfl)) ((fT_ne _ _ (Nat.ne_of_beq_eq_false rfl)).trans ((fT_ne _ _ (Nat.ne_of_beq_eq_false rfl)).trans ((fT_ne _ _ (Nat.ne_of_beq_eq_false rfl)).trans ((fT_ne _ _ (Nat.ne_of_beq_eq_false rfl)).trans (fT_eq _ _ _))))).symm)); by_cases h9_20 : q9 = 20; (subst h9_20; exact ((fT_ne _ _ (Nat.ne_of_beq_eq_false rfl)).trans ((fT_ne _ _ (Nat.ne_of_beq_eq_false rfl)).trans ((fT_ne _ _ (Nat.ne_of_beq_eq_false rfl)).trans ((fT_ne _ _ (Nat.ne_of_beq_eq_false rfl)).trans (fT_eq _ _ _))))).trans (Eq.trans (by first | with_reducible rfl | with_reducible assumption | (symm; with_reducible assumption) | rfl | assumption | (symm; assumption) | (subst_vars; rfl)) ((fT_ne _ _ (Nat.ne_of_beq_eq_false rfl)).trans ((fT_ne _ _ (Nat.ne_of_beq_eq_false rfl)).trans ((fT_ne _ _ (Nat.ne_of_beq_eq_false rfl)).trans (fT_eq _ _ _)))).symm)); by_cases h9_18 : q9 = 18; (subst h9_18; exact ((fT_ne _ _ (Nat.ne_of_beq_eq_false rfl)).trans ((fT_ne _ _ (Nat.ne_of_beq_eq_false rfl)).trans ((fT_ne _ _ (Nat.ne_of_beq_eq_false rfl)).trans (fT_eq _ _ _)))).trans (Eq.trans (by first | with_reducible rfl | with_reducible assumption | (symm; with_reducible assumption) | rfl | assumption | (symm; assumption) | (subst_vars; rfl)) ((fT_ne _ _ (Nat.ne_of_beq_eq_false rfl)).trans ((fT_ne _ _ (Nat.ne_of_beq_eq_false rfl)).trans (fT_eq _ _ _))).symm)); by_cases h9_21 : q9 = 21; (subst h9_21; exact ((fT_ne _ _ (Nat.ne_of_beq_eq_false rfl)).trans ((fT_ne _ _ (Nat.ne_of_beq_eq_false rfl)).trans (fT_eq _ _ _))).trans (Eq.trans (by first | with_reducible rfl | with_reducible assumption | (symm; with_reducible assumption) | rfl | assumption | (symm; assumption) | (subst_vars; rfl)) ((fT_ne _ _ (Nat.ne_of_beq_eq_false rfl)).trans (fT_eq _ _ _)).symm)); by_cases h9_22 : q9 = 22; (subst h9_22; exact ((fT_ne _ _ (Nat.ne_of_beq_eq_false rfl)).trans (fT_eq _ _ _)).trans (Eq.trans (by first | with_reducible rfl | with_reducible assumption | (symm; with_reducible assumption) | rfl | assumption | (symm; assumption) | (subst_vars; rfl)) (fT_eq _ _ _).symm)); by_cases h9_92 : q9 = 92; (subst h9_92; exact (fT_eq _ _ _).trans (Eq.trans (by first | with_reducible rfl | with_reducible assumption | (symm; with_reducible assumption) | rfl | assumption | (symm; assumption) | (subst_vars; rfl)) ((fT_ne _ _ (Nat.ne_of_beq_eq_false rfl)).trans ((fT_ne _ _ (Nat.ne_of_beq_eq_false rfl)).trans ((fT_ne _ _ (Nat.ne_of_beq_eq_false rfl)).trans ((fT_ne _ _ (Nat.ne_of_beq_eq_false rfl)).trans ((fT_ne _ _ (Nat.ne_of_beq_eq_false rfl)).trans (fT_ne _ _ (Nat.ne_of_beq_eq_false rfl))))))).symm)); exact ((fT_ne _ _ h9_92).trans ((fT_ne _ _ h9_22).trans ((fT_ne _ _ h9_21).trans ((fT_ne _ _ h9_18).trans ((fT_ne _ _ h9_20).trans ((fT_ne _ _ h9_19).trans (fT_ne _ _ h9_17))))))).trans ((fT_ne _ _ h9_22).trans ((fT_ne _ _ h9_21).trans ((fT_ne _ _ h9_18).trans ((fT_ne _ _ h9_20).trans ((fT_ne _ _ h9_19).trans (fT_ne _ _ h9_17)))))).symm
          have hP := wr_Pi e9 hP
          have hD := wr_Di e9 hD
          clear e9
          have e9 : fT vF 62 (vF 62) = vF := fT_id _ _ (rfl)
          have hP := wr_PF e9 hP
          have hD := wr_DF e9 hD
          clear e9
          exact W.vret hx hb hr (fun t9_ ht hW => ⟨⟨(a5, f5, q5, w5, s249, p249, (vF 62), dn), rfl, by (try dsimp only); exact ⟨hLx5, by omega, by omega, Or.inl f49_1, by omega⟩, by rw [ht]; exact hP, hD⟩, hS.F ht⟩) hS.2.2 dX12_readDifferent_52
  · have t_6 : ((dn : Nat) : Int) = 8 := toI_nne c_6 (nI_toInt (by omega)) (by decide)
    refine lv_aload_n hx hb dX12_readDifferent_9 rfl (lv_at hl 0 rfl) ?_
    refine lv_iconst (v := 4) hx hb dX12_readDifferent_10 (by decide) ?_
    refine lv_aload_n hx hb dX12_readDifferent_11 rfl (lv_at hl 0 rfl) ?_
    refine va_get (D := (dC, dI)) (ci := 12) (v := .int (vi 19)) (C := RX12) (T := TX12) (N := 163) (fs := fM (vS a vi vj)) hx hb hts iwsRX12_readDifferent_in12 hown hK hP 0 rfl rfl 19 (by decide) (hts _ hm_r_X12_readDifferent_2) (fun _ h9 => h9) rfl dX12_readDifferent_12 ?_
    refine lv_topi (fun y31 hy31 => ?_)
    obtain rfl : (nI fn) = y31 := (hy31.trans (hfr)).symm
    have hFc := allFree hD hS hA
    refine va_callv (va_runV (As := [.int 4, .int (nI fn)]) (rest := []) ⟨hx, hb, hml, hown, hts⟩ (r_X12_faultAt l dC dI a k h0 vi vj vF vG 4 (nI fn) (by first | with_reducible assumption | decide | omega | rfl | assumption) s.heap.size) (cwV 2 hts gwsRX12_readDifferent_3 rfl rfl rfl hd_yX12_faultAt_RX12 (by decide +kernel)) (fz_pre (va_recv hK hP (ci := 12) (q0 := 0) rfl rfl) hP hK hD) rfl rfl hl.1 rfl (lv_room (Nat.le_of_ble_eq_true rfl)) dX12_readDifferent_15 (by decide +kernel)) hS (fun q _ h => hFc q h) hFc (fun u t9_ H locs ht hvm hw9 hB9 hz1 hk1 hS => ?_)
    revert u hw9 hB9
    refine fz_p2 ?_
    intro s215 p215 hw9 hB9
    try dsimp only at hw9 hB9
    have hP : va_P (dC, dI) vwCl (WR a k h0 (fT (fT vi 21 s215) 22 p215) vj vF vG) H := fz_P ht hB9.1
    have hD := fz_sd hP (hB9.2.weaken (fun _ q _ h => hFc q.1 h)) rfl
    revert hw9
    refine fz_a2 ?_
    intro f15_0 f15_1
    have f15_0 : (0 < (vi 21).toInt ∧ s215 = (vi 21) ∧ p215 = (vi 22)) ∨ (¬ 0 < (vi 21).toInt ∧ s215 = 4 ∧ p215 = (nI fn)) := f15_0
    refine W.widen (k := 0) (n := 0) (by decide +kernel) (by decide +kernel) ?_
    have e9 : fT (fT (fT (fT (fT (fT (fT vi 17 (nI an)) 19 (nI fn)) 20 (vi 20)) 18 (vi 18)) 21 s215) 22 p215) 92 (nI dn) = fT (fT vi 21 s215) 22 p215 := by funext q9; by_cases h9_17 : q9 = 17; (subst h9_17; exact ((fT_ne _ _ (Nat.ne_of_beq_eq_false rfl)).trans ((fT_ne _ _ (Nat.ne_of_beq_eq_false rfl)).trans ((fT_ne _ _ (Nat.ne_of_beq_eq_false rfl)).trans ((fT_ne _ _ (Nat.ne_of_beq_eq_false rfl)).trans ((fT_ne _ _ (Nat.ne_of_beq_eq_false rfl)).trans ((fT_ne _ _ (Nat.ne_of_beq_eq_false rfl)).trans (fT_eq _ _ _))))))).trans (Eq.trans (by first | with_reducible rfl | with_reducible assumption | (symm; with_reducible assumption) | rfl | assumption | (symm; assumption) | (subst_vars; rfl)) ((fT_ne _ _ (Nat.ne_of_beq_eq_false rfl)).trans (fT_ne _ _ (Nat.ne_of_beq_eq_false rfl))).symm)); by_cases h9_19 : q9 = 19; (subst h9_19; exact ((fT_ne _ _ (Nat.ne_of_beq_eq_false rfl)).trans ((fT_ne _ _ (Nat.ne_of_beq_eq_false rfl)).trans ((fT_ne _ _ (Nat.ne_of_beq_eq_false rfl)).trans ((fT_ne _ _ (Nat.ne_of_beq_eq_false rfl)).trans ((fT_ne _ _ (Nat.ne_of_beq_eq_false rfl)).trans (fT_eq _ _ _)))))).trans (Eq.trans (by first | with_reducible rfl | with_reducible assumption | (symm; with_reducible assumption) | rfl | assumption | (symm; assumption) | (subst_vars; rfl)) ((fT_ne _ _ (Nat.ne_of_beq_eq_false rfl)).trans (fT_ne _ _ (Nat.ne_of_beq_eq_false rfl))).symm)); by_cases h9_20 : q9 = 20; (subst h9_20; exact ((fT_ne _ _ (Nat.ne_of_beq_eq_false rfl)).trans ((fT_ne _ _ (Nat.ne_of_beq_eq_false rfl)).trans ((fT_ne _ _ (Nat.ne_of_beq_eq_false rfl)).trans ((fT_ne _ _ (Nat.ne_of_beq_eq_false rfl)).trans (fT_eq _ _ _))))).trans (Eq.trans (by first | with_reducible rfl | with_reducible assumption | (symm; with_reducible assumption) | rfl | assumption | (symm; assumption) | (subst_vars; rfl)) ((fT_ne _ _ (Nat.ne_of_beq_eq_false rfl)).trans (fT_ne _ _ (Nat.ne_of_beq_eq_false rfl))).symm)); by_cases h9_18 : q9 = 18; (subst h9_18; exact ((fT_ne _ _ (Nat.ne_of_beq_eq_false rfl)).trans ((fT_ne _ _ (Nat.ne_of_beq_eq_false rfl)).trans ((fT_ne _ _ (Nat.ne_of_beq_eq_false rfl)).trans (fT_eq _ _ _)))).trans (Eq.trans (by first | with_reducible rfl | with_reducible assumption | (symm; with_reducible assumption) | rfl | assumption | (symm; assumption) | (subst_vars; rfl)) ((fT_ne _ _ (Nat.ne_of_beq_eq_false rfl)).trans (fT_ne _ _ (Nat.ne_of_beq_eq_false rfl))).symm)); by_cases h9_21 : q9 = 21; (subst h9_21; exact ((fT_ne _ _ (Nat.ne_of_beq_eq_false rfl)).trans ((fT_ne _ _ (Nat.ne_of_beq_eq_false rfl)).trans (fT_eq _ _ _))).trans (Eq.trans (by first | with_reducible rfl | with_reducible assumption | (symm; with_reducible assumption) | rfl | assumption | (symm; assumption) | (subst_vars; rfl)) ((fT_ne _ _ (Nat.ne_of_beq_eq_false rfl)).trans (fT_eq _ _ _)).symm)); by_cases h9_22 : q9 = 22; (subst h9_22; exact ((fT_ne _ _ (Nat.ne_of_beq_eq_false rfl)).trans (fT_eq _ _ _)).trans (Eq.trans (by first | with_reducible rfl | with_reducible assumption | (symm; with_reducible assumption) | rfl | assumption | (symm; assumption) | (subst_vars; rfl)) (fT_eq _ _ _).symm)); by_cases h9_92 : q9 = 92; (subst h9_92; exact (fT_eq _ _ _).trans (Eq.trans (by first | with_reducible rfl | with_reducible assumption | (symm; with_reducible assumption) | rfl | assumption | (symm; assumption) | (subst_vars; rfl)) ((fT_ne _ _ (Nat.ne_of_beq_eq_false rfl)).trans (fT_ne _ _ (Nat.ne_of_beq_eq_false rfl))).symm)); exact ((fT_ne _ _ h9_92).trans ((fT_ne _ _ h9_22).trans ((fT_ne _ _ h9_21).trans ((fT_ne _ _ h9_18).trans ((fT_ne _ _ h9_20).trans ((fT_ne _ _ h9_19).trans (fT_ne _ _ h9_17))))))).trans ((fT_ne _ _ h9_22).trans (fT_ne _ _ h9_21)).symm
    have hP := wr_Pi e9 hP
    have hD := wr_Di e9 hD
    clear e9
    have e9 : fT vF 62 (vF 62) = vF := fT_id _ _ (rfl)
    have hP := wr_PF e9 hP
    have hD := wr_DF e9 hD
    clear e9
    exact W.vret hx hb hr (fun t9_ ht hW => ⟨⟨(an, fn, (vi 20), (vi 18), s215, p215, (vF 62), dn), rfl, by (try dsimp only); exact ⟨hLx, Nat.le_refl _, by omega, Or.inl f15_1, by omega⟩, by rw [ht]; exact hP, hD⟩, hS.F ht⟩) hS.2.2 dX12_readDifferent_18

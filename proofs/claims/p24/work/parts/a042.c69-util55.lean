section
theorem dX12_readOne_0 : decode cX12_readOne 0 = .ok (.aload_n 0, 1) := dk_42 (by decide +kernel)
theorem dX12_readOne_1 : decode cX12_readOne 1 = .ok (.getfield 143, 3) := dk_180 (by decide +kernel)
theorem dX12_readOne_4 : decode cX12_readOne 4 = .ok (.iload_n 1, 1) := dk_27 (by decide +kernel)
theorem dX12_readOne_5 : decode cX12_readOne 5 = .ok (.iaload, 1) := dk_46 (by decide +kernel)
theorem dX12_readOne_6 : decode cX12_readOne 6 = .ok (.tableswitch 257 0 3 #[30, 101, 121, 141], 30) := by decide +kernel
theorem dX12_readOne_36 : decode cX12_readOne 36 = .ok (.aload_n 0, 1) := dk_42 (by decide +kernel)
theorem dX12_readOne_37 : decode cX12_readOne 37 = .ok (.bipush 10, 2) := dk_16 (by decide +kernel)
theorem dX12_readOne_39 : decode cX12_readOne 39 = .ok (.invokevirtual 530, 3) := dk_182 (by decide +kernel)
theorem dX12_readOne_42 : decode cX12_readOne 42 = .ok (.ifCond .eq 22, 3) := dk_153 (by decide +kernel)
theorem dX12_readOne_45 : decode cX12_readOne 45 = .ok (.aload_n 0, 1) := dk_42 (by decide +kernel)
theorem dX12_readOne_46 : decode cX12_readOne 46 = .ok (.getfield 143, 3) := dk_180 (by decide +kernel)
theorem dX12_readOne_49 : decode cX12_readOne 49 = .ok (.iload_n 1, 1) := dk_27 (by decide +kernel)
theorem dX12_readOne_50 : decode cX12_readOne 50 = .ok (.iconst 1, 1) := dk_4 (by decide +kernel)
theorem dX12_readOne_51 : decode cX12_readOne 51 = .ok (.iastore, 1) := dk_79 (by decide +kernel)
theorem dX12_readOne_52 : decode cX12_readOne 52 = .ok (.aload_n 0, 1) := dk_42 (by decide +kernel)
theorem dX12_readOne_53 : decode cX12_readOne 53 = .ok (.invokevirtual 524, 3) := dk_182 (by decide +kernel)
theorem dX12_readOne_56 : decode cX12_readOne 56 = .ok (.aload_n 0, 1) := dk_42 (by decide +kernel)
theorem dX12_readOne_57 : decode cX12_readOne 57 = .ok (.iconst 3, 1) := dk_6 (by decide +kernel)
theorem dX12_readOne_58 : decode cX12_readOne 58 = .ok (.invokevirtual 586, 3) := dk_182 (by decide +kernel)
theorem dX12_readOne_61 : decode cX12_readOne 61 = .ok (.goto 253, 3) := dk_167 (by decide +kernel)
theorem dX12_readOne_64 : decode cX12_readOne 64 = .ok (.aload_n 0, 1) := dk_42 (by decide +kernel)
theorem dX12_readOne_65 : decode cX12_readOne 65 = .ok (.bipush 123, 2) := dk_16 (by decide +kernel)
theorem dX12_readOne_67 : decode cX12_readOne 67 = .ok (.invokevirtual 521, 3) := dk_182 (by decide +kernel)
theorem dX12_readOne_70 : decode cX12_readOne 70 = .ok (.ifCond .eq 22, 3) := dk_153 (by decide +kernel)
theorem dX12_readOne_73 : decode cX12_readOne 73 = .ok (.aload_n 0, 1) := dk_42 (by decide +kernel)
theorem dX12_readOne_74 : decode cX12_readOne 74 = .ok (.getfield 143, 3) := dk_180 (by decide +kernel)
theorem dX12_readOne_77 : decode cX12_readOne 77 = .ok (.iload_n 1, 1) := dk_27 (by decide +kernel)
theorem dX12_readOne_78 : decode cX12_readOne 78 = .ok (.iconst 2, 1) := dk_5 (by decide +kernel)
theorem dX12_readOne_79 : decode cX12_readOne 79 = .ok (.iastore, 1) := dk_79 (by decide +kernel)
theorem dX12_readOne_80 : decode cX12_readOne 80 = .ok (.aload_n 0, 1) := dk_42 (by decide +kernel)
theorem dX12_readOne_81 : decode cX12_readOne 81 = .ok (.invokevirtual 524, 3) := dk_182 (by decide +kernel)
theorem dX12_readOne_84 : decode cX12_readOne 84 = .ok (.aload_n 0, 1) := dk_42 (by decide +kernel)
theorem dX12_readOne_85 : decode cX12_readOne 85 = .ok (.iconst 2, 1) := dk_5 (by decide +kernel)
theorem dX12_readOne_86 : decode cX12_readOne 86 = .ok (.invokevirtual 586, 3) := dk_182 (by decide +kernel)
theorem dX12_readOne_89 : decode cX12_readOne 89 = .ok (.goto 225, 3) := dk_167 (by decide +kernel)
theorem dX12_readOne_92 : decode cX12_readOne 92 = .ok (.aload_n 0, 1) := dk_42 (by decide +kernel)
theorem dX12_readOne_93 : decode cX12_readOne 93 = .ok (.getfield 143, 3) := dk_180 (by decide +kernel)
theorem dX12_readOne_96 : decode cX12_readOne 96 = .ok (.iload_n 1, 1) := dk_27 (by decide +kernel)
theorem dX12_readOne_97 : decode cX12_readOne 97 = .ok (.iconst 3, 1) := dk_6 (by decide +kernel)
theorem dX12_readOne_98 : decode cX12_readOne 98 = .ok (.iastore, 1) := dk_79 (by decide +kernel)
theorem dX12_readOne_99 : decode cX12_readOne 99 = .ok (.aload_n 0, 1) := dk_42 (by decide +kernel)
theorem dX12_readOne_100 : decode cX12_readOne 100 = .ok (.iconst 0, 1) := dk_3 (by decide +kernel)
theorem dX12_readOne_101 : decode cX12_readOne 101 = .ok (.invokevirtual 586, 3) := dk_182 (by decide +kernel)
theorem dX12_readOne_104 : decode cX12_readOne 104 = .ok (.goto 210, 3) := dk_167 (by decide +kernel)
theorem dX12_readOne_107 : decode cX12_readOne 107 = .ok (.aload_n 0, 1) := dk_42 (by decide +kernel)
theorem dX12_readOne_108 : decode cX12_readOne 108 = .ok (.aload_n 0, 1) := dk_42 (by decide +kernel)
theorem dX12_readOne_109 : decode cX12_readOne 109 = .ok (.bipush 12, 2) := dk_16 (by decide +kernel)
theorem dX12_readOne_111 : decode cX12_readOne 111 = .ok (.aload_n 0, 1) := dk_42 (by decide +kernel)
theorem dX12_readOne_112 : decode cX12_readOne 112 = .ok (.getfield 580, 3) := dk_180 (by decide +kernel)
theorem dX12_readOne_115 : decode cX12_readOne 115 = .ok (.iconst 0, 1) := dk_3 (by decide +kernel)
theorem dX12_readOne_116 : decode cX12_readOne 116 = .ok (.iconst 0, 1) := dk_3 (by decide +kernel)
theorem dX12_readOne_117 : decode cX12_readOne 117 = .ok (.iconst 0, 1) := dk_3 (by decide +kernel)
theorem dX12_readOne_118 : decode cX12_readOne 118 = .ok (.invokevirtual 601, 3) := dk_182 (by decide +kernel)
theorem dX12_readOne_121 : decode cX12_readOne 121 = .ok (.invokevirtual 605, 3) := dk_182 (by decide +kernel)
theorem dX12_readOne_124 : decode cX12_readOne 124 = .ok (.goto 190, 3) := dk_167 (by decide +kernel)
theorem dX12_readOne_127 : decode cX12_readOne 127 = .ok (.aload_n 0, 1) := dk_42 (by decide +kernel)
theorem dX12_readOne_128 : decode cX12_readOne 128 = .ok (.bipush 125, 2) := dk_16 (by decide +kernel)
theorem dX12_readOne_130 : decode cX12_readOne 130 = .ok (.invokevirtual 611, 3) := dk_182 (by decide +kernel)
theorem dX12_readOne_133 : decode cX12_readOne 133 = .ok (.ifCond .eq 181, 3) := dk_153 (by decide +kernel)
theorem dX12_readOne_136 : decode cX12_readOne 136 = .ok (.aload_n 0, 1) := dk_42 (by decide +kernel)
theorem dX12_readOne_137 : decode cX12_readOne 137 = .ok (.aload_n 0, 1) := dk_42 (by decide +kernel)
theorem dX12_readOne_138 : decode cX12_readOne 138 = .ok (.getfield 580, 3) := dk_180 (by decide +kernel)
theorem dX12_readOne_141 : decode cX12_readOne 141 = .ok (.invokevirtual 605, 3) := dk_182 (by decide +kernel)
theorem dX12_readOne_144 : decode cX12_readOne 144 = .ok (.goto 170, 3) := dk_167 (by decide +kernel)
theorem dX12_readOne_147 : decode cX12_readOne 147 = .ok (.aload_n 0, 1) := dk_42 (by decide +kernel)
theorem dX12_readOne_148 : decode cX12_readOne 148 = .ok (.getfield 146, 3) := dk_180 (by decide +kernel)
theorem dX12_readOne_151 : decode cX12_readOne 151 = .ok (.iload_n 1, 1) := dk_27 (by decide +kernel)
theorem dX12_readOne_152 : decode cX12_readOne 152 = .ok (.aload_n 0, 1) := dk_42 (by decide +kernel)
theorem dX12_readOne_153 : decode cX12_readOne 153 = .ok (.getfield 580, 3) := dk_180 (by decide +kernel)
theorem dX12_readOne_156 : decode cX12_readOne 156 = .ok (.iastore, 1) := dk_79 (by decide +kernel)
theorem dX12_readOne_157 : decode cX12_readOne 157 = .ok (.aload_n 0, 1) := dk_42 (by decide +kernel)
theorem dX12_readOne_158 : decode cX12_readOne 158 = .ok (.getfield 161, 3) := dk_180 (by decide +kernel)
theorem dX12_readOne_161 : decode cX12_readOne 161 = .ok (.iload_n 1, 1) := dk_27 (by decide +kernel)
theorem dX12_readOne_162 : decode cX12_readOne 162 = .ok (.aload_n 0, 1) := dk_42 (by decide +kernel)
theorem dX12_readOne_163 : decode cX12_readOne 163 = .ok (.getfield 583, 3) := dk_180 (by decide +kernel)
theorem dX12_readOne_166 : decode cX12_readOne 166 = .ok (.iastore, 1) := dk_79 (by decide +kernel)
theorem dX12_readOne_167 : decode cX12_readOne 167 = .ok (.aload_n 0, 1) := dk_42 (by decide +kernel)
theorem dX12_readOne_168 : decode cX12_readOne 168 = .ok (.getfield 494, 3) := dk_180 (by decide +kernel)
theorem dX12_readOne_171 : decode cX12_readOne 171 = .ok (.iconst 4, 1) := dk_7 (by decide +kernel)
theorem dX12_readOne_172 : decode cX12_readOne 172 = .ok (.if_icmp .ne 57, 3) := dk_160 (by decide +kernel)
theorem dX12_readOne_175 : decode cX12_readOne 175 = .ok (.aload_n 0, 1) := dk_42 (by decide +kernel)
theorem dX12_readOne_176 : decode cX12_readOne 176 = .ok (.getfield 491, 3) := dk_180 (by decide +kernel)
theorem dX12_readOne_179 : decode cX12_readOne 179 = .ok (.bipush 76, 2) := dk_16 (by decide +kernel)
theorem dX12_readOne_181 : decode cX12_readOne 181 = .ok (.if_icmp .eq 53, 3) := dk_159 (by decide +kernel)
theorem dX12_readOne_184 : decode cX12_readOne 184 = .ok (.aload_n 0, 1) := dk_42 (by decide +kernel)
theorem dX12_readOne_185 : decode cX12_readOne 185 = .ok (.getfield 491, 3) := dk_180 (by decide +kernel)
theorem dX12_readOne_188 : decode cX12_readOne 188 = .ok (.bipush 71, 2) := dk_16 (by decide +kernel)
theorem dX12_readOne_190 : decode cX12_readOne 190 = .ok (.if_icmp .eq 44, 3) := dk_159 (by decide +kernel)
theorem dX12_readOne_193 : decode cX12_readOne 193 = .ok (.aload_n 0, 1) := dk_42 (by decide +kernel)
theorem dX12_readOne_194 : decode cX12_readOne 194 = .ok (.getfield 491, 3) := dk_180 (by decide +kernel)
theorem dX12_readOne_197 : decode cX12_readOne 197 = .ok (.bipush 60, 2) := dk_16 (by decide +kernel)
theorem dX12_readOne_199 : decode cX12_readOne 199 = .ok (.if_icmp .eq 35, 3) := dk_159 (by decide +kernel)
theorem dX12_readOne_202 : decode cX12_readOne 202 = .ok (.aload_n 0, 1) := dk_42 (by decide +kernel)
theorem dX12_readOne_203 : decode cX12_readOne 203 = .ok (.getfield 491, 3) := dk_180 (by decide +kernel)
theorem dX12_readOne_206 : decode cX12_readOne 206 = .ok (.bipush 62, 2) := dk_16 (by decide +kernel)
theorem dX12_readOne_208 : decode cX12_readOne 208 = .ok (.if_icmp .eq 26, 3) := dk_159 (by decide +kernel)
theorem dX12_readOne_211 : decode cX12_readOne 211 = .ok (.aload_n 0, 1) := dk_42 (by decide +kernel)
theorem dX12_readOne_212 : decode cX12_readOne 212 = .ok (.getfield 491, 3) := dk_180 (by decide +kernel)
theorem dX12_readOne_215 : decode cX12_readOne 215 = .ok (.bipush 61, 2) := dk_16 (by decide +kernel)
theorem dX12_readOne_217 : decode cX12_readOne 217 = .ok (.if_icmp .eq 17, 3) := dk_159 (by decide +kernel)
theorem dX12_readOne_220 : decode cX12_readOne 220 = .ok (.aload_n 0, 1) := dk_42 (by decide +kernel)
theorem dX12_readOne_221 : decode cX12_readOne 221 = .ok (.getfield 491, 3) := dk_180 (by decide +kernel)
theorem dX12_readOne_224 : decode cX12_readOne 224 = .ok (.bipush 78, 2) := dk_16 (by decide +kernel)
theorem dX12_readOne_226 : decode cX12_readOne 226 = .ok (.if_icmp .eq 8, 3) := dk_159 (by decide +kernel)
theorem dX12_readOne_229 : decode cX12_readOne 229 = .ok (.aload_n 0, 1) := dk_42 (by decide +kernel)
theorem dX12_readOne_230 : decode cX12_readOne 230 = .ok (.invokevirtual 527, 3) := dk_182 (by decide +kernel)
theorem dX12_readOne_233 : decode cX12_readOne 233 = .ok (.return_, 1) := dk_177 (by decide +kernel)
theorem dX12_readOne_234 : decode cX12_readOne 234 = .ok (.aload_n 0, 1) := dk_42 (by decide +kernel)
theorem dX12_readOne_235 : decode cX12_readOne 235 = .ok (.getfield 152, 3) := dk_180 (by decide +kernel)
theorem dX12_readOne_238 : decode cX12_readOne 238 = .ok (.iload_n 1, 1) := dk_27 (by decide +kernel)
theorem dX12_readOne_239 : decode cX12_readOne 239 = .ok (.aload_n 0, 1) := dk_42 (by decide +kernel)
theorem dX12_readOne_240 : decode cX12_readOne 240 = .ok (.getfield 491, 3) := dk_180 (by decide +kernel)
theorem dX12_readOne_243 : decode cX12_readOne 243 = .ok (.iastore, 1) := dk_79 (by decide +kernel)
theorem dX12_readOne_244 : decode cX12_readOne 244 = .ok (.aload_n 0, 1) := dk_42 (by decide +kernel)
theorem dX12_readOne_245 : decode cX12_readOne 245 = .ok (.invokevirtual 524, 3) := dk_182 (by decide +kernel)
theorem dX12_readOne_248 : decode cX12_readOne 248 = .ok (.aload_n 0, 1) := dk_42 (by decide +kernel)
theorem dX12_readOne_249 : decode cX12_readOne 249 = .ok (.getfield 143, 3) := dk_180 (by decide +kernel)
theorem dX12_readOne_252 : decode cX12_readOne 252 = .ok (.iload_n 1, 1) := dk_27 (by decide +kernel)
theorem dX12_readOne_253 : decode cX12_readOne 253 = .ok (.iconst 4, 1) := dk_7 (by decide +kernel)
theorem dX12_readOne_254 : decode cX12_readOne 254 = .ok (.iastore, 1) := dk_79 (by decide +kernel)
theorem dX12_readOne_255 : decode cX12_readOne 255 = .ok (.aload_n 0, 1) := dk_42 (by decide +kernel)
theorem dX12_readOne_256 : decode cX12_readOne 256 = .ok (.iconst 0, 1) := dk_3 (by decide +kernel)
theorem dX12_readOne_257 : decode cX12_readOne 257 = .ok (.invokevirtual 586, 3) := dk_182 (by decide +kernel)
theorem dX12_readOne_260 : decode cX12_readOne 260 = .ok (.goto 54, 3) := dk_167 (by decide +kernel)
theorem dX12_readOne_263 : decode cX12_readOne 263 = .ok (.aload_n 0, 1) := dk_42 (by decide +kernel)
theorem dX12_readOne_264 : decode cX12_readOne 264 = .ok (.bipush 13, 2) := dk_16 (by decide +kernel)
theorem dX12_readOne_266 : decode cX12_readOne 266 = .ok (.aload_n 0, 1) := dk_42 (by decide +kernel)
theorem dX12_readOne_267 : decode cX12_readOne 267 = .ok (.getfield 146, 3) := dk_180 (by decide +kernel)
theorem dX12_readOne_270 : decode cX12_readOne 270 = .ok (.iload_n 1, 1) := dk_27 (by decide +kernel)
theorem dX12_readOne_271 : decode cX12_readOne 271 = .ok (.iaload, 1) := dk_46 (by decide +kernel)
theorem dX12_readOne_272 : decode cX12_readOne 272 = .ok (.aload_n 0, 1) := dk_42 (by decide +kernel)
theorem dX12_readOne_273 : decode cX12_readOne 273 = .ok (.getfield 580, 3) := dk_180 (by decide +kernel)
theorem dX12_readOne_276 : decode cX12_readOne 276 = .ok (.aload_n 0, 1) := dk_42 (by decide +kernel)
theorem dX12_readOne_277 : decode cX12_readOne 277 = .ok (.getfield 152, 3) := dk_180 (by decide +kernel)
theorem dX12_readOne_280 : decode cX12_readOne 280 = .ok (.iload_n 1, 1) := dk_27 (by decide +kernel)
theorem dX12_readOne_281 : decode cX12_readOne 281 = .ok (.iaload, 1) := dk_46 (by decide +kernel)
theorem dX12_readOne_282 : decode cX12_readOne 282 = .ok (.iconst 0, 1) := dk_3 (by decide +kernel)
theorem dX12_readOne_283 : decode cX12_readOne 283 = .ok (.invokevirtual 601, 3) := dk_182 (by decide +kernel)
theorem dX12_readOne_286 : decode cX12_readOne 286 = .ok (.istore_n 2, 1) := dk_61 (by decide +kernel)
theorem dX12_readOne_287 : decode cX12_readOne 287 = .ok (.aload_n 0, 1) := dk_42 (by decide +kernel)
theorem dX12_readOne_288 : decode cX12_readOne 288 = .ok (.getfield 125, 3) := dk_180 (by decide +kernel)
theorem dX12_readOne_291 : decode cX12_readOne 291 = .ok (.iload_n 2, 1) := dk_28 (by decide +kernel)
theorem dX12_readOne_292 : decode cX12_readOne 292 = .ok (.aload_n 0, 1) := dk_42 (by decide +kernel)
theorem dX12_readOne_293 : decode cX12_readOne 293 = .ok (.getfield 161, 3) := dk_180 (by decide +kernel)
theorem dX12_readOne_296 : decode cX12_readOne 296 = .ok (.iload_n 1, 1) := dk_27 (by decide +kernel)
theorem dX12_readOne_297 : decode cX12_readOne 297 = .ok (.iaload, 1) := dk_46 (by decide +kernel)
theorem dX12_readOne_298 : decode cX12_readOne 298 = .ok (.iastore, 1) := dk_79 (by decide +kernel)
theorem dX12_readOne_299 : decode cX12_readOne 299 = .ok (.aload_n 0, 1) := dk_42 (by decide +kernel)
theorem dX12_readOne_300 : decode cX12_readOne 300 = .ok (.getfield 128, 3) := dk_180 (by decide +kernel)
theorem dX12_readOne_303 : decode cX12_readOne 303 = .ok (.iload_n 2, 1) := dk_28 (by decide +kernel)
theorem dX12_readOne_304 : decode cX12_readOne 304 = .ok (.aload_n 0, 1) := dk_42 (by decide +kernel)
theorem dX12_readOne_305 : decode cX12_readOne 305 = .ok (.getfield 583, 3) := dk_180 (by decide +kernel)
theorem dX12_readOne_308 : decode cX12_readOne 308 = .ok (.iastore, 1) := dk_79 (by decide +kernel)
theorem dX12_readOne_309 : decode cX12_readOne 309 = .ok (.aload_n 0, 1) := dk_42 (by decide +kernel)
theorem dX12_readOne_310 : decode cX12_readOne 310 = .ok (.iload_n 2, 1) := dk_28 (by decide +kernel)
theorem dX12_readOne_311 : decode cX12_readOne 311 = .ok (.invokevirtual 605, 3) := dk_182 (by decide +kernel)
theorem dX12_readOne_314 : decode cX12_readOne 314 = .ok (.return_, 1) := dk_177 (by decide +kernel)
def wsRX12_readOne : List Cond := .code yX12_readOne cX12_readOne 3 none :: ([.fieldLink RX12 143 "OptimaWorksModel" "step" "[I", .fieldLink RX12 580 "OptimaWorksModel" "result" "I", .fieldLink RX12 146 "OptimaWorksModel" "got1" "[I", .fieldLink RX12 161 "OptimaWorksModel" "at2" "[I", .fieldLink RX12 583 "OptimaWorksModel" "resultFirst" "I", .fieldLink RX12 494 "OptimaWorksModel" "word" "I", .fieldLink RX12 491 "OptimaWorksModel" "sign0" "I", .fieldLink RX12 152 "OptimaWorksModel" "sign1" "[I", .fieldLink RX12 125 "OptimaWorksModel" "firstA" "[I", .fieldLink RX12 128 "OptimaWorksModel" "firstB" "[I"] ++ wsX120 ++ (wsV RX12 530 RX12 yX12_isKey wsRX12_isKey) ++ (wsV RX12 524 RX12 yX12_next wsRX12_next) ++ (wsV RX12 586 RX12 yX12_begin1 wsRX12_begin1) ++ (wsV RX12 521 RX12 yX12_isSign wsRX12_isSign) ++ (wsV RX12 601 RX12 yX12_node wsRX12_node) ++ (wsV RX12 605 RX12 yX12_end1 wsRend1w) ++ (wsV RX12 611 RX12 yX12_needSign wsRX12_needSign) ++ (wsV RX12 527 RX12 yX12_wrong wsRX12_wrong))
theorem iwsRX12_readOne_in12 : ∀ w ∈ wsX120, w ∈ wsRX12_readOne := fun _ h => List.mem_cons_of_mem _ (List.mem_append_left _ (List.mem_append_left _ (List.mem_append_left _ (List.mem_append_left _ (List.mem_append_left _ (List.mem_append_left _ (List.mem_append_left _ (List.mem_append_left _ (List.mem_append_right _ h)))))))))
theorem gwsRX12_readOne_0 : GoodIn wsRX12_readOne (wsV RX12 530 RX12 yX12_isKey wsRX12_isKey) := goodIn_sub (fun _ h => List.mem_cons_of_mem _ (List.mem_append_left _ (List.mem_append_left _ (List.mem_append_left _ (List.mem_append_left _ (List.mem_append_left _ (List.mem_append_left _ (List.mem_append_left _ (List.mem_append_right _ h))))))))) (gdV (by decide +kernel) gdwsRX12_isKey)
theorem gwsRX12_readOne_1 : GoodIn wsRX12_readOne (wsV RX12 524 RX12 yX12_next wsRX12_next) := goodIn_sub (fun _ h => List.mem_cons_of_mem _ (List.mem_append_left _ (List.mem_append_left _ (List.mem_append_left _ (List.mem_append_left _ (List.mem_append_left _ (List.mem_append_left _ (List.mem_append_right _ h)))))))) (gdV (by decide +kernel) gdwsRX12_next)
theorem gwsRX12_readOne_2 : GoodIn wsRX12_readOne (wsV RX12 586 RX12 yX12_begin1 wsRX12_begin1) := goodIn_sub (fun _ h => List.mem_cons_of_mem _ (List.mem_append_left _ (List.mem_append_left _ (List.mem_append_left _ (List.mem_append_left _ (List.mem_append_left _ (List.mem_append_right _ h))))))) (gdV (by decide +kernel) gdwsRX12_begin1)
theorem gwsRX12_readOne_3 : GoodIn wsRX12_readOne (wsV RX12 521 RX12 yX12_isSign wsRX12_isSign) := goodIn_sub (fun _ h => List.mem_cons_of_mem _ (List.mem_append_left _ (List.mem_append_left _ (List.mem_append_left _ (List.mem_append_left _ (List.mem_append_right _ h)))))) (gdV (by decide +kernel) gdwsRX12_isSign)
theorem gwsRX12_readOne_4 : GoodIn wsRX12_readOne (wsV RX12 601 RX12 yX12_node wsRX12_node) := goodIn_sub (fun _ h => List.mem_cons_of_mem _ (List.mem_append_left _ (List.mem_append_left _ (List.mem_append_left _ (List.mem_append_right _ h))))) (gdV (by decide +kernel) gdwsRX12_node)
theorem gwsRX12_readOne_5 : GoodIn wsRX12_readOne (wsV RX12 605 RX12 yX12_end1 wsRend1w) := goodIn_sub (fun _ h => List.mem_cons_of_mem _ (List.mem_append_left _ (List.mem_append_left _ (List.mem_append_right _ h)))) (gdV (by decide +kernel) gdwsRend1w)
theorem gwsRX12_readOne_6 : GoodIn wsRX12_readOne (wsV RX12 611 RX12 yX12_needSign wsRX12_needSign) := goodIn_sub (fun _ h => List.mem_cons_of_mem _ (List.mem_append_left _ (List.mem_append_right _ h))) (gdV (by decide +kernel) gdwsRX12_needSign)
theorem gwsRX12_readOne_7 : GoodIn wsRX12_readOne (wsV RX12 527 RX12 yX12_wrong wsRX12_wrong) := goodIn_sub (fun _ h => List.mem_cons_of_mem _ (List.mem_append_right _ h)) (gdV (by decide +kernel) gdwsRX12_wrong)
theorem gdwsRX12_readOne : wsRX12_readOne.all goodWord = true := gdC rfl (gdA (gdA (gdA (gdA (gdA (gdA (gdA (gdA (gdA (by decide +kernel : ([.fieldLink RX12 143 "OptimaWorksModel" "step" "[I", .fieldLink RX12 580 "OptimaWorksModel" "result" "I", .fieldLink RX12 146 "OptimaWorksModel" "got1" "[I", .fieldLink RX12 161 "OptimaWorksModel" "at2" "[I", .fieldLink RX12 583 "OptimaWorksModel" "resultFirst" "I", .fieldLink RX12 494 "OptimaWorksModel" "word" "I", .fieldLink RX12 491 "OptimaWorksModel" "sign0" "I", .fieldLink RX12 152 "OptimaWorksModel" "sign1" "[I", .fieldLink RX12 125 "OptimaWorksModel" "firstA" "[I", .fieldLink RX12 128 "OptimaWorksModel" "firstB" "[I"] : List Cond).all goodWord = true) gdwsX120) (gdV (by decide +kernel) gdwsRX12_isKey)) (gdV (by decide +kernel) gdwsRX12_next)) (gdV (by decide +kernel) gdwsRX12_begin1)) (gdV (by decide +kernel) gdwsRX12_isSign)) (gdV (by decide +kernel) gdwsRX12_node)) (gdV (by decide +kernel) gdwsRend1w)) (gdV (by decide +kernel) gdwsRX12_needSign)) (gdV (by decide +kernel) gdwsRX12_wrong))
theorem hm_r_X12_readOne_0 : (.fieldLink RX12 143 "OptimaWorksModel" "step" "[I" : Cond) ∈ wsRX12_readOne := by decide +kernel
theorem hm_r_X12_readOne_1 : (.fieldLink RX12 580 "OptimaWorksModel" "result" "I" : Cond) ∈ wsRX12_readOne := by decide +kernel
theorem hm_r_X12_readOne_2 : (.fieldLink RX12 146 "OptimaWorksModel" "got1" "[I" : Cond) ∈ wsRX12_readOne := by decide +kernel
theorem hm_r_X12_readOne_3 : (.fieldLink RX12 161 "OptimaWorksModel" "at2" "[I" : Cond) ∈ wsRX12_readOne := by decide +kernel
theorem hm_r_X12_readOne_4 : (.fieldLink RX12 583 "OptimaWorksModel" "resultFirst" "I" : Cond) ∈ wsRX12_readOne := by decide +kernel
theorem hm_r_X12_readOne_5 : (.fieldLink RX12 491 "OptimaWorksModel" "sign0" "I" : Cond) ∈ wsRX12_readOne := by decide +kernel
theorem hm_r_X12_readOne_6 : (.fieldLink RX12 152 "OptimaWorksModel" "sign1" "[I" : Cond) ∈ wsRX12_readOne := by decide +kernel
set_option maxHeartbeats 4000000 in
set_option maxRecDepth 100000 in
/-- readOne(d) -/
theorem r_X12_readOne (l : Launch) (dC : Nat → ClassId) (dI : Nat → Nat → Nat) (a : Nat → Nat) (k : Nat → ClassId) (h0 : Nat) (vi : Nat → Int32) (vj : Nat → Int64) (vF : Nat → Nat → Int32) (vG : Nat → Nat → Int64) (tp : Nat) (an : Nat) (fn : Nat) (nm : Nat) (se : Nat) (pa : Nat) (va : Nat) (bd : Nat) (tT : Nat → Nat → Int32) (gG : RG) (bs : Nat) (r0 : Nat) (dN : Nat) (wi : Nat) (nd : Nat) (mM : Nat) (cw : Nat) (uu : Nat) (pe : Nat) (un : Nat) (gl : Nat) (gm : Nat) (xe : Nat) (p1 : Nat) (n1 : Nat) (m1 : Nat) (tw : Nat) (hTp : vi 16 = nI tp) (htp : tp ≤ 4000) (ha0 : vi 17 = nI an) (hfr : vi 19 = nI fn) (hLx : LxO tp fn an (vi 18) (vi 20)) (hst0 : 0 ≤ (vi 21).toInt) (hnm : vi 25 = nI nm) (hnm40 : nm ≤ 40) (hno : NmO (vF 11) (vF 12) nm) (hNk : NkO (vF 10) (vF 13) nm se pa va) (hbd : vi 30 = nI bd) (hbd60 : bd ≤ 60) (hbo : NmO (vF 14) (vF 15) 60) (hse44 : se ≤ 44) (hRV : RdV tT gG (vF 29) (vF 30) (vF 31) (vF 32) (vF 36) (vF 37) (vF 38) se nd bs) (hRT : RdT tT gG (vF 29) (vF 30) (vF 31) (vF 32) (vF 36) (vF 37) (vF 38) (vF 39) (vF 40) (vF 41) (vF 42) (vF 48) (vi 18) (vi 20) (vi 76) se bs r0 dN wi nd bd fn mM 3 cw uu pe un gl gm xe p1 n1 m1 tw) (hdp : vi 74 = nI (dN + 1)) (hwi : vi 75 = nI wi) (hnd : vi 52 = nI nd) (sz : Nat) : Met l yX12_readOne wsRX12_readOne ({ frames := 9, cells := 0, slots := 0, locals := 194 }) (va_Pc [.ref h0, .int (nI dN)] (fun U => U.heap.size = sz ∧ va_P (dC, dI) vwCl (WR a k h0 vi vj vF vG) U.heap ∧ va_K (dC, dI) vwCl (tX12 k) U ∧ va_D (fun _ => True) (WR a k h0 vi vj vF vG) ∧ StrA (va_A (WR a k h0 vi vj vF vG) sz) U U.heap)) (va_Qv (fun (u : (Nat) × (Nat) × (Int32) × (Int32) × (Int32) × (Int32) × (Nat → Int32) × (Nat → Int32) × (Nat → Int32) × (Nat → Int32) × (Nat → Int32) × (Nat → Int32) × (Nat → Int32) × (Nat → Int32) × (Nat → Int32) × (Nat → Int32) × (Nat → Int32) × (Nat → Int32) × (Nat → Int32) × (Nat → Int32) × (Nat → Int32) × (Nat) × (Nat) × (Nat) × (Int32) × (Int32) × (RG)) => (LxO tp (u.2.1) (u.1) (u.2.2.2.1) (u.2.2.1)) ∧ (fn ≤ (u.2.1)) ∧ (0 ≤ ((u.2.2.2.2.1)).toInt) ∧ (0 < ((u.2.2.2.2.1)).toInt ∨ (RdS tT (u.2.2.2.2.2.2.2.2.2.2.2.2.2.2.2.2.2.2.2.2.2.2.2.2.2.2) (u.2.2.2.2.2.2.1) (u.2.2.2.2.2.2.2.1) (u.2.2.2.2.2.2.2.2.1) (u.2.2.2.2.2.2.2.2.2.1) (vF 36) (vF 37) (vF 38) (u.2.2.2.2.2.2.2.2.2.2.2.2.2.1) (u.2.2.2.2.2.2.2.2.2.2.2.2.2.2.1) (u.2.2.2.2.2.2.2.2.2.2.2.2.2.2.2.1) (u.2.2.2.2.2.2.2.2.2.2.2.2.2.2.2.2.1) (u.2.2.2.2.2.2.2.2.2.2.2.2.2.2.2.2.2.2.2.2.1) (u.2.2.2.1) (u.2.2.1) (u.2.2.2.2.2.2.2.2.2.2.2.2.2.2.2.2.2.2.2.2.2.2.2.2.1) se bs r0 (u.2.2.2.2.2.2.2.2.2.2.2.2.2.2.2.2.2.2.2.2.2.1) (u.2.2.2.2.2.2.2.2.2.2.2.2.2.2.2.2.2.2.2.2.2.2.1) (u.2.2.2.2.2.2.2.2.2.2.2.2.2.2.2.2.2.2.2.2.2.2.2.1) bd (u.2.1) (mM - 1) ∧ Ext 0 bs gG (vF 29) (vF 30) (vF 31) (vF 32) (vF 36) (vF 37) (vF 38) (u.2.2.2.2.2.2.2.2.2.2.2.2.2.2.2.2.2.2.2.2.2.2.2.2.2.2) (u.2.2.2.2.2.2.1) (u.2.2.2.2.2.2.2.1) (u.2.2.2.2.2.2.2.2.1) (u.2.2.2.2.2.2.2.2.2.1) (vF 36) (vF 37) (vF 38))) ∧ ((u.2.2.2.2.2.2.2.2.2.2.2.2.2.2.2.2.2.2.2.2.2.1) ≤ dN + 2)) (fun (u : (Nat) × (Nat) × (Int32) × (Int32) × (Int32) × (Int32) × (Nat → Int32) × (Nat → Int32) × (Nat → Int32) × (Nat → Int32) × (Nat → Int32) × (Nat → Int32) × (Nat → Int32) × (Nat → Int32) × (Nat → Int32) × (Nat → Int32) × (Nat → Int32) × (Nat → Int32) × (Nat → Int32) × (Nat → Int32) × (Nat → Int32) × (Nat) × (Nat) × (Nat) × (Int32) × (Int32) × (RG)) t => va_P (dC, dI) vwCl (WR a k h0 (fT (fT (fT (fT (fT (fT (fT (fT (fT (fT (fT vi 17 (nI (u.1))) 19 (nI (u.2.1))) 20 (u.2.2.1)) 18 (u.2.2.2.1)) 21 (u.2.2.2.2.1)) 22 (u.2.2.2.2.2.1)) 74 (nI (u.2.2.2.2.2.2.2.2.2.2.2.2.2.2.2.2.2.2.2.2.2.1))) 75 (nI (u.2.2.2.2.2.2.2.2.2.2.2.2.2.2.2.2.2.2.2.2.2.2.1))) 76 (u.2.2.2.2.2.2.2.2.2.2.2.2.2.2.2.2.2.2.2.2.2.2.2.2.1)) 77 (u.2.2.2.2.2.2.2.2.2.2.2.2.2.2.2.2.2.2.2.2.2.2.2.2.2.1)) 52 (nI (u.2.2.2.2.2.2.2.2.2.2.2.2.2.2.2.2.2.2.2.2.2.2.2.1))) vj (fT (fT (fT (fT (fT (fT (fT (fT (fT (fT (fT (fT (fT (fT (fT vF 41 (u.2.2.2.2.2.2.2.2.2.2.2.2.2.2.2.1)) 46 (u.2.2.2.2.2.2.2.2.2.2.2.2.2.2.2.2.2.2.1)) 43 (u.2.2.2.2.2.2.2.2.2.2.2.2.2.2.2.2.2.1)) 40 (u.2.2.2.2.2.2.2.2.2.2.2.2.2.2.1)) 39 (u.2.2.2.2.2.2.2.2.2.2.2.2.2.1)) 42 (u.2.2.2.2.2.2.2.2.2.2.2.2.2.2.2.2.1)) 47 (u.2.2.2.2.2.2.2.2.2.2.2.2.2.2.2.2.2.2.2.1)) 48 (u.2.2.2.2.2.2.2.2.2.2.2.2.2.2.2.2.2.2.2.2.1)) 29 (u.2.2.2.2.2.2.1)) 30 (u.2.2.2.2.2.2.2.1)) 31 (u.2.2.2.2.2.2.2.2.1)) 32 (u.2.2.2.2.2.2.2.2.2.1)) 33 (u.2.2.2.2.2.2.2.2.2.2.1)) 34 (u.2.2.2.2.2.2.2.2.2.2.2.1)) 35 (u.2.2.2.2.2.2.2.2.2.2.2.2.1)) vG) t.heap ∧ va_D (va_A (WR a k h0 vi vj vF vG) sz) (WR a k h0 (fT (fT (fT (fT (fT (fT (fT (fT (fT (fT (fT vi 17 (nI (u.1))) 19 (nI (u.2.1))) 20 (u.2.2.1)) 18 (u.2.2.2.1)) 21 (u.2.2.2.2.1)) 22 (u.2.2.2.2.2.1)) 74 (nI (u.2.2.2.2.2.2.2.2.2.2.2.2.2.2.2.2.2.2.2.2.2.1))) 75 (nI (u.2.2.2.2.2.2.2.2.2.2.2.2.2.2.2.2.2.2.2.2.2.2.1))) 76 (u.2.2.2.2.2.2.2.2.2.2.2.2.2.2.2.2.2.2.2.2.2.2.2.2.1)) 77 (u.2.2.2.2.2.2.2.2.2.2.2.2.2.2.2.2.2.2.2.2.2.2.2.2.2.1)) 52 (nI (u.2.2.2.2.2.2.2.2.2.2.2.2.2.2.2.2.2.2.2.2.2.2.2.1))) vj (fT (fT (fT (fT (fT (fT (fT (fT (fT (fT (fT (fT (fT (fT (fT vF 41 (u.2.2.2.2.2.2.2.2.2.2.2.2.2.2.2.1)) 46 (u.2.2.2.2.2.2.2.2.2.2.2.2.2.2.2.2.2.2.1)) 43 (u.2.2.2.2.2.2.2.2.2.2.2.2.2.2.2.2.2.1)) 40 (u.2.2.2.2.2.2.2.2.2.2.2.2.2.2.1)) 39 (u.2.2.2.2.2.2.2.2.2.2.2.2.2.1)) 42 (u.2.2.2.2.2.2.2.2.2.2.2.2.2.2.2.2.1)) 47 (u.2.2.2.2.2.2.2.2.2.2.2.2.2.2.2.2.2.2.2.1)) 48 (u.2.2.2.2.2.2.2.2.2.2.2.2.2.2.2.2.2.2.2.2.1)) 29 (u.2.2.2.2.2.2.1)) 30 (u.2.2.2.2.2.2.2.1)) 31 (u.2.2.2.2.2.2.2.2.1)) 32 (u.2.2.2.2.2.2.2.2.2.1)) 33 (u.2.2.2.2.2.2.2.2.2.2.1)) 34 (u.2.2.2.2.2.2.2.2.2.2.2.1)) 35 (u.2.2.2.2.2.2.2.2.2.2.2.2.1)) vG)) (va_A (WR a k h0 vi vj vF vG) sz)) 0 0 (va_A (WR a k h0 vi vj vF vG) sz) := by
  refine Met.ofW (cc := cX12_readOne) (maxL := 3) (ret := none) (by decide) rfl ?_
  intro p e s m args below meth c s₁ B hml hv
  obtain ⟨rfl, hsz, hP, hK, hD0, hE⟩ := hv
  have hx := B.exec
  have hb := B.bytes
  have hr := B.returns
  have hts := atoms_spec (ws := wsRX12_readOne) B.pre
  have hown : s.vm.findClass RX12 = some m.cls := findClass_of_methodNamed B.named
  have hlocks := B.notSynchronized
  subst hsz
  have hD := hD0.self (sz := s.heap.size)
  generalize hAe : va_A (WR a k h0 vi vj vF vG) s.heap.size = A at hD hE ⊢
  have hA : ∀ q : Nat, s.heap.size ≤ q → A q := fun q h => by rw [← hAe]; exact Or.inr h
  have hS : va_S A s.heap s.heap [] := va_S.rf
  have hl := lv_entry ([.ref h0, .int (nI dN)]) (n := 3) (Nat.le_of_ble_eq_true rfl)
  rw [lg_entry_eq]
  generalize (lg_sl ([.ref h0, .int (nI dN)]) ++ List.replicate (3 - (lg_sl ([.ref h0, .int (nI dN)])).length) Slot.unset).toArray = ls at hl ⊢
  have hl : lv_has ls 3 [(0, .ref h0), (1, .int (nI dN))] := hl
  have hfa := hLx.1
  have han := hLx.2.1
  have han4 : an ≤ 4000 := by omega
  obtain ⟨⟨h39, _, h48⟩, hBel, ⟨h25, hwc⟩, hTq, hc1, hc2, hc3, hc4, hc5, hc6⟩ := hRT
  have hdd := hBel.deep
  refine lv_aload_n hx hb dX12_readOne_0 rfl (lv_at hl 0 rfl) ?_
  refine va_get (D := (dC, dI)) (ci := 12) (v := .ref (a 40)) (C := RX12) (T := TX12) (N := 163) (fs := fM (vS a vi vj)) hx hb hts iwsRX12_readOne_in12 hown hK hP 0 rfl rfl 65 (by decide) (hts _ hm_r_X12_readOne_0) (fun _ h9 => h9) rfl dX12_readOne_1 ?_
  refine lv_iload_n hx hb dX12_readOne_4 rfl (lv_at hl 1 rfl) ?_
  refine va_iald (cA := k 40) (n := 120) (f := (vF 40)) hx hb hK hP 41 40 (WR_get 40 (by decide)) (TR_get 40 (by decide)) (vp_in_nI (show dN < 120 by omega) (by omega)) dX12_readOne_5 ?_
  refine lv_topi (fun y1 hy1 => ?_)
  obtain rfl : ((vF 40) dN) = y1 := (hy1.trans (by rw [nI_clamp (by omega)])).symm
  by_cases s_6_0 : ((vF 40) dN) = 0
  · have ts_6_0 : (((vF 40) dN)).toInt = 0 := toI_eq s_6_0 rfl (by decide)
    refine lv_tableIn (off := 30) (tgt := 36) hx hb dX12_readOne_6 (by rw [s_6_0]; decide) (by rw [s_6_0]; decide) (by rw [s_6_0]; decide) (by decide) ?_
    have hz := hTq.one0 s_6_0
    have hK0 := RdK.first (gl := gl) hRV (by omega)
    refine lv_aload_n hx hb dX12_readOne_36 rfl (lv_at hl 0 rfl) ?_
    refine lv_bipush (v := 10) hx hb dX12_readOne_37 (by decide) ?_
    have hFc := allFree hD hS hA
    refine va_calli (va_runV (As := [.int 10]) (rest := []) ⟨hx, hb, hml, hown, hts⟩ (r_X12_isKey l dC dI a k h0 vi vj vF vG 10 s.heap.size) (cwV 1 hts gwsRX12_readOne_0 rfl rfl rfl hd_yX12_isKey_RX12 (by decide +kernel)) (fz_pre (va_recv hK hP (ci := 12) (q0 := 0) rfl rfl) hP hK hD) rfl rfl hl.1 rfl (lv_room (Nat.le_of_ble_eq_true rfl)) dX12_readOne_39 (by decide +kernel)) hS (fun q _ h => hFc q h) hFc (fun r39 u t9_ H locs ht hvm hw9 hB9 hz1 hk1 hS => ?_)
    have hP : va_P (dC, dI) vwCl (WR a k h0 vi vj vF vG) H := fz_P ht hB9.1
    have hD := fz_sd hP (hB9.2.weaken (fun _ q _ h => hFc q.1 h)) rfl
    rcases hw9 with ⟨rfl, f39_0, f39_1⟩ | ⟨rfl, f39_0⟩
    · have f39_0 : (vi 18).toInt = 2 := f39_0
      have f39_1 : (vi 20) = 10 := f39_1
      refine lv_if_eq (tgt := 64) hx hb dX12_readOne_42 (by decide) (fun c9 => absurd c9 (by decide)) (fun _ => ?_)
      have hx1 : xe = 1 := hz.2.2.2.2.2.2.2.1 (Int32.toInt_inj.mp (f39_0.trans (by decide))) f39_1
      have hfl : fn < an := hLx.2.2.1.resolve_left (fun h => by first | (rw [h] at f39_0; exact absurd f39_0 (by decide)))
      refine lv_aload_n hx hb dX12_readOne_45 rfl (lv_at hl 0 rfl) ?_
      refine va_get (D := (dC, dI)) (ci := 12) (v := .ref (a 40)) (C := RX12) (T := TX12) (N := 163) (fs := fM (vS a vi vj)) hx hb hts iwsRX12_readOne_in12 hown hK hP 0 rfl rfl 65 (by decide) (hts _ hm_r_X12_readOne_0) (fun _ h9 => h9) rfl dX12_readOne_46 ?_
      refine lv_iload_n hx hb dX12_readOne_49 rfl (lv_at hl 1 rfl) ?_
      refine lv_iconst (v := 1) hx hb dX12_readOne_50 (by decide) ?_
      refine va_iast (cA := k 40) (n := 120) (f := (vF 40)) hx hb hK hP hD hS 41 40 (WR_get 40 (by decide)) (TR_get 40 (by decide)) (vp_in_nI (show dN < 120 by omega) (by omega)) dX12_readOne_51 (fun H locs hP hD hS => ?_)
      have hP : va_P (dC, dI) vwCl (WR a k h0 vi vj (fT vF 40 (upd (vF 40) ((nI dN)).toNatClampNeg 1)) vG) H := fz_w (WR_F 40 (by decide) _ rfl) hP
      have hD : va_D A (WR a k h0 vi vj (fT vF 40 (upd (vF 40) ((nI dN)).toNatClampNeg 1)) vG) := fz_wD (WR_F 40 (by decide) _ rfl) hD
      refine lv_aload_n hx hb dX12_readOne_52 rfl (lv_at hl 0 rfl) ?_
      have hFc := allFree hD hS hA
      refine va_callv (va_runV (As := []) (rest := []) ⟨hx, hb, hml, hown, hts⟩ (r_X12_next l dC dI a k h0 vi vj (fT vF 40 (upd (vF 40) ((nI dN)).toNatClampNeg 1)) vG tp an hTp (by first | with_reducible assumption | decide | omega | rfl | assumption) ha0 (by first | with_reducible assumption | decide | omega | rfl | assumption) H.size) (cwV 0 hts gwsRX12_readOne_1 rfl rfl rfl hd_yX12_next_RX12 (by decide +kernel)) (fz_preE (va_recv hK hP (ci := 12) (q0 := 0) rfl rfl) hP hK hD (fun a U g mk qE => qE.same rfl) (fun U hU9 hW => by rw [hU9]; exact (((hE : StrA A s s.heap).kept hS.2.1).narrow (fun q h => hFc q h)).warm hW)) rfl rfl hl.1 rfl (lv_room (Nat.le_of_ble_eq_true rfl)) dX12_readOne_53 (by decide +kernel)) hS (fun q _ h => hFc q h) hFc (fun u t9_ H locs ht hvm hw9 hB9 hz1 hk1 hS => ?_)
      revert u hw9 hB9
      refine fz_p4 ?_
      intro a253 f253 sg53 wd53 hw9 hB9
      try dsimp only at hw9 hB9
      have hP : va_P (dC, dI) vwCl (WR a k h0 (fT (fT (fT (fT vi 17 (nI a253)) 19 (nI f253)) 20 sg53) 18 wd53) vj (fT vF 40 (upd (vF 40) ((nI dN)).toNatClampNeg 1)) vG) H := fz_P ht hB9.1
      have hD := fz_sd hP (hB9.2.weaken (fun _ q _ h => hFc q.1 h)) rfl
      revert hw9
      refine fz_a2 ?_
      intro f53_0 f53_1
      have hl1 := f53_0.1
      have hl2 := f53_0.2.1
      refine lv_aload_n hx hb dX12_readOne_56 rfl (lv_at hl 0 rfl) ?_
      refine lv_iconst (v := 3) hx hb dX12_readOne_57 (by decide) ?_
      have hFc := allFree hD hS hA
      refine va_callv (va_runV (As := [.int 3]) (rest := []) ⟨hx, hb, hml, hown, hts⟩ (r_X12_begin1 l dC dI a k h0 (fT (fT (fT (fT vi 17 (nI a253)) 19 (nI f253)) 20 sg53) 18 wd53) vj (fT vF 40 (upd (vF 40) ((nI dN)).toNatClampNeg 1)) vG 3 tp a253 f253 nm se pa va bd (dN + 1) wi hTp (by first | with_reducible assumption | decide | omega | rfl | assumption) rfl rfl (f53_0) (by first | with_reducible assumption | decide | omega | rfl | assumption) hnm (by first | with_reducible assumption | decide | omega | rfl | assumption) (by first | with_reducible assumption | decide | omega | rfl | assumption) (by first | with_reducible assumption | decide | omega | rfl | assumption) hbd (by first | with_reducible assumption | decide | omega | rfl | assumption) (by first | with_reducible assumption | decide | omega | rfl | assumption) (hdp) (by first | with_reducible assumption | decide | omega | rfl | assumption) hwi (by first | with_reducible assumption | decide | omega | rfl | assumption) H.size) (cwV 1 hts gwsRX12_readOne_2 rfl rfl rfl hd_yX12_begin1_RX12 (by decide +kernel)) (fz_pre (va_recv hK hP (ci := 12) (q0 := 0) rfl rfl) hP hK hD) rfl rfl hl.1 rfl (lv_room (Nat.le_of_ble_eq_true rfl)) dX12_readOne_58 (by decide +kernel)) hS (fun q _ h => hFc q h) hFc (fun u t9_ H locs ht hvm hw9 hB9 hz1 hk1 hS => ?_)
      revert u hw9 hB9
      refine fz_p10 ?_
      intro s258 p258 g3958 g4058 g4158 g4258 g4758 g4858 d258 w258 hw9 hB9
      try dsimp only at hw9 hB9
      have e9F : fT (fT (fT (fT (fT (fT vF 40 g4058) 39 g3958) 41 g4158) 42 g4258) 47 g4758) 48 g4858 = fT (fT (fT (fT (fT (fT (fT vF 40 (upd (vF 40) ((nI dN)).toNatClampNeg 1)) 39 g3958) 40 g4058) 41 g4158) 42 g4258) 47 g4758) 48 g4858 := (congrArg (fun g9 => fT (fT (fT (fT g9 41 g4158) 42 g4258) 47 g4758) 48 g4858) ((fT_sw _ _ _ (Nat.ne_of_beq_eq_false rfl)).trans (congrArg (fun g9 => fT g9 39 g3958) (fT_sm _ _ _ _)))).symm
      have hP := wr_PF e9F (fz_P ht hB9.1)
      have hD := wr_DF e9F (hB9.2.weaken (fun _ q _ h => hFc q.1 h))
      clear e9F
      revert hw9
      refine fz_a4 ?_
      intro f58_0 f58_1 f58_2 f58_3
      have f58_1 : 0 < (s258).toInt ∨ (s258 = (vi 21) ∧ BgO 3 wd53 sg53 g3958 g4058 g4158 g4258 g4858 (dN + 1) wi d258 w258) := f58_1
      have f58_2 : FrmO (dN + 1) (vF 39) (upd (vF 40) ((nI dN)).toNatClampNeg 1) (vF 41) (vF 42) (vF 48) g3958 g4058 g4158 g4258 g4858 := f58_2
      refine lv_goto (tgt := 314) hx hb dX12_readOne_61 (by decide) ?_
      refine W.widen (k := 0) (n := 0) (by decide +kernel) (by decide +kernel) ?_
      have e9 : fT (fT (fT (fT (fT (fT (fT (fT (fT (fT (fT vi 17 (nI a253)) 19 (nI f253)) 20 sg53) 18 wd53) 21 s258) 22 p258) 74 (nI d258)) 75 (nI w258)) 76 (vi 76)) 77 (vi 77)) 52 (nI nd) = fT (fT (fT (fT (fT (fT (fT (fT vi 17 (nI a253)) 19 (nI f253)) 20 sg53) 18 wd53) 75 (nI w258)) 74 (nI d258)) 21 s258) 22 p258 := Eq.trans (mv_2 rfl) (Eq.trans (id_10 rfl) (Eq.trans (mv_1 rfl) (Eq.trans (id_9 rfl) (Eq.trans (congrArg (fT _ 52) (show nI nd = vi 52 from (by first | with_reducible rfl | with_reducible assumption | (symm; with_reducible assumption) | rfl | assumption | (symm; assumption) | (subst_vars; rfl)))) (Eq.trans (id_8 rfl) (Eq.trans (mv_1 rfl) (Eq.trans (mv_3 rfl) (mv_3 rfl))))))))
      have hP := wr_Pi e9 hP
      have hD := wr_Di e9 hD
      clear e9
      have e9 : fT (fT (fT (fT (fT (fT (fT (fT (fT (fT (fT (fT (fT (fT (fT vF 41 g4158) 46 (vF 46)) 43 (vF 43)) 40 g4058) 39 g3958) 42 g4258) 47 g4758) 48 g4858) 29 (vF 29)) 30 (vF 30)) 31 (vF 31)) 32 (vF 32)) 33 (vF 33)) 34 (vF 34)) 35 (vF 35) = fT (fT (fT (fT (fT (fT vF 40 g4058) 39 g3958) 41 g4158) 42 g4258) 47 g4758) 48 g4858 := Eq.trans (mv_13 rfl) (Eq.trans (id_14 rfl) (Eq.trans (mv_12 rfl) (Eq.trans (id_13 rfl) (Eq.trans (mv_6 rfl) (Eq.trans (id_12 rfl) (Eq.trans (mv_5 rfl) (Eq.trans (id_11 rfl) (Eq.trans (mv_4 rfl) (Eq.trans (id_10 rfl) (Eq.trans (mv_3 rfl) (Eq.trans (id_9 rfl) (Eq.trans (mv_2 rfl) (Eq.trans (id_8 rfl) (Eq.trans (mv_1 rfl) (Eq.trans (id_7 rfl) (Eq.trans (id_6 rfl) (Eq.trans (mv_4 rfl) (Eq.trans (mv_4 rfl) (Eq.trans (mv_5 rfl) (Eq.trans (mv_5 rfl) (Eq.trans (mv_5 rfl) (mv_5 rfl))))))))))))))))))))))
      have hP := wr_PF e9 hP
      have hD := wr_DF e9 hD
      clear e9
      exact W.vret hx hb hr (fun t9_ ht hW => ⟨⟨(a253, f253, sg53, wd53, s258, p258, (vF 29), (vF 30), (vF 31), (vF 32), (vF 33), (vF 34), (vF 35), g3958, g4058, g4158, g4258, (vF 43), (vF 46), g4758, g4858, d258, w258, nd, (vi 76), (vi 77), gG), rfl, by (try dsimp only); exact ⟨f53_0, by omega, f58_0, by rcases f58_1 with h9 | h9; (exact Or.inl h9); (exact Or.inr ⟨RdS.push (gm := gl) hK0.1 hBel hK0.2.1 (Nat.le_refl _) (fun q hq => ⟨rfl, by rw [upd_at (by omega), if_neg (by omega)], rfl, rfl, rfl⟩) h39 (by decide) h48 (by omega) ⟨⟨by omega, fun h8 => absurd rfl h8, fun _ => by omega, Nat.le_refl _⟩, Or.inr (Or.inr (Or.inr (Or.inr (Or.inr (Or.inr (Or.inr (Or.inr (Or.inl ⟨rfl, rfl, by rw [upd_at (by omega), if_pos rfl], rfl, rfl, rfl⟩))))))))⟩ f58_2 (by rw [← hwc]; exact h9.2) (show (3 : Int32) = nI 3 by decide) (by decide) (by omega) (by omega) (by omega) (by omega) (by omega) (by show 10 * (4000 - _) + dN + 1 + 5 ≤ mM - 1; omega), hK0.2.1.less (Nat.zero_le _)⟩), by omega⟩, by rw [ht]; exact hP, hD⟩, hS.F ht⟩) hS.2.2 dX12_readOne_314
    · have f39_0 : ¬ ((vi 18).toInt = 2 ∧ (vi 20) = 10) := f39_0
      refine lv_if_eq (tgt := 64) hx hb dX12_readOne_42 (by decide) (fun _ => ?_) (fun c9 => absurd (by decide) c9)
      refine lv_aload_n hx hb dX12_readOne_64 rfl (lv_at hl 0 rfl) ?_
      refine lv_bipush (v := 123) hx hb dX12_readOne_65 (by decide) ?_
      have hFc := allFree hD hS hA
      refine va_calli (va_runV (As := [.int 123]) (rest := []) ⟨hx, hb, hml, hown, hts⟩ (r_X12_isSign l dC dI a k h0 vi vj vF vG 123 H.size) (cwV 1 hts gwsRX12_readOne_3 rfl rfl rfl hd_yX12_isSign_RX12 (by decide +kernel)) (fz_pre (va_recv hK hP (ci := 12) (q0 := 0) rfl rfl) hP hK hD) rfl rfl hl.1 rfl (lv_room (Nat.le_of_ble_eq_true rfl)) dX12_readOne_67 (by decide +kernel)) hS (fun q _ h => hFc q h) hFc (fun r67 u t9_ H locs ht hvm hw9 hB9 hz1 hk1 hS => ?_)
      have hP : va_P (dC, dI) vwCl (WR a k h0 vi vj vF vG) H := fz_P ht hB9.1
      have hD := fz_sd hP (hB9.2.weaken (fun _ q _ h => hFc q.1 h)) rfl
      rcases hw9 with ⟨rfl, f67_0, f67_1⟩ | ⟨rfl, f67_0⟩
      · have f67_0 : (vi 18).toInt = 4 := f67_0
        have f67_1 : (vi 20) = 123 := f67_1
        refine lv_if_eq (tgt := 92) hx hb dX12_readOne_70 (by decide) (fun c9 => absurd c9 (by decide)) (fun _ => ?_)
        have hfl : fn < an := hLx.2.2.1.resolve_left (fun h => by first | (rw [h] at f67_0; exact absurd f67_0 (by decide)))
        refine lv_aload_n hx hb dX12_readOne_73 rfl (lv_at hl 0 rfl) ?_
        refine va_get (D := (dC, dI)) (ci := 12) (v := .ref (a 40)) (C := RX12) (T := TX12) (N := 163) (fs := fM (vS a vi vj)) hx hb hts iwsRX12_readOne_in12 hown hK hP 0 rfl rfl 65 (by decide) (hts _ hm_r_X12_readOne_0) (fun _ h9 => h9) rfl dX12_readOne_74 ?_
        refine lv_iload_n hx hb dX12_readOne_77 rfl (lv_at hl 1 rfl) ?_
        refine lv_iconst (v := 2) hx hb dX12_readOne_78 (by decide) ?_
        refine va_iast (cA := k 40) (n := 120) (f := (vF 40)) hx hb hK hP hD hS 41 40 (WR_get 40 (by decide)) (TR_get 40 (by decide)) (vp_in_nI (show dN < 120 by omega) (by omega)) dX12_readOne_79 (fun H locs hP hD hS => ?_)
        have hP : va_P (dC, dI) vwCl (WR a k h0 vi vj (fT vF 40 (upd (vF 40) ((nI dN)).toNatClampNeg 2)) vG) H := fz_w (WR_F 40 (by decide) _ rfl) hP
        have hD : va_D A (WR a k h0 vi vj (fT vF 40 (upd (vF 40) ((nI dN)).toNatClampNeg 2)) vG) := fz_wD (WR_F 40 (by decide) _ rfl) hD
        refine lv_aload_n hx hb dX12_readOne_80 rfl (lv_at hl 0 rfl) ?_
        have hFc := allFree hD hS hA
        refine va_callv (va_runV (As := []) (rest := []) ⟨hx, hb, hml, hown, hts⟩ (r_X12_next l dC dI a k h0 vi vj (fT vF 40 (upd (vF 40) ((nI dN)).toNatClampNeg 2)) vG tp an hTp (by first | with_reducible assumption | decide | omega | rfl | assumption) ha0 (by first | with_reducible assumption | decide | omega | rfl | assumption) H.size) (cwV 0 hts gwsRX12_readOne_1 rfl rfl rfl hd_yX12_next_RX12 (by decide +kernel)) (fz_preE (va_recv hK hP (ci := 12) (q0 := 0) rfl rfl) hP hK hD (fun a U g mk qE => qE.same rfl) (fun U hU9 hW => by rw [hU9]; exact (((hE : StrA A s s.heap).kept hS.2.1).narrow (fun q h => hFc q h)).warm hW)) rfl rfl hl.1 rfl (lv_room (Nat.le_of_ble_eq_true rfl)) dX12_readOne_81 (by decide +kernel)) hS (fun q _ h => hFc q h) hFc (fun u t9_ H locs ht hvm hw9 hB9 hz1 hk1 hS => ?_)
        revert u hw9 hB9
        refine fz_p4 ?_
        intro a281 f281 sg81 wd81 hw9 hB9
        try dsimp only at hw9 hB9
        have hP : va_P (dC, dI) vwCl (WR a k h0 (fT (fT (fT (fT vi 17 (nI a281)) 19 (nI f281)) 20 sg81) 18 wd81) vj (fT vF 40 (upd (vF 40) ((nI dN)).toNatClampNeg 2)) vG) H := fz_P ht hB9.1
        have hD := fz_sd hP (hB9.2.weaken (fun _ q _ h => hFc q.1 h)) rfl
        revert hw9
        refine fz_a2 ?_
        intro f81_0 f81_1
        have hl1 := f81_0.1
        have hl2 := f81_0.2.1
        refine lv_aload_n hx hb dX12_readOne_84 rfl (lv_at hl 0 rfl) ?_
        refine lv_iconst (v := 2) hx hb dX12_readOne_85 (by decide) ?_
        have hFc := allFree hD hS hA
        refine va_callv (va_runV (As := [.int 2]) (rest := []) ⟨hx, hb, hml, hown, hts⟩ (r_X12_begin1 l dC dI a k h0 (fT (fT (fT (fT vi 17 (nI a281)) 19 (nI f281)) 20 sg81) 18 wd81) vj (fT vF 40 (upd (vF 40) ((nI dN)).toNatClampNeg 2)) vG 2 tp a281 f281 nm se pa va bd (dN + 1) wi hTp (by first | with_reducible assumption | decide | omega | rfl | assumption) rfl rfl (f81_0) (by first | with_reducible assumption | decide | omega | rfl | assumption) hnm (by first | with_reducible assumption | decide | omega | rfl | assumption) (by first | with_reducible assumption | decide | omega | rfl | assumption) (by first | with_reducible assumption | decide | omega | rfl | assumption) hbd (by first | with_reducible assumption | decide | omega | rfl | assumption) (by first | with_reducible assumption | decide | omega | rfl | assumption) (hdp) (by first | with_reducible assumption | decide | omega | rfl | assumption) hwi (by first | with_reducible assumption | decide | omega | rfl | assumption) H.size) (cwV 1 hts gwsRX12_readOne_2 rfl rfl rfl hd_yX12_begin1_RX12 (by decide +kernel)) (fz_pre (va_recv hK hP (ci := 12) (q0 := 0) rfl rfl) hP hK hD) rfl rfl hl.1 rfl (lv_room (Nat.le_of_ble_eq_true rfl)) dX12_readOne_86 (by decide +kernel)) hS (fun q _ h => hFc q h) hFc (fun u t9_ H locs ht hvm hw9 hB9 hz1 hk1 hS => ?_)
        revert u hw9 hB9
        refine fz_p10 ?_
        intro s286 p286 g3986 g4086 g4186 g4286 g4786 g4886 d286 w286 hw9 hB9
        try dsimp only at hw9 hB9
        have e9F : fT (fT (fT (fT (fT (fT vF 40 g4086) 39 g3986) 41 g4186) 42 g4286) 47 g4786) 48 g4886 = fT (fT (fT (fT (fT (fT (fT vF 40 (upd (vF 40) ((nI dN)).toNatClampNeg 2)) 39 g3986) 40 g4086) 41 g4186) 42 g4286) 47 g4786) 48 g4886 := (congrArg (fun g9 => fT (fT (fT (fT g9 41 g4186) 42 g4286) 47 g4786) 48 g4886) ((fT_sw _ _ _ (Nat.ne_of_beq_eq_false rfl)).trans (congrArg (fun g9 => fT g9 39 g3986) (fT_sm _ _ _ _)))).symm
        have hP := wr_PF e9F (fz_P ht hB9.1)
        have hD := wr_DF e9F (hB9.2.weaken (fun _ q _ h => hFc q.1 h))
        clear e9F
        revert hw9
        refine fz_a4 ?_
        intro f86_0 f86_1 f86_2 f86_3
        have f86_1 : 0 < (s286).toInt ∨ (s286 = (vi 21) ∧ BgO 2 wd81 sg81 g3986 g4086 g4186 g4286 g4886 (dN + 1) wi d286 w286) := f86_1
        have f86_2 : FrmO (dN + 1) (vF 39) (upd (vF 40) ((nI dN)).toNatClampNeg 2) (vF 41) (vF 42) (vF 48) g3986 g4086 g4186 g4286 g4886 := f86_2
        refine lv_goto (tgt := 314) hx hb dX12_readOne_89 (by decide) ?_
        refine W.widen (k := 0) (n := 0) (by decide +kernel) (by decide +kernel) ?_
        have e9 : fT (fT (fT (fT (fT (fT (fT (fT (fT (fT (fT vi 17 (nI a281)) 19 (nI f281)) 20 sg81) 18 wd81) 21 s286) 22 p286) 74 (nI d286)) 75 (nI w286)) 76 (vi 76)) 77 (vi 77)) 52 (nI nd) = fT (fT (fT (fT (fT (fT (fT (fT vi 17 (nI a281)) 19 (nI f281)) 20 sg81) 18 wd81) 75 (nI w286)) 74 (nI d286)) 21 s286) 22 p286 := Eq.trans (mv_2 rfl) (Eq.trans (id_10 rfl) (Eq.trans (mv_1 rfl) (Eq.trans (id_9 rfl) (Eq.trans (congrArg (fT _ 52) (show nI nd = vi 52 from (by first | with_reducible rfl | with_reducible assumption | (symm; with_reducible assumption) | rfl | assumption | (symm; assumption) | (subst_vars; rfl)))) (Eq.trans (id_8 rfl) (Eq.trans (mv_1 rfl) (Eq.trans (mv_3 rfl) (mv_3 rfl))))))))
        have hP := wr_Pi e9 hP
        have hD := wr_Di e9 hD
        clear e9
        have e9 : fT (fT (fT (fT (fT (fT (fT (fT (fT (fT (fT (fT (fT (fT (fT vF 41 g4186) 46 (vF 46)) 43 (vF 43)) 40 g4086) 39 g3986) 42 g4286) 47 g4786) 48 g4886) 29 (vF 29)) 30 (vF 30)) 31 (vF 31)) 32 (vF 32)) 33 (vF 33)) 34 (vF 34)) 35 (vF 35) = fT (fT (fT (fT (fT (fT vF 40 g4086) 39 g3986) 41 g4186) 42 g4286) 47 g4786) 48 g4886 := Eq.trans (mv_13 rfl) (Eq.trans (id_14 rfl) (Eq.trans (mv_12 rfl) (Eq.trans (id_13 rfl) (Eq.trans (mv_6 rfl) (Eq.trans (id_12 rfl) (Eq.trans (mv_5 rfl) (Eq.trans (id_11 rfl) (Eq.trans (mv_4 rfl) (Eq.trans (id_10 rfl) (Eq.trans (mv_3 rfl) (Eq.trans (id_9 rfl) (Eq.trans (mv_2 rfl) (Eq.trans (id_8 rfl) (Eq.trans (mv_1 rfl) (Eq.trans (id_7 rfl) (Eq.trans (id_6 rfl) (Eq.trans (mv_4 rfl) (Eq.trans (mv_4 rfl) (Eq.trans (mv_5 rfl) (Eq.trans (mv_5 rfl) (Eq.trans (mv_5 rfl) (mv_5 rfl))))))))))))))))))))))
        have hP := wr_PF e9 hP
        have hD := wr_DF e9 hD
        clear e9
        exact W.vret hx hb hr (fun t9_ ht hW => ⟨⟨(a281, f281, sg81, wd81, s286, p286, (vF 29), (vF 30), (vF 31), (vF 32), (vF 33), (vF 34), (vF 35), g3986, g4086, g4186, g4286, (vF 43), (vF 46), g4786, g4886, d286, w286, nd, (vi 76), (vi 77), gG), rfl, by (try dsimp only); exact ⟨f81_0, by omega, f86_0, by rcases f86_1 with h9 | h9; (exact Or.inl h9); (exact Or.inr ⟨RdS.push (gm := gl) hK0.1 hBel hK0.2.1 (Nat.le_refl _) (fun q hq => ⟨rfl, by rw [upd_at (by omega), if_neg (by omega)], rfl, rfl, rfl⟩) h39 (by decide) h48 (by omega) ⟨⟨by omega, fun h8 => absurd rfl h8, fun h8 => absurd h8 (by decide), Nat.le_refl _⟩, Or.inr (Or.inr (Or.inr (Or.inr (Or.inr (Or.inr (Or.inr (Or.inr (Or.inr (Or.inl ⟨rfl, rfl, by rw [upd_at (by omega), if_pos rfl], rfl, rfl, rfl⟩)))))))))⟩ f86_2 (by rw [← hwc]; exact h9.2) (show (2 : Int32) = nI 2 by decide) (by decide) (by omega) (by omega) (by omega) (by omega) (by omega) (by show 10 * (4000 - _) + dN + 1 + 7 ≤ mM - 1; omega), hK0.2.1.less (Nat.zero_le _)⟩), by omega⟩, by rw [ht]; exact hP, hD⟩, hS.F ht⟩) hS.2.2 dX12_readOne_314
      · have f67_0 : ¬ ((vi 18).toInt = 4 ∧ (vi 20) = 123) := f67_0
        refine lv_if_eq (tgt := 92) hx hb dX12_readOne_70 (by decide) (fun _ => ?_) (fun c9 => absurd (by decide) c9)
        refine lv_aload_n hx hb dX12_readOne_92 rfl (lv_at hl 0 rfl) ?_
        refine va_get (D := (dC, dI)) (ci := 12) (v := .ref (a 40)) (C := RX12) (T := TX12) (N := 163) (fs := fM (vS a vi vj)) hx hb hts iwsRX12_readOne_in12 hown hK hP 0 rfl rfl 65 (by decide) (hts _ hm_r_X12_readOne_0) (fun _ h9 => h9) rfl dX12_readOne_93 ?_
        refine lv_iload_n hx hb dX12_readOne_96 rfl (lv_at hl 1 rfl) ?_
        refine lv_iconst (v := 3) hx hb dX12_readOne_97 (by decide) ?_
        refine va_iast (cA := k 40) (n := 120) (f := (vF 40)) hx hb hK hP hD hS 41 40 (WR_get 40 (by decide)) (TR_get 40 (by decide)) (vp_in_nI (show dN < 120 by omega) (by omega)) dX12_readOne_98 (fun H locs hP hD hS => ?_)
        have hP : va_P (dC, dI) vwCl (WR a k h0 vi vj (fT vF 40 (upd (vF 40) ((nI dN)).toNatClampNeg 3)) vG) H := fz_w (WR_F 40 (by decide) _ rfl) hP
        have hD : va_D A (WR a k h0 vi vj (fT vF 40 (upd (vF 40) ((nI dN)).toNatClampNeg 3)) vG) := fz_wD (WR_F 40 (by decide) _ rfl) hD
        refine lv_aload_n hx hb dX12_readOne_99 rfl (lv_at hl 0 rfl) ?_
        refine lv_iconst (v := 0) hx hb dX12_readOne_100 (by decide) ?_
        have hFc := allFree hD hS hA
        refine va_callv (va_runV (As := [.int 0]) (rest := []) ⟨hx, hb, hml, hown, hts⟩ (r_X12_begin1 l dC dI a k h0 vi vj (fT vF 40 (upd (vF 40) ((nI dN)).toNatClampNeg 3)) vG 0 tp an fn nm se pa va bd (dN + 1) wi hTp (by first | with_reducible assumption | decide | omega | rfl | assumption) ha0 hfr (by first | with_reducible assumption | decide | omega | rfl | assumption) (by first | with_reducible assumption | decide | omega | rfl | assumption) hnm (by first | with_reducible assumption | decide | omega | rfl | assumption) (by first | with_reducible assumption | decide | omega | rfl | assumption) (by first | with_reducible assumption | decide | omega | rfl | assumption) hbd (by first | with_reducible assumption | decide | omega | rfl | assumption) (by first | with_reducible assumption | decide | omega | rfl | assumption) (hdp) (by first | with_reducible assumption | decide | omega | rfl | assumption) hwi (by first | with_reducible assumption | decide | omega | rfl | assumption) H.size) (cwV 1 hts gwsRX12_readOne_2 rfl rfl rfl hd_yX12_begin1_RX12 (by decide +kernel)) (fz_pre (va_recv hK hP (ci := 12) (q0 := 0) rfl rfl) hP hK hD) rfl rfl hl.1 rfl (lv_room (Nat.le_of_ble_eq_true rfl)) dX12_readOne_101 (by decide +kernel)) hS (fun q _ h => hFc q h) hFc (fun u t9_ H locs ht hvm hw9 hB9 hz1 hk1 hS => ?_)
        revert u hw9 hB9
        refine fz_p10 ?_
        intro s2101 p2101 g39101 g40101 g41101 g42101 g47101 g48101 d2101 w2101 hw9 hB9
        try dsimp only at hw9 hB9
        have e9F : fT (fT (fT (fT (fT (fT vF 40 g40101) 39 g39101) 41 g41101) 42 g42101) 47 g47101) 48 g48101 = fT (fT (fT (fT (fT (fT (fT vF 40 (upd (vF 40) ((nI dN)).toNatClampNeg 3)) 39 g39101) 40 g40101) 41 g41101) 42 g42101) 47 g47101) 48 g48101 := (congrArg (fun g9 => fT (fT (fT (fT g9 41 g41101) 42 g42101) 47 g47101) 48 g48101) ((fT_sw _ _ _ (Nat.ne_of_beq_eq_false rfl)).trans (congrArg (fun g9 => fT g9 39 g39101) (fT_sm _ _ _ _)))).symm
        have hP := wr_PF e9F (fz_P ht hB9.1)
        have hD := wr_DF e9F (hB9.2.weaken (fun _ q _ h => hFc q.1 h))
        clear e9F
        revert hw9
        refine fz_a4 ?_
        intro f101_0 f101_1 f101_2 f101_3
        have f101_1 : 0 < (s2101).toInt ∨ (s2101 = (vi 21) ∧ BgO 0 (vi 18) (vi 20) g39101 g40101 g41101 g42101 g48101 (dN + 1) wi d2101 w2101) := f101_1
        have f101_2 : FrmO (dN + 1) (vF 39) (upd (vF 40) ((nI dN)).toNatClampNeg 3) (vF 41) (vF 42) (vF 48) g39101 g40101 g41101 g42101 g48101 := f101_2
        refine lv_goto (tgt := 314) hx hb dX12_readOne_104 (by decide) ?_
        refine W.widen (k := 0) (n := 0) (by decide +kernel) (by decide +kernel) ?_
        have e9 : fT (fT (fT (fT (fT (fT (fT (fT (fT (fT (fT vi 17 (nI an)) 19 (nI fn)) 20 (vi 20)) 18 (vi 18)) 21 s2101) 22 p2101) 74 (nI d2101)) 75 (nI w2101)) 76 (vi 76)) 77 (vi 77)) 52 (nI nd) = fT (fT (fT (fT vi 75 (nI w2101)) 74 (nI d2101)) 21 s2101) 22 p2101 := Eq.trans (mv_10 rfl) (Eq.trans (congrArg (fT _ 17) (show nI an = vi 17 from (by first | with_reducible rfl | with_reducible assumption | (symm; with_reducible assumption) | rfl | assumption | (symm; assumption) | (subst_vars; rfl)))) (Eq.trans (id_10 rfl) (Eq.trans (mv_9 rfl) (Eq.trans (congrArg (fT _ 19) (show nI fn = vi 19 from (by first | with_reducible rfl | with_reducible assumption | (symm; with_reducible assumption) | rfl | assumption | (symm; assumption) | (subst_vars; rfl)))) (Eq.trans (id_9 rfl) (Eq.trans (mv_8 rfl) (Eq.trans (id_8 rfl) (Eq.trans (mv_7 rfl) (Eq.trans (id_7 rfl) (Eq.trans (mv_2 rfl) (Eq.trans (id_6 rfl) (Eq.trans (mv_1 rfl) (Eq.trans (id_5 rfl) (Eq.trans (congrArg (fT _ 52) (show nI nd = vi 52 from (by first | with_reducible rfl | with_reducible assumption | (symm; with_reducible assumption) | rfl | assumption | (symm; assumption) | (subst_vars; rfl)))) (Eq.trans (id_4 rfl) (Eq.trans (mv_1 rfl) (Eq.trans (mv_3 rfl) (mv_3 rfl))))))))))))))))))
        have hP := wr_Pi e9 hP
        have hD := wr_Di e9 hD
        clear e9
        have e9 : fT (fT (fT (fT (fT (fT (fT (fT (fT (fT (fT (fT (fT (fT (fT vF 41 g41101) 46 (vF 46)) 43 (vF 43)) 40 g40101) 39 g39101) 42 g42101) 47 g47101) 48 g48101) 29 (vF 29)) 30 (vF 30)) 31 (vF 31)) 32 (vF 32)) 33 (vF 33)) 34 (vF 34)) 35 (vF 35) = fT (fT (fT (fT (fT (fT vF 40 g40101) 39 g39101) 41 g41101) 42 g42101) 47 g47101) 48 g48101 := Eq.trans (mv_13 rfl) (Eq.trans (id_14 rfl) (Eq.trans (mv_12 rfl) (Eq.trans (id_13 rfl) (Eq.trans (mv_6 rfl) (Eq.trans (id_12 rfl) (Eq.trans (mv_5 rfl) (Eq.trans (id_11 rfl) (Eq.trans (mv_4 rfl) (Eq.trans (id_10 rfl) (Eq.trans (mv_3 rfl) (Eq.trans (id_9 rfl) (Eq.trans (mv_2 rfl) (Eq.trans (id_8 rfl) (Eq.trans (mv_1 rfl) (Eq.trans (id_7 rfl) (Eq.trans (id_6 rfl) (Eq.trans (mv_4 rfl) (Eq.trans (mv_4 rfl) (Eq.trans (mv_5 rfl) (Eq.trans (mv_5 rfl) (Eq.trans (mv_5 rfl) (mv_5 rfl))))))))))))))))))))))
        have hP := wr_PF e9 hP
        have hD := wr_DF e9 hD
        clear e9
        exact W.vret hx hb hr (fun t9_ ht hW => ⟨⟨(an, fn, (vi 20), (vi 18), s2101, p2101, (vF 29), (vF 30), (vF 31), (vF 32), (vF 33), (vF 34), (vF 35), g39101, g40101, g41101, g42101, (vF 43), (vF 46), g47101, g48101, d2101, w2101, nd, (vi 76), (vi 77), gG), rfl, by (try dsimp only); exact ⟨hLx, by omega, f101_0, by rcases f101_1 with h9 | h9; (exact Or.inl h9); (exact Or.inr ⟨RdS.push (gm := gl) hK0.1 hBel hK0.2.1 (Nat.le_refl _) (fun q hq => ⟨rfl, by rw [upd_at (by omega), if_neg (by omega)], rfl, rfl, rfl⟩) h39 (by decide) h48 (by omega) ⟨⟨by omega, fun h8 => absurd rfl h8, fun h8 => absurd h8 (by decide), Nat.le_refl _⟩, Or.inr (Or.inr (Or.inr (Or.inr (Or.inr (Or.inr (Or.inr (Or.inr (Or.inr (Or.inr (Or.inl ⟨rfl, rfl, by rw [upd_at (by omega), if_pos rfl], rfl, rfl, rfl⟩))))))))))⟩ f101_2 (by rw [← hwc]; exact h9.2) (show (0 : Int32) = nI 0 by decide) (by decide) (by omega) (by omega) (by omega) (by omega) (by omega) (by show 10 * (4000 - _) + dN + 1 + 3 ≤ mM - 1; omega), hK0.2.1.less (Nat.zero_le _)⟩), by omega⟩, by rw [ht]; exact hP, hD⟩, hS.F ht⟩) hS.2.2 dX12_readOne_314
  · have ts_6_0 : ¬ (((vF 40) dN)).toInt = 0 := toI_neq s_6_0 rfl (by decide)
    by_cases s_6_1 : ((vF 40) dN) = 1
    · have ts_6_1 : (((vF 40) dN)).toInt = 1 := toI_eq s_6_1 rfl (by decide)
      refine lv_tableIn (off := 101) (tgt := 107) hx hb dX12_readOne_6 (by rw [s_6_1]; decide) (by rw [s_6_1]; decide) (by rw [s_6_1]; decide) (by decide) ?_
      obtain ⟨hq1, hq2, hq3, hq4, hq5, hq6, cR, hres, hcR⟩ := hTq.one1 s_6_1
      have hK0 := RdK.first (gl := gl) hRV (by omega)
      have hKK := hK0.mkNot (kv := 12) (av := nI cR) (bv := 0) (cv := 0) (by omega) (show (12 : Int32) = nI 12 by decide) rfl hcR (Nat.le_refl _)
      have hKN := hKK.1
      have hLN := hKK.2
      refine lv_aload_n hx hb dX12_readOne_107 rfl (lv_at hl 0 rfl) ?_
      refine lv_aload_n hx hb dX12_readOne_108 rfl (lv_at hl 0 rfl) ?_
      refine lv_bipush (v := 12) hx hb dX12_readOne_109 (by decide) ?_
      refine lv_aload_n hx hb dX12_readOne_111 rfl (lv_at hl 0 rfl) ?_
      refine va_get (D := (dC, dI)) (ci := 12) (v := .int (vi 76)) (C := RX12) (T := TX12) (N := 163) (fs := fM (vS a vi vj)) hx hb hts iwsRX12_readOne_in12 hown hK hP 0 rfl rfl 76 (by decide) (hts _ hm_r_X12_readOne_1) (fun _ h9 => h9) rfl dX12_readOne_112 ?_
      refine lv_topi (fun y2 hy2 => ?_)
      obtain rfl : (nI cR) = y2 := (hy2.trans (hres)).symm
      refine lv_iconst (v := 0) hx hb dX12_readOne_115 (by decide) ?_
      refine lv_iconst (v := 0) hx hb dX12_readOne_116 (by decide) ?_
      refine lv_iconst (v := 0) hx hb dX12_readOne_117 (by decide) ?_
      have hFc := allFree hD hS hA
      refine va_calli (va_runV (As := [.int 12, .int (nI cR), .int 0, .int 0, .int 0]) (rest := [.ref h0]) ⟨hx, hb, hml, hown, hts⟩ (r_X12_node l dC dI a k h0 vi vj vF vG nd 12 (nI cR) 0 0 0 hnd (by first | with_reducible assumption | decide | omega | rfl | assumption) s.heap.size) (cwV 5 hts gwsRX12_readOne_4 rfl rfl rfl hd_yX12_node_RX12 (by decide +kernel)) (fz_pre (va_recv hK hP (ci := 12) (q0 := 0) rfl rfl) hP hK hD) rfl rfl hl.1 rfl (lv_room (Nat.le_of_ble_eq_true rfl)) dX12_readOne_118 (by decide +kernel)) hS (fun q _ h => hFc q h) hFc (fun r118 u t9_ H locs ht hvm hw9 hB9 hz1 hk1 hS => ?_)
      have hP : va_P (dC, dI) vwCl (WR a k h0 (fT vi 52 (nI (nd + 1))) vj (fT (fT (fT (fT (fT (fT (fT vF 29 (upd (vF 29) (nI nd).toNatClampNeg 12)) 30 (upd (vF 30) (nI nd).toNatClampNeg (nI cR))) 31 (upd (vF 31) (nI nd).toNatClampNeg 0)) 32 (upd (vF 32) (nI nd).toNatClampNeg 0)) 33 (upd (vF 33) (nI nd).toNatClampNeg 0)) 34 (upd (vF 34) (nI nd).toNatClampNeg 0)) 35 (upd (vF 35) (nI nd).toNatClampNeg 0)) vG) H := fz_P ht hB9.1
      have hD := fz_sd hP (hB9.2.weaken (fun _ q _ h => hFc q.1 h)) rfl
      obtain rfl := hw9
      have hFc := allFree hD hS hA
      refine va_callv (va_runV (As := [.int (nI nd)]) (rest := []) ⟨hx, hb, hml, hown, hts⟩ (r_X12_end1w l dC dI a k h0 (fT vi 52 (nI (nd + 1))) vj (fT (fT (fT (fT (fT (fT (fT vF 29 (upd (vF 29) (nI nd).toNatClampNeg 12)) 30 (upd (vF 30) (nI nd).toNatClampNeg (nI cR))) 31 (upd (vF 31) (nI nd).toNatClampNeg 0)) 32 (upd (vF 32) (nI nd).toNatClampNeg 0)) 33 (upd (vF 33) (nI nd).toNatClampNeg 0)) 34 (upd (vF 34) (nI nd).toNatClampNeg 0)) 35 (upd (vF 35) (nI nd).toNatClampNeg 0)) vG (nI nd) dN wi xe (hdp) (by first | with_reducible assumption | decide | omega | rfl | assumption) hwi (by first | with_reducible assumption | decide | omega | rfl | assumption) (h48) (by first | with_reducible assumption | decide | omega | rfl | assumption) H.size) (cwV 1 hts gwsRX12_readOne_5 rfl rfl rfl hd_yX12_end1_RX12 (by decide +kernel)) (fz_pre (va_recv hK hP (ci := 12) (q0 := 0) rfl rfl) hP hK hD) rfl rfl hl.1 rfl (lv_room (Nat.le_of_ble_eq_true rfl)) dX12_readOne_121 (by decide +kernel)) hS (fun q _ h => hFc q h) hFc (fun u t9_ H locs ht hvm hw9 hB9 hz1 hk1 hS => ?_)
      have hP : va_P (dC, dI) vwCl (WR a k h0 (fT (fT (fT (fT (fT vi 52 (nI (nd + 1))) 74 (nI dN)) 75 (nI (wi - xe))) 76 (nI nd)) 77 ((vF 47) dN)) vj (fT (fT (fT (fT (fT (fT (fT vF 29 (upd (vF 29) (nI nd).toNatClampNeg 12)) 30 (upd (vF 30) (nI nd).toNatClampNeg (nI cR))) 31 (upd (vF 31) (nI nd).toNatClampNeg 0)) 32 (upd (vF 32) (nI nd).toNatClampNeg 0)) 33 (upd (vF 33) (nI nd).toNatClampNeg 0)) 34 (upd (vF 34) (nI nd).toNatClampNeg 0)) 35 (upd (vF 35) (nI nd).toNatClampNeg 0)) vG) H := fz_P ht hB9.1
      have hD := fz_sd hP (hB9.2.weaken (fun _ q _ h => hFc q.1 h)) rfl
      refine lv_goto (tgt := 314) hx hb dX12_readOne_124 (by decide) ?_
      refine W.widen (k := 0) (n := 0) (by decide +kernel) (by decide +kernel) ?_
      have e9 : fT (fT (fT (fT (fT (fT (fT (fT (fT (fT (fT vi 17 (nI an)) 19 (nI fn)) 20 (vi 20)) 18 (vi 18)) 21 (vi 21)) 22 (vi 22)) 74 (nI dN)) 75 (nI (wi - xe))) 76 (nI nd)) 77 ((vF 47) dN)) 52 (nI (nd + 1)) = fT (fT (fT (fT (fT vi 52 (nI (nd + 1))) 74 (nI dN)) 75 (nI (wi - xe))) 76 (nI nd)) 77 ((vF 47) dN) := Eq.trans (mv_10 rfl) (Eq.trans (congrArg (fT _ 17) (show nI an = vi 17 from (by first | with_reducible rfl | with_reducible assumption | (symm; with_reducible assumption) | rfl | assumption | (symm; assumption) | (subst_vars; rfl)))) (Eq.trans (id_10 rfl) (Eq.trans (mv_9 rfl) (Eq.trans (congrArg (fT _ 19) (show nI fn = vi 19 from (by first | with_reducible rfl | with_reducible assumption | (symm; with_reducible assumption) | rfl | assumption | (symm; assumption) | (subst_vars; rfl)))) (Eq.trans (id_9 rfl) (Eq.trans (mv_8 rfl) (Eq.trans (id_8 rfl) (Eq.trans (mv_7 rfl) (Eq.trans (id_7 rfl) (Eq.trans (mv_6 rfl) (Eq.trans (id_6 rfl) (Eq.trans (mv_5 rfl) (Eq.trans (id_5 rfl) (Eq.trans (mv_4 rfl) (Eq.trans (mv_4 rfl) (Eq.trans (mv_4 rfl) (mv_4 rfl)))))))))))))))))
      have hP := wr_Pi e9 hP
      have hD := wr_Di e9 hD
      clear e9
      have e9 : fT (fT (fT (fT (fT (fT (fT (fT (fT (fT (fT (fT (fT (fT (fT vF 41 (vF 41)) 46 (vF 46)) 43 (vF 43)) 40 (vF 40)) 39 (vF 39)) 42 (vF 42)) 47 (vF 47)) 48 (vF 48)) 29 (upd (vF 29) (nI nd).toNatClampNeg 12)) 30 (upd (vF 30) (nI nd).toNatClampNeg (nI cR))) 31 (upd (vF 31) (nI nd).toNatClampNeg 0)) 32 (upd (vF 32) (nI nd).toNatClampNeg 0)) 33 (upd (vF 33) (nI nd).toNatClampNeg 0)) 34 (upd (vF 34) (nI nd).toNatClampNeg 0)) 35 (upd (vF 35) (nI nd).toNatClampNeg 0) = fT (fT (fT (fT (fT (fT (fT vF 29 (upd (vF 29) (nI nd).toNatClampNeg 12)) 30 (upd (vF 30) (nI nd).toNatClampNeg (nI cR))) 31 (upd (vF 31) (nI nd).toNatClampNeg 0)) 32 (upd (vF 32) (nI nd).toNatClampNeg 0)) 33 (upd (vF 33) (nI nd).toNatClampNeg 0)) 34 (upd (vF 34) (nI nd).toNatClampNeg 0)) 35 (upd (vF 35) (nI nd).toNatClampNeg 0) := Eq.trans (mv_14 rfl) (Eq.trans (id_14 rfl) (Eq.trans (mv_13 rfl) (Eq.trans (id_13 rfl) (Eq.trans (mv_12 rfl) (Eq.trans (id_12 rfl) (Eq.trans (mv_11 rfl) (Eq.trans (id_11 rfl) (Eq.trans (mv_10 rfl) (Eq.trans (id_10 rfl) (Eq.trans (mv_9 rfl) (Eq.trans (id_9 rfl) (Eq.trans (mv_8 rfl) (Eq.trans (id_8 rfl) (Eq.trans (mv_7 rfl) (id_7 rfl)))))))))))))))
      have hP := wr_PF e9 hP
      have hD := wr_DF e9 hD
      clear e9
      exact W.vret hx hb hr (fun t9_ ht hW => ⟨⟨(an, fn, (vi 20), (vi 18), (vi 21), (vi 22), (upd (vF 29) (nI nd).toNatClampNeg 12), (upd (vF 30) (nI nd).toNatClampNeg (nI cR)), (upd (vF 31) (nI nd).toNatClampNeg 0), (upd (vF 32) (nI nd).toNatClampNeg 0), (upd (vF 33) (nI nd).toNatClampNeg 0), (upd (vF 34) (nI nd).toNatClampNeg 0), (upd (vF 35) (nI nd).toNatClampNeg 0), (vF 39), (vF 40), (vF 41), (vF 42), (vF 43), (vF 46), (vF 47), (vF 48), dN, (wi - xe), (nd + 1), (nI nd), ((vF 47) dN), (gG.add nd (gG.wt cR + 3) (51 - 2 * (cw + xe)) 0)), rfl, by (try dsimp only); exact ⟨hLx, Nat.le_refl _, hst0, Or.inr ⟨by (have e9 : wi - xe = cw := by omega); rw [e9]; exact RdS.pop (ex := xe) hKN.1 hBel hKN.2.1 (Nat.le_refl _) (fun q hq => ⟨rfl, rfl, rfl, rfl, rfl⟩) (by omega) (fun h8 => absurd rfl h8) (by decide) (Or.inr ⟨by decide, hLN⟩) (by omega) (by show gG.vN + 1 + un ≤ nd + 1; omega) (by omega) (by omega) hKN.2.2.2 (by omega), hKN.2.1.less (Nat.zero_le _)⟩, by omega⟩, by rw [ht]; exact hP, hD⟩, hS.F ht⟩) hS.2.2 dX12_readOne_314
    · have ts_6_1 : ¬ (((vF 40) dN)).toInt = 1 := toI_neq s_6_1 rfl (by decide)
      by_cases s_6_2 : ((vF 40) dN) = 2
      · have ts_6_2 : (((vF 40) dN)).toInt = 2 := toI_eq s_6_2 rfl (by decide)
        refine lv_tableIn (off := 121) (tgt := 127) hx hb dX12_readOne_6 (by rw [s_6_2]; decide) (by rw [s_6_2]; decide) (by rw [s_6_2]; decide) (by decide) ?_
        obtain ⟨hq1, hq2, hq3, hq4, hq5, hq6, hw24, cR, hres, hcR⟩ := hTq.one2 s_6_2
        have hK0 := RdK.first (gl := gl) hRV (by omega)
        refine lv_aload_n hx hb dX12_readOne_127 rfl (lv_at hl 0 rfl) ?_
        refine lv_bipush (v := 125) hx hb dX12_readOne_128 (by decide) ?_
        have hFc := allFree hD hS hA
        refine va_calli (va_runV (As := [.int 125]) (rest := []) ⟨hx, hb, hml, hown, hts⟩ (r_X12_needSign l dC dI a k h0 vi vj vF vG 125 tp an fn hTp (by first | with_reducible assumption | decide | omega | rfl | assumption) ha0 hfr (by first | with_reducible assumption | decide | omega | rfl | assumption) (by first | with_reducible assumption | decide | omega | rfl | assumption) s.heap.size) (cwV 1 hts gwsRX12_readOne_6 rfl rfl rfl hd_yX12_needSign_RX12 (by decide +kernel)) (fz_preE (va_recv hK hP (ci := 12) (q0 := 0) rfl rfl) hP hK hD (fun a U g mk qE => qE.same rfl) (fun U hU9 hW => by rw [hU9]; exact (((hE : StrA A s s.heap).kept hS.2.1).narrow (fun q h => hFc q h)).warm hW)) rfl rfl hl.1 rfl (lv_room (Nat.le_of_ble_eq_true rfl)) dX12_readOne_130 (by decide +kernel)) hS (fun q _ h => hFc q h) hFc (fun r130 u t9_ H locs ht hvm hw9 hB9 hz1 hk1 hS => ?_)
        revert u hw9 hB9
        refine fz_p6 ?_
        intro a2130 f2130 sg130 wd130 s2130 p2130 hw9 hB9
        try dsimp only at hw9 hB9
        have hP : va_P (dC, dI) vwCl (WR a k h0 (fT (fT (fT (fT (fT (fT vi 17 (nI a2130)) 19 (nI f2130)) 20 sg130) 18 wd130) 21 s2130) 22 p2130) vj vF vG) H := fz_P ht hB9.1
        have hD := fz_sd hP (hB9.2.weaken (fun _ q _ h => hFc q.1 h)) rfl
        rcases hw9 with ⟨rfl, f130_0, f130_1, f130_2, f130_3⟩ | ⟨rfl, f130_0, f130_1, f130_2⟩
        · have f130_3 : (vi 21) = 0 := f130_3
          refine lv_if_eq (tgt := 314) hx hb dX12_readOne_133 (by decide) (fun c9 => absurd c9 (by decide)) (fun _ => ?_)
          refine lv_aload_n hx hb dX12_readOne_136 rfl (lv_at hl 0 rfl) ?_
          refine lv_aload_n hx hb dX12_readOne_137 rfl (lv_at hl 0 rfl) ?_
          refine va_get (D := (dC, dI)) (ci := 12) (v := .int (vi 76)) (C := RX12) (T := TX12) (N := 163) (fs := fM (vS a (fT (fT (fT (fT (fT (fT vi 17 (nI a2130)) 19 (nI f2130)) 20 sg130) 18 wd130) 21 s2130) 22 p2130) vj)) hx hb hts iwsRX12_readOne_in12 hown hK hP 0 rfl rfl 76 (by decide) (hts _ hm_r_X12_readOne_1) (fun _ h9 => h9) rfl dX12_readOne_138 ?_
          refine lv_topi (fun y3 hy3 => ?_)
          obtain rfl : (nI cR) = y3 := (hy3.trans (hres)).symm
          have hFc := allFree hD hS hA
          refine va_callv (va_runV (As := [.int (nI cR)]) (rest := []) ⟨hx, hb, hml, hown, hts⟩ (r_X12_end1w l dC dI a k h0 (fT (fT (fT (fT (fT (fT vi 17 (nI a2130)) 19 (nI f2130)) 20 sg130) 18 wd130) 21 s2130) 22 p2130) vj vF vG (nI cR) dN wi xe (hdp) (by first | with_reducible assumption | decide | omega | rfl | assumption) hwi (by first | with_reducible assumption | decide | omega | rfl | assumption) (h48) (by first | with_reducible assumption | decide | omega | rfl | assumption) H.size) (cwV 1 hts gwsRX12_readOne_5 rfl rfl rfl hd_yX12_end1_RX12 (by decide +kernel)) (fz_pre (va_recv hK hP (ci := 12) (q0 := 0) rfl rfl) hP hK hD) rfl rfl hl.1 rfl (lv_room (Nat.le_of_ble_eq_true rfl)) dX12_readOne_141 (by decide +kernel)) hS (fun q _ h => hFc q h) hFc (fun u t9_ H locs ht hvm hw9 hB9 hz1 hk1 hS => ?_)
          have hP : va_P (dC, dI) vwCl (WR a k h0 (fT (fT (fT (fT (fT (fT (fT (fT (fT (fT vi 17 (nI a2130)) 19 (nI f2130)) 20 sg130) 18 wd130) 21 s2130) 22 p2130) 74 (nI dN)) 75 (nI (wi - xe))) 76 (nI cR)) 77 ((vF 47) dN)) vj vF vG) H := fz_P ht hB9.1
          have hD := fz_sd hP (hB9.2.weaken (fun _ q _ h => hFc q.1 h)) rfl
          refine lv_goto (tgt := 314) hx hb dX12_readOne_144 (by decide) ?_
          refine W.widen (k := 0) (n := 0) (by decide +kernel) (by decide +kernel) ?_
          have e9 : fT (fT (fT (fT (fT (fT (fT (fT (fT (fT (fT vi 17 (nI a2130)) 19 (nI f2130)) 20 sg130) 18 wd130) 21 s2130) 22 p2130) 74 (nI dN)) 75 (nI (wi - xe))) 76 (nI cR)) 77 ((vF 47) dN)) 52 (nI nd) = fT (fT (fT (fT (fT (fT (fT (fT (fT (fT vi 17 (nI a2130)) 19 (nI f2130)) 20 sg130) 18 wd130) 21 s2130) 22 p2130) 74 (nI dN)) 75 (nI (wi - xe))) 76 (nI cR)) 77 ((vF 47) dN) := Eq.trans (congrArg (fT _ 52) (show nI nd = vi 52 from (by first | with_reducible rfl | with_reducible assumption | (symm; with_reducible assumption) | rfl | assumption | (symm; assumption) | (subst_vars; rfl)))) (id_10 rfl)
          have hP := wr_Pi e9 hP
          have hD := wr_Di e9 hD
          clear e9
          have e9 : fT (fT (fT (fT (fT (fT (fT (fT (fT (fT (fT (fT (fT (fT (fT vF 41 (vF 41)) 46 (vF 46)) 43 (vF 43)) 40 (vF 40)) 39 (vF 39)) 42 (vF 42)) 47 (vF 47)) 48 (vF 48)) 29 (vF 29)) 30 (vF 30)) 31 (vF 31)) 32 (vF 32)) 33 (vF 33)) 34 (vF 34)) 35 (vF 35) = vF := Eq.trans (mv_14 rfl) (Eq.trans (id_14 rfl) (Eq.trans (mv_13 rfl) (Eq.trans (id_13 rfl) (Eq.trans (mv_12 rfl) (Eq.trans (id_12 rfl) (Eq.trans (mv_11 rfl) (Eq.trans (id_11 rfl) (Eq.trans (mv_10 rfl) (Eq.trans (id_10 rfl) (Eq.trans (mv_9 rfl) (Eq.trans (id_9 rfl) (Eq.trans (mv_8 rfl) (Eq.trans (id_8 rfl) (Eq.trans (mv_7 rfl) (Eq.trans (id_7 rfl) (Eq.trans (mv_6 rfl) (Eq.trans (id_6 rfl) (Eq.trans (mv_5 rfl) (Eq.trans (id_5 rfl) (Eq.trans (mv_4 rfl) (Eq.trans (id_4 rfl) (Eq.trans (mv_3 rfl) (Eq.trans (id_3 rfl) (Eq.trans (mv_2 rfl) (Eq.trans (id_2 rfl) (Eq.trans (mv_1 rfl) (Eq.trans (id_1 rfl) (id_0 rfl))))))))))))))))))))))))))))
          have hP := wr_PF e9 hP
          have hD := wr_DF e9 hD
          clear e9
          exact W.vret hx hb hr (fun t9_ ht hW => ⟨⟨(a2130, f2130, sg130, wd130, s2130, p2130, (vF 29), (vF 30), (vF 31), (vF 32), (vF 33), (vF 34), (vF 35), (vF 39), (vF 40), (vF 41), (vF 42), (vF 43), (vF 46), (vF 47), (vF 48), dN, (wi - xe), nd, (nI cR), ((vF 47) dN), gG), rfl, by (try dsimp only); exact ⟨f130_1, by omega, by rw [f130_0]; decide, Or.inr ⟨by (have e9 : wi - xe = cw := by omega); rw [e9]; exact RdS.pop (ex := xe) hK0.1 hBel hK0.2.1 (Nat.le_refl _) (fun q hq => ⟨rfl, rfl, rfl, rfl, rfl⟩) (by omega) (fun h8 => absurd rfl h8) (by decide) (Or.inr ⟨by decide, hcR.mono (by omega)⟩) (by omega) (by omega) (by omega) (by omega) hK0.2.2.2 (by omega), hK0.2.1.less (Nat.zero_le _)⟩, by omega⟩, by rw [ht]; exact hP, hD⟩, hS.F ht⟩) hS.2.2 dX12_readOne_314
        · refine lv_if_eq (tgt := 314) hx hb dX12_readOne_133 (by decide) (fun _ => ?_) (fun c9 => absurd (by decide) c9)
          refine W.widen (k := 0) (n := 0) (by decide +kernel) (by decide +kernel) ?_
          have e9 : fT (fT (fT (fT (fT (fT (fT (fT (fT (fT (fT vi 17 (nI a2130)) 19 (nI f2130)) 20 sg130) 18 wd130) 21 s2130) 22 p2130) 74 (nI (dN + 1))) 75 (nI wi)) 76 (vi 76)) 77 (vi 77)) 52 (nI nd) = fT (fT (fT (fT (fT (fT vi 17 (nI a2130)) 19 (nI f2130)) 20 sg130) 18 wd130) 21 s2130) 22 p2130 := Eq.trans (mv_4 rfl) (Eq.trans (congrArg (fT _ 74) (show nI (dN + 1) = vi 74 from (by first | with_reducible rfl | with_reducible assumption | (symm; with_reducible assumption) | rfl | assumption | (symm; assumption) | (subst_vars; rfl)))) (Eq.trans (id_10 rfl) (Eq.trans (mv_3 rfl) (Eq.trans (congrArg (fT _ 75) (show nI wi = vi 75 from (by first | with_reducible rfl | with_reducible assumption | (symm; with_reducible assumption) | rfl | assumption | (symm; assumption) | (subst_vars; rfl)))) (Eq.trans (id_9 rfl) (Eq.trans (mv_2 rfl) (Eq.trans (id_8 rfl) (Eq.trans (mv_1 rfl) (Eq.trans (id_7 rfl) (Eq.trans (congrArg (fT _ 52) (show nI nd = vi 52 from (by first | with_reducible rfl | with_reducible assumption | (symm; with_reducible assumption) | rfl | assumption | (symm; assumption) | (subst_vars; rfl)))) (id_6 rfl)))))))))))
          have hP := wr_Pi e9 hP
          have hD := wr_Di e9 hD
          clear e9
          have e9 : fT (fT (fT (fT (fT (fT (fT (fT (fT (fT (fT (fT (fT (fT (fT vF 41 (vF 41)) 46 (vF 46)) 43 (vF 43)) 40 (vF 40)) 39 (vF 39)) 42 (vF 42)) 47 (vF 47)) 48 (vF 48)) 29 (vF 29)) 30 (vF 30)) 31 (vF 31)) 32 (vF 32)) 33 (vF 33)) 34 (vF 34)) 35 (vF 35) = vF := Eq.trans (mv_14 rfl) (Eq.trans (id_14 rfl) (Eq.trans (mv_13 rfl) (Eq.trans (id_13 rfl) (Eq.trans (mv_12 rfl) (Eq.trans (id_12 rfl) (Eq.trans (mv_11 rfl) (Eq.trans (id_11 rfl) (Eq.trans (mv_10 rfl) (Eq.trans (id_10 rfl) (Eq.trans (mv_9 rfl) (Eq.trans (id_9 rfl) (Eq.trans (mv_8 rfl) (Eq.trans (id_8 rfl) (Eq.trans (mv_7 rfl) (Eq.trans (id_7 rfl) (Eq.trans (mv_6 rfl) (Eq.trans (id_6 rfl) (Eq.trans (mv_5 rfl) (Eq.trans (id_5 rfl) (Eq.trans (mv_4 rfl) (Eq.trans (id_4 rfl) (Eq.trans (mv_3 rfl) (Eq.trans (id_3 rfl) (Eq.trans (mv_2 rfl) (Eq.trans (id_2 rfl) (Eq.trans (mv_1 rfl) (Eq.trans (id_1 rfl) (id_0 rfl))))))))))))))))))))))))))))
          have hP := wr_PF e9 hP
          have hD := wr_DF e9 hD
          clear e9
          exact W.vret hx hb hr (fun t9_ ht hW => ⟨⟨(a2130, f2130, sg130, wd130, s2130, p2130, (vF 29), (vF 30), (vF 31), (vF 32), (vF 33), (vF 34), (vF 35), (vF 39), (vF 40), (vF 41), (vF 42), (vF 43), (vF 46), (vF 47), (vF 48), (dN + 1), wi, nd, (vi 76), (vi 77), gG), rfl, by (try dsimp only); exact ⟨f130_1, by omega, by omega, Or.inl f130_0, by omega⟩, by rw [ht]; exact hP, hD⟩, hS.F ht⟩) hS.2.2 dX12_readOne_314
      · have ts_6_2 : ¬ (((vF 40) dN)).toInt = 2 := toI_neq s_6_2 rfl (by decide)
        by_cases s_6_3 : ((vF 40) dN) = 3
        · have ts_6_3 : (((vF 40) dN)).toInt = 3 := toI_eq s_6_3 rfl (by decide)
          refine lv_tableIn (off := 141) (tgt := 147) hx hb dX12_readOne_6 (by rw [s_6_3]; decide) (by rw [s_6_3]; decide) (by rw [s_6_3]; decide) (by decide) ?_
          obtain ⟨hq1, hq2, hq3, hq4, hq5, hq6, hw24, cR, hres, hcR⟩ := hTq.one3 s_6_3
          have hK0 := RdK.first (gl := gl) hRV (by omega)
          refine lv_aload_n hx hb dX12_readOne_147 rfl (lv_at hl 0 rfl) ?_
          refine va_get (D := (dC, dI)) (ci := 12) (v := .ref (a 41)) (C := RX12) (T := TX12) (N := 163) (fs := fM (vS a vi vj)) hx hb hts iwsRX12_readOne_in12 hown hK hP 0 rfl rfl 66 (by decide) (hts _ hm_r_X12_readOne_2) (fun _ h9 => h9) rfl dX12_readOne_148 ?_
          refine lv_iload_n hx hb dX12_readOne_151 rfl (lv_at hl 1 rfl) ?_
          refine lv_aload_n hx hb dX12_readOne_152 rfl (lv_at hl 0 rfl) ?_
          refine va_get (D := (dC, dI)) (ci := 12) (v := .int (vi 76)) (C := RX12) (T := TX12) (N := 163) (fs := fM (vS a vi vj)) hx hb hts iwsRX12_readOne_in12 hown hK hP 0 rfl rfl 76 (by decide) (hts _ hm_r_X12_readOne_1) (fun _ h9 => h9) rfl dX12_readOne_153 ?_
          refine lv_topi (fun y4 hy4 => ?_)
          obtain rfl : (nI cR) = y4 := (hy4.trans (hres)).symm
          refine va_iast (cA := k 41) (n := 120) (f := (vF 41)) hx hb hK hP hD hS 42 41 (WR_get 41 (by decide)) (TR_get 41 (by decide)) (vp_in_nI (show dN < 120 by omega) (by omega)) dX12_readOne_156 (fun H locs hP hD hS => ?_)
          have hP : va_P (dC, dI) vwCl (WR a k h0 vi vj (fT vF 41 (upd (vF 41) ((nI dN)).toNatClampNeg (nI cR))) vG) H := fz_w (WR_F 41 (by decide) _ rfl) hP
          have hD : va_D A (WR a k h0 vi vj (fT vF 41 (upd (vF 41) ((nI dN)).toNatClampNeg (nI cR))) vG) := fz_wD (WR_F 41 (by decide) _ rfl) hD
          refine lv_aload_n hx hb dX12_readOne_157 rfl (lv_at hl 0 rfl) ?_
          refine va_get (D := (dC, dI)) (ci := 12) (v := .ref (a 46)) (C := RX12) (T := TX12) (N := 163) (fs := fM (vS a vi vj)) hx hb hts iwsRX12_readOne_in12 hown hK hP 0 rfl rfl 71 (by decide) (hts _ hm_r_X12_readOne_3) (fun _ h9 => h9) rfl dX12_readOne_158 ?_
          refine lv_iload_n hx hb dX12_readOne_161 rfl (lv_at hl 1 rfl) ?_
          refine lv_aload_n hx hb dX12_readOne_162 rfl (lv_at hl 0 rfl) ?_
          refine va_get (D := (dC, dI)) (ci := 12) (v := .int (vi 77)) (C := RX12) (T := TX12) (N := 163) (fs := fM (vS a vi vj)) hx hb hts iwsRX12_readOne_in12 hown hK hP 0 rfl rfl 77 (by decide) (hts _ hm_r_X12_readOne_4) (fun _ h9 => h9) rfl dX12_readOne_163 ?_
          refine va_iast (cA := k 46) (n := 120) (f := (vF 46)) hx hb hK hP hD hS 47 46 (WR_get 46 (by decide)) (TR_get 46 (by decide)) (vp_in_nI (show dN < 120 by omega) (by omega)) dX12_readOne_166 (fun H locs hP hD hS => ?_)
          have hP : va_P (dC, dI) vwCl (WR a k h0 vi vj (fT (fT vF 41 (upd (vF 41) ((nI dN)).toNatClampNeg (nI cR))) 46 (upd (vF 46) ((nI dN)).toNatClampNeg (vi 77))) vG) H := fz_w (WR_F 46 (by decide) _ rfl) hP
          have hD : va_D A (WR a k h0 vi vj (fT (fT vF 41 (upd (vF 41) ((nI dN)).toNatClampNeg (nI cR))) 46 (upd (vF 46) ((nI dN)).toNatClampNeg (vi 77))) vG) := fz_wD (WR_F 46 (by decide) _ rfl) hD
          refine lv_aload_n hx hb dX12_readOne_167 rfl (lv_at hl 0 rfl) ?_
          refine va_get (D := (dC, dI)) (ci := 12) (v := .int (vi 18)) (C := RX12) (T := TX12) (N := 163) (fs := fM (vS a vi vj)) hx hb hts iwsRX12_readOne_in12 hown hK hP 0 rfl rfl 18 (by decide) (hts (.fieldLink RX12 494 "OptimaWorksModel" "word" "I") (by decide +kernel)) (fun _ h9 => h9) rfl dX12_readOne_168 ?_
          refine lv_iconst (v := 4) hx hb dX12_readOne_171 (by decide) ?_
          refine lv_icmp_ne (tgt := 229) hx hb dX12_readOne_172 (by decide) (fun c_172 => ?_) (fun c_172 => ?_)
          · have t_172 : ((vi 18)).toInt ≠ 4 := toI_ne c_172 rfl (by decide)
            refine lv_aload_n hx hb dX12_readOne_229 rfl (lv_at hl 0 rfl) ?_
            have hFc := allFree hD hS hA
            refine va_callv (va_runV (As := []) (rest := []) ⟨hx, hb, hml, hown, hts⟩ (r_X12_wrong l dC dI a k h0 vi vj (fT (fT vF 41 (upd (vF 41) ((nI dN)).toNatClampNeg (nI cR))) 46 (upd (vF 46) ((nI dN)).toNatClampNeg (vi 77))) vG H.size) (cwV 0 hts gwsRX12_readOne_7 rfl rfl rfl hd_yX12_wrong_RX12 (by decide +kernel)) (fz_pre (va_recv hK hP (ci := 12) (q0 := 0) rfl rfl) hP hK hD) rfl rfl hl.1 rfl (lv_room (Nat.le_of_ble_eq_true rfl)) dX12_readOne_230 (by decide +kernel)) hS (fun q _ h => hFc q h) hFc (fun u t9_ H locs ht hvm hw9 hB9 hz1 hk1 hS => ?_)
            revert u hw9 hB9
            refine fz_p2 ?_
            intro s2230 p2230 hw9 hB9
            try dsimp only at hw9 hB9
            have hP : va_P (dC, dI) vwCl (WR a k h0 (fT (fT vi 21 s2230) 22 p2230) vj (fT (fT vF 41 (upd (vF 41) ((nI dN)).toNatClampNeg (nI cR))) 46 (upd (vF 46) ((nI dN)).toNatClampNeg (vi 77))) vG) H := fz_P ht hB9.1
            have hD := fz_sd hP (hB9.2.weaken (fun _ q _ h => hFc q.1 h)) rfl
            revert hw9
            refine fz_a2 ?_
            intro f230_0 f230_1
            have f230_0 : (0 < (vi 21).toInt ∧ s2230 = (vi 21) ∧ p2230 = (vi 22)) ∨ (¬ 0 < (vi 21).toInt ∧ (s2230 = 1 ∨ s2230 = 2) ∧ p2230 = (vi 19)) := f230_0
            refine W.widen (k := 0) (n := 0) (by decide +kernel) (by decide +kernel) ?_
            have e9 : fT (fT (fT (fT (fT (fT (fT (fT (fT (fT (fT vi 17 (nI an)) 19 (nI fn)) 20 (vi 20)) 18 (vi 18)) 21 s2230) 22 p2230) 74 (nI (dN + 1))) 75 (nI wi)) 76 (vi 76)) 77 (vi 77)) 52 (nI nd) = fT (fT vi 21 s2230) 22 p2230 := Eq.trans (mv_10 rfl) (Eq.trans (congrArg (fT _ 17) (show nI an = vi 17 from (by first | with_reducible rfl | with_reducible assumption | (symm; with_reducible assumption) | rfl | assumption | (symm; assumption) | (subst_vars; rfl)))) (Eq.trans (id_10 rfl) (Eq.trans (mv_9 rfl) (Eq.trans (congrArg (fT _ 19) (show nI fn = vi 19 from (by first | with_reducible rfl | with_reducible assumption | (symm; with_reducible assumption) | rfl | assumption | (symm; assumption) | (subst_vars; rfl)))) (Eq.trans (id_9 rfl) (Eq.trans (mv_8 rfl) (Eq.trans (id_8 rfl) (Eq.trans (mv_7 rfl) (Eq.trans (id_7 rfl) (Eq.trans (mv_4 rfl) (Eq.trans (congrArg (fT _ 74) (show nI (dN + 1) = vi 74 from (by first | with_reducible rfl | with_reducible assumption | (symm; with_reducible assumption) | rfl | assumption | (symm; assumption) | (subst_vars; rfl)))) (Eq.trans (id_6 rfl) (Eq.trans (mv_3 rfl) (Eq.trans (congrArg (fT _ 75) (show nI wi = vi 75 from (by first | with_reducible rfl | with_reducible assumption | (symm; with_reducible assumption) | rfl | assumption | (symm; assumption) | (subst_vars; rfl)))) (Eq.trans (id_5 rfl) (Eq.trans (mv_2 rfl) (Eq.trans (id_4 rfl) (Eq.trans (mv_1 rfl) (Eq.trans (id_3 rfl) (Eq.trans (congrArg (fT _ 52) (show nI nd = vi 52 from (by first | with_reducible rfl | with_reducible assumption | (symm; with_reducible assumption) | rfl | assumption | (symm; assumption) | (subst_vars; rfl)))) (id_2 rfl)))))))))))))))))))))
            have hP := wr_Pi e9 hP
            have hD := wr_Di e9 hD
            clear e9
            have e9 : fT (fT (fT (fT (fT (fT (fT (fT (fT (fT (fT (fT (fT (fT (fT vF 41 (upd (vF 41) ((nI dN)).toNatClampNeg (nI cR))) 46 (upd (vF 46) ((nI dN)).toNatClampNeg (vi 77))) 43 (vF 43)) 40 (vF 40)) 39 (vF 39)) 42 (vF 42)) 47 (vF 47)) 48 (vF 48)) 29 (vF 29)) 30 (vF 30)) 31 (vF 31)) 32 (vF 32)) 33 (vF 33)) 34 (vF 34)) 35 (vF 35) = fT (fT vF 41 (upd (vF 41) ((nI dN)).toNatClampNeg (nI cR))) 46 (upd (vF 46) ((nI dN)).toNatClampNeg (vi 77)) := Eq.trans (mv_12 rfl) (Eq.trans (id_14 rfl) (Eq.trans (mv_11 rfl) (Eq.trans (id_13 rfl) (Eq.trans (mv_10 rfl) (Eq.trans (id_12 rfl) (Eq.trans (mv_9 rfl) (Eq.trans (id_11 rfl) (Eq.trans (mv_8 rfl) (Eq.trans (id_10 rfl) (Eq.trans (mv_7 rfl) (Eq.trans (id_9 rfl) (Eq.trans (mv_6 rfl) (Eq.trans (id_8 rfl) (Eq.trans (mv_5 rfl) (Eq.trans (id_7 rfl) (Eq.trans (mv_4 rfl) (Eq.trans (id_6 rfl) (Eq.trans (mv_3 rfl) (Eq.trans (id_5 rfl) (Eq.trans (mv_2 rfl) (Eq.trans (id_4 rfl) (Eq.trans (mv_1 rfl) (Eq.trans (id_3 rfl) (id_2 rfl))))))))))))))))))))))))
            have hP := wr_PF e9 hP
            have hD := wr_DF e9 hD
            clear e9
            exact W.vret hx hb hr (fun t9_ ht hW => ⟨⟨(an, fn, (vi 20), (vi 18), s2230, p2230, (vF 29), (vF 30), (vF 31), (vF 32), (vF 33), (vF 34), (vF 35), (vF 39), (vF 40), (upd (vF 41) ((nI dN)).toNatClampNeg (nI cR)), (vF 42), (vF 43), (upd (vF 46) ((nI dN)).toNatClampNeg (vi 77)), (vF 47), (vF 48), (dN + 1), wi, nd, (vi 76), (vi 77), gG), rfl, by (try dsimp only); exact ⟨hLx, by omega, by omega, Or.inl f230_1, by omega⟩, by rw [ht]; exact hP, hD⟩, hS.F ht⟩) hS.2.2 dX12_readOne_233
          · have t_172 : ((vi 18)).toInt = 4 := toI_nne c_172 rfl (by decide)
            refine lv_aload_n hx hb dX12_readOne_175 rfl (lv_at hl 0 rfl) ?_
            refine va_get (D := (dC, dI)) (ci := 12) (v := .int (vi 20)) (C := RX12) (T := TX12) (N := 163) (fs := fM (vS a vi vj)) hx hb hts iwsRX12_readOne_in12 hown hK hP 0 rfl rfl 20 (by decide) (hts _ hm_r_X12_readOne_5) (fun _ h9 => h9) rfl dX12_readOne_176 ?_
            refine lv_bipush (v := 76) hx hb dX12_readOne_179 (by decide) ?_
            refine lv_icmp_eq (tgt := 234) hx hb dX12_readOne_181 (by decide) (fun c_181 => ?_) (fun c_181 => ?_)
            · have t_181 : ((vi 20)).toInt = 76 := toI_eq c_181 rfl (by decide)
              have hfl : fn < an := hLx.2.2.1.resolve_left (fun h => absurd (show (vi 18).toInt = 0 by rw [h]; decide) (by omega))
              refine lv_aload_n hx hb dX12_readOne_234 rfl (lv_at hl 0 rfl) ?_
              refine va_get (D := (dC, dI)) (ci := 12) (v := .ref (a 43)) (C := RX12) (T := TX12) (N := 163) (fs := fM (vS a vi vj)) hx hb hts iwsRX12_readOne_in12 hown hK hP 0 rfl rfl 68 (by decide) (hts _ hm_r_X12_readOne_6) (fun _ h9 => h9) rfl dX12_readOne_235 ?_
              refine lv_iload_n hx hb dX12_readOne_238 rfl (lv_at hl 1 rfl) ?_
              refine lv_aload_n hx hb dX12_readOne_239 rfl (lv_at hl 0 rfl) ?_
              refine va_get (D := (dC, dI)) (ci := 12) (v := .int (vi 20)) (C := RX12) (T := TX12) (N := 163) (fs := fM (vS a vi vj)) hx hb hts iwsRX12_readOne_in12 hown hK hP 0 rfl rfl 20 (by decide) (hts _ hm_r_X12_readOne_5) (fun _ h9 => h9) rfl dX12_readOne_240 ?_
              refine va_iast (cA := k 43) (n := 120) (f := (vF 43)) hx hb hK hP hD hS 44 43 (WR_get 43 (by decide)) (TR_get 43 (by decide)) (vp_in_nI (show dN < 120 by omega) (by omega)) dX12_readOne_243 (fun H locs hP hD hS => ?_)
              have hP : va_P (dC, dI) vwCl (WR a k h0 vi vj (fT (fT (fT vF 41 (upd (vF 41) ((nI dN)).toNatClampNeg (nI cR))) 46 (upd (vF 46) ((nI dN)).toNatClampNeg (vi 77))) 43 (upd (vF 43) ((nI dN)).toNatClampNeg (vi 20))) vG) H := fz_w (WR_F 43 (by decide) _ rfl) hP
              have hD : va_D A (WR a k h0 vi vj (fT (fT (fT vF 41 (upd (vF 41) ((nI dN)).toNatClampNeg (nI cR))) 46 (upd (vF 46) ((nI dN)).toNatClampNeg (vi 77))) 43 (upd (vF 43) ((nI dN)).toNatClampNeg (vi 20))) vG) := fz_wD (WR_F 43 (by decide) _ rfl) hD
              refine lv_aload_n hx hb dX12_readOne_244 rfl (lv_at hl 0 rfl) ?_
              have hFc := allFree hD hS hA
              refine va_callv (va_runV (As := []) (rest := []) ⟨hx, hb, hml, hown, hts⟩ (r_X12_next l dC dI a k h0 vi vj (fT (fT (fT vF 41 (upd (vF 41) ((nI dN)).toNatClampNeg (nI cR))) 46 (upd (vF 46) ((nI dN)).toNatClampNeg (vi 77))) 43 (upd (vF 43) ((nI dN)).toNatClampNeg (vi 20))) vG tp an hTp (by first | with_reducible assumption | decide | omega | rfl | assumption) ha0 (by first | with_reducible assumption | decide | omega | rfl | assumption) H.size) (cwV 0 hts gwsRX12_readOne_1 rfl rfl rfl hd_yX12_next_RX12 (by decide +kernel)) (fz_preE (va_recv hK hP (ci := 12) (q0 := 0) rfl rfl) hP hK hD (fun a U g mk qE => qE.same rfl) (fun U hU9 hW => by rw [hU9]; exact (((hE : StrA A s s.heap).kept hS.2.1).narrow (fun q h => hFc q h)).warm hW)) rfl rfl hl.1 rfl (lv_room (Nat.le_of_ble_eq_true rfl)) dX12_readOne_245 (by decide +kernel)) hS (fun q _ h => hFc q h) hFc (fun u t9_ H locs ht hvm hw9 hB9 hz1 hk1 hS => ?_)
              revert u hw9 hB9
              refine fz_p4 ?_
              intro a2245 f2245 sg245 wd245 hw9 hB9
              try dsimp only at hw9 hB9
              have hP : va_P (dC, dI) vwCl (WR a k h0 (fT (fT (fT (fT vi 17 (nI a2245)) 19 (nI f2245)) 20 sg245) 18 wd245) vj (fT (fT (fT vF 41 (upd (vF 41) ((nI dN)).toNatClampNeg (nI cR))) 46 (upd (vF 46) ((nI dN)).toNatClampNeg (vi 77))) 43 (upd (vF 43) ((nI dN)).toNatClampNeg (vi 20))) vG) H := fz_P ht hB9.1
              have hD := fz_sd hP (hB9.2.weaken (fun _ q _ h => hFc q.1 h)) rfl
              revert hw9
              refine fz_a2 ?_
              intro f245_0 f245_1
              have hl1 := f245_0.1
              have hl2 := f245_0.2.1
              refine lv_aload_n hx hb dX12_readOne_248 rfl (lv_at hl 0 rfl) ?_
              refine va_get (D := (dC, dI)) (ci := 12) (v := .ref (a 40)) (C := RX12) (T := TX12) (N := 163) (fs := fM (vS a (fT (fT (fT (fT vi 17 (nI a2245)) 19 (nI f2245)) 20 sg245) 18 wd245) vj)) hx hb hts iwsRX12_readOne_in12 hown hK hP 0 rfl rfl 65 (by decide) (hts _ hm_r_X12_readOne_0) (fun _ h9 => h9) rfl dX12_readOne_249 ?_
              refine lv_iload_n hx hb dX12_readOne_252 rfl (lv_at hl 1 rfl) ?_
              refine lv_iconst (v := 4) hx hb dX12_readOne_253 (by decide) ?_
              refine va_iast (cA := k 40) (n := 120) (f := (vF 40)) hx hb hK hP hD hS 41 40 (WR_get 40 (by decide)) (TR_get 40 (by decide)) (vp_in_nI (show dN < 120 by omega) (by omega)) dX12_readOne_254 (fun H locs hP hD hS => ?_)
              have hP : va_P (dC, dI) vwCl (WR a k h0 (fT (fT (fT (fT vi 17 (nI a2245)) 19 (nI f2245)) 20 sg245) 18 wd245) vj (fT (fT (fT (fT vF 41 (upd (vF 41) ((nI dN)).toNatClampNeg (nI cR))) 46 (upd (vF 46) ((nI dN)).toNatClampNeg (vi 77))) 43 (upd (vF 43) ((nI dN)).toNatClampNeg (vi 20))) 40 (upd (vF 40) ((nI dN)).toNatClampNeg 4)) vG) H := fz_w (WR_F 40 (by decide) _ rfl) hP
              have hD : va_D A (WR a k h0 (fT (fT (fT (fT vi 17 (nI a2245)) 19 (nI f2245)) 20 sg245) 18 wd245) vj (fT (fT (fT (fT vF 41 (upd (vF 41) ((nI dN)).toNatClampNeg (nI cR))) 46 (upd (vF 46) ((nI dN)).toNatClampNeg (vi 77))) 43 (upd (vF 43) ((nI dN)).toNatClampNeg (vi 20))) 40 (upd (vF 40) ((nI dN)).toNatClampNeg 4)) vG) := fz_wD (WR_F 40 (by decide) _ rfl) hD
              refine lv_aload_n hx hb dX12_readOne_255 rfl (lv_at hl 0 rfl) ?_
              refine lv_iconst (v := 0) hx hb dX12_readOne_256 (by decide) ?_
              have hFc := allFree hD hS hA
              refine va_callv (va_runV (As := [.int 0]) (rest := []) ⟨hx, hb, hml, hown, hts⟩ (r_X12_begin1 l dC dI a k h0 (fT (fT (fT (fT vi 17 (nI a2245)) 19 (nI f2245)) 20 sg245) 18 wd245) vj (fT (fT (fT (fT vF 41 (upd (vF 41) ((nI dN)).toNatClampNeg (nI cR))) 46 (upd (vF 46) ((nI dN)).toNatClampNeg (vi 77))) 43 (upd (vF 43) ((nI dN)).toNatClampNeg (vi 20))) 40 (upd (vF 40) ((nI dN)).toNatClampNeg 4)) vG 0 tp a2245 f2245 nm se pa va bd (dN + 1) wi hTp (by first | with_reducible assumption | decide | omega | rfl | assumption) rfl rfl (f245_0) (by first | with_reducible assumption | decide | omega | rfl | assumption) hnm (by first | with_reducible assumption | decide | omega | rfl | assumption) (by first | with_reducible assumption | decide | omega | rfl | assumption) (by first | with_reducible assumption | decide | omega | rfl | assumption) hbd (by first | with_reducible assumption | decide | omega | rfl | assumption) (by first | with_reducible assumption | decide | omega | rfl | assumption) (hdp) (by first | with_reducible assumption | decide | omega | rfl | assumption) hwi (by first | with_reducible assumption | decide | omega | rfl | assumption) H.size) (cwV 1 hts gwsRX12_readOne_2 rfl rfl rfl hd_yX12_begin1_RX12 (by decide +kernel)) (fz_pre (va_recv hK hP (ci := 12) (q0 := 0) rfl rfl) hP hK hD) rfl rfl hl.1 rfl (lv_room (Nat.le_of_ble_eq_true rfl)) dX12_readOne_257 (by decide +kernel)) hS (fun q _ h => hFc q h) hFc (fun u t9_ H locs ht hvm hw9 hB9 hz1 hk1 hS => ?_)
              revert u hw9 hB9
              refine fz_p10 ?_
              intro s2257 p2257 g39257 g40257 g41257 g42257 g47257 g48257 d2257 w2257 hw9 hB9
              try dsimp only at hw9 hB9
              have e9F : fT (fT (fT (fT (fT (fT (fT (fT vF 41 g41257) 46 (upd (vF 46) ((nI dN)).toNatClampNeg (vi 77))) 43 (upd (vF 43) ((nI dN)).toNatClampNeg (vi 20))) 40 g40257) 39 g39257) 42 g42257) 47 g47257) 48 g48257 = fT (fT (fT (fT (fT (fT (fT (fT (fT (fT vF 41 (upd (vF 41) ((nI dN)).toNatClampNeg (nI cR))) 46 (upd (vF 46) ((nI dN)).toNatClampNeg (vi 77))) 43 (upd (vF 43) ((nI dN)).toNatClampNeg (vi 20))) 40 (upd (vF 40) ((nI dN)).toNatClampNeg 4)) 39 g39257) 40 g40257) 41 g41257) 42 g42257) 47 g47257) 48 g48257 := Eq.symm (congrArg (fun g9 => fT (fT (fT g9 42 g42257) 47 g47257) 48 g48257) (Eq.trans (congrArg (fun g9 => fT g9 41 g41257) (up_1 rfl)) (up_4 rfl)))
              have hP := wr_PF e9F (fz_P ht hB9.1)
              have hD := wr_DF e9F (hB9.2.weaken (fun _ q _ h => hFc q.1 h))
              clear e9F
              revert hw9
              refine fz_a4 ?_
              intro f257_0 f257_1 f257_2 f257_3
              have f257_1 : 0 < (s2257).toInt ∨ (s2257 = (vi 21) ∧ BgO 0 wd245 sg245 g39257 g40257 g41257 g42257 g48257 (dN + 1) wi d2257 w2257) := f257_1
              have f257_2 : FrmO (dN + 1) (vF 39) (upd (vF 40) ((nI dN)).toNatClampNeg 4) (upd (vF 41) ((nI dN)).toNatClampNeg (nI cR)) (vF 42) (vF 48) g39257 g40257 g41257 g42257 g48257 := f257_2
              refine lv_goto (tgt := 314) hx hb dX12_readOne_260 (by decide) ?_
              refine W.widen (k := 0) (n := 0) (by decide +kernel) (by decide +kernel) ?_
              have e9 : fT (fT (fT (fT (fT (fT (fT (fT (fT (fT (fT vi 17 (nI a2245)) 19 (nI f2245)) 20 sg245) 18 wd245) 21 s2257) 22 p2257) 74 (nI d2257)) 75 (nI w2257)) 76 (vi 76)) 77 (vi 77)) 52 (nI nd) = fT (fT (fT (fT (fT (fT (fT (fT vi 17 (nI a2245)) 19 (nI f2245)) 20 sg245) 18 wd245) 75 (nI w2257)) 74 (nI d2257)) 21 s2257) 22 p2257 := Eq.trans (mv_2 rfl) (Eq.trans (id_10 rfl) (Eq.trans (mv_1 rfl) (Eq.trans (id_9 rfl) (Eq.trans (congrArg (fT _ 52) (show nI nd = vi 52 from (by first | with_reducible rfl | with_reducible assumption | (symm; with_reducible assumption) | rfl | assumption | (symm; assumption) | (subst_vars; rfl)))) (Eq.trans (id_8 rfl) (Eq.trans (mv_1 rfl) (Eq.trans (mv_3 rfl) (mv_3 rfl))))))))
              have hP := wr_Pi e9 hP
              have hD := wr_Di e9 hD
              clear e9
              have e9 : fT (fT (fT (fT (fT (fT (fT (fT (fT (fT (fT (fT (fT (fT (fT vF 41 g41257) 46 (upd (vF 46) ((nI dN)).toNatClampNeg (vi 77))) 43 (upd (vF 43) ((nI dN)).toNatClampNeg (vi 20))) 40 g40257) 39 g39257) 42 g42257) 47 g47257) 48 g48257) 29 (vF 29)) 30 (vF 30)) 31 (vF 31)) 32 (vF 32)) 33 (vF 33)) 34 (vF 34)) 35 (vF 35) = fT (fT (fT (fT (fT (fT (fT (fT vF 41 g41257) 46 (upd (vF 46) ((nI dN)).toNatClampNeg (vi 77))) 43 (upd (vF 43) ((nI dN)).toNatClampNeg (vi 20))) 40 g40257) 39 g39257) 42 g42257) 47 g47257) 48 g48257 := Eq.trans (mv_6 rfl) (Eq.trans (id_14 rfl) (Eq.trans (mv_5 rfl) (Eq.trans (id_13 rfl) (Eq.trans (mv_4 rfl) (Eq.trans (id_12 rfl) (Eq.trans (mv_3 rfl) (Eq.trans (id_11 rfl) (Eq.trans (mv_2 rfl) (Eq.trans (id_10 rfl) (Eq.trans (mv_1 rfl) (Eq.trans (id_9 rfl) (id_8 rfl))))))))))))
              have hP := wr_PF e9 hP
              have hD := wr_DF e9 hD
              clear e9
              exact W.vret hx hb hr (fun t9_ ht hW => ⟨⟨(a2245, f2245, sg245, wd245, s2257, p2257, (vF 29), (vF 30), (vF 31), (vF 32), (vF 33), (vF 34), (vF 35), g39257, g40257, g41257, g42257, (upd (vF 43) ((nI dN)).toNatClampNeg (vi 20)), (upd (vF 46) ((nI dN)).toNatClampNeg (vi 77)), g47257, g48257, d2257, w2257, nd, (vi 76), (vi 77), gG), rfl, by (try dsimp only); exact ⟨f245_0, by omega, f257_0, by rcases f257_1 with h9 | h9; (exact Or.inl h9); (exact Or.inr ⟨RdS.push (gm := gl) hK0.1 hBel hK0.2.1 (Nat.le_refl _) (fun q hq => ⟨rfl, by rw [upd_at (by omega), if_neg (by omega)], by rw [upd_at (by omega), if_neg (by omega)], rfl, rfl⟩) h39 (by decide) h48 (by omega) ⟨⟨by omega, fun h8 => absurd rfl h8, fun h8 => absurd h8 (by decide), Nat.le_refl _⟩, Or.inr (Or.inr (Or.inr (Or.inr (Or.inr (Or.inr (Or.inr (Or.inr (Or.inr (Or.inr (Or.inr (⟨rfl, rfl, by rw [upd_at (by omega), if_pos rfl], rfl, rfl, rfl, cR, by rw [upd_at (by omega), if_pos rfl], hcR.mono (by omega)⟩)))))))))))⟩ f257_2 (by rw [← hwc]; exact h9.2) (show (0 : Int32) = nI 0 by decide) (by decide) (by omega) (by omega) (by omega) (by omega) (by omega) (by show 10 * (4000 - _) + dN + 1 + 3 ≤ mM - 1; omega), hK0.2.1.less (Nat.zero_le _)⟩), by omega⟩, by rw [ht]; exact hP, hD⟩, hS.F ht⟩) hS.2.2 dX12_readOne_314
            · have t_181 : ¬ ((vi 20)).toInt = 76 := toI_neq c_181 rfl (by decide)
              refine lv_aload_n hx hb dX12_readOne_184 rfl (lv_at hl 0 rfl) ?_
              refine va_get (D := (dC, dI)) (ci := 12) (v := .int (vi 20)) (C := RX12) (T := TX12) (N := 163) (fs := fM (vS a vi vj)) hx hb hts iwsRX12_readOne_in12 hown hK hP 0 rfl rfl 20 (by decide) (hts _ hm_r_X12_readOne_5) (fun _ h9 => h9) rfl dX12_readOne_185 ?_
              refine lv_bipush (v := 71) hx hb dX12_readOne_188 (by decide) ?_
              refine lv_icmp_eq (tgt := 234) hx hb dX12_readOne_190 (by decide) (fun c_190 => ?_) (fun c_190 => ?_)
              · have t_190 : ((vi 20)).toInt = 71 := toI_eq c_190 rfl (by decide)
                have hfl : fn < an := hLx.2.2.1.resolve_left (fun h => absurd (show (vi 18).toInt = 0 by rw [h]; decide) (by omega))
                refine lv_aload_n hx hb dX12_readOne_234 rfl (lv_at hl 0 rfl) ?_
                refine va_get (D := (dC, dI)) (ci := 12) (v := .ref (a 43)) (C := RX12) (T := TX12) (N := 163) (fs := fM (vS a vi vj)) hx hb hts iwsRX12_readOne_in12 hown hK hP 0 rfl rfl 68 (by decide) (hts _ hm_r_X12_readOne_6) (fun _ h9 => h9) rfl dX12_readOne_235 ?_
                refine lv_iload_n hx hb dX12_readOne_238 rfl (lv_at hl 1 rfl) ?_
                refine lv_aload_n hx hb dX12_readOne_239 rfl (lv_at hl 0 rfl) ?_
                refine va_get (D := (dC, dI)) (ci := 12) (v := .int (vi 20)) (C := RX12) (T := TX12) (N := 163) (fs := fM (vS a vi vj)) hx hb hts iwsRX12_readOne_in12 hown hK hP 0 rfl rfl 20 (by decide) (hts _ hm_r_X12_readOne_5) (fun _ h9 => h9) rfl dX12_readOne_240 ?_
                refine va_iast (cA := k 43) (n := 120) (f := (vF 43)) hx hb hK hP hD hS 44 43 (WR_get 43 (by decide)) (TR_get 43 (by decide)) (vp_in_nI (show dN < 120 by omega) (by omega)) dX12_readOne_243 (fun H locs hP hD hS => ?_)
                have hP : va_P (dC, dI) vwCl (WR a k h0 vi vj (fT (fT (fT vF 41 (upd (vF 41) ((nI dN)).toNatClampNeg (nI cR))) 46 (upd (vF 46) ((nI dN)).toNatClampNeg (vi 77))) 43 (upd (vF 43) ((nI dN)).toNatClampNeg (vi 20))) vG) H := fz_w (WR_F 43 (by decide) _ rfl) hP
                have hD : va_D A (WR a k h0 vi vj (fT (fT (fT vF 41 (upd (vF 41) ((nI dN)).toNatClampNeg (nI cR))) 46 (upd (vF 46) ((nI dN)).toNatClampNeg (vi 77))) 43 (upd (vF 43) ((nI dN)).toNatClampNeg (vi 20))) vG) := fz_wD (WR_F 43 (by decide) _ rfl) hD
                refine lv_aload_n hx hb dX12_readOne_244 rfl (lv_at hl 0 rfl) ?_
                have hFc := allFree hD hS hA
                refine va_callv (va_runV (As := []) (rest := []) ⟨hx, hb, hml, hown, hts⟩ (r_X12_next l dC dI a k h0 vi vj (fT (fT (fT vF 41 (upd (vF 41) ((nI dN)).toNatClampNeg (nI cR))) 46 (upd (vF 46) ((nI dN)).toNatClampNeg (vi 77))) 43 (upd (vF 43) ((nI dN)).toNatClampNeg (vi 20))) vG tp an hTp (by first | with_reducible assumption | decide | omega | rfl | assumption) ha0 (by first | with_reducible assumption | decide | omega | rfl | assumption) H.size) (cwV 0 hts gwsRX12_readOne_1 rfl rfl rfl hd_yX12_next_RX12 (by decide +kernel)) (fz_preE (va_recv hK hP (ci := 12) (q0 := 0) rfl rfl) hP hK hD (fun a U g mk qE => qE.same rfl) (fun U hU9 hW => by rw [hU9]; exact (((hE : StrA A s s.heap).kept hS.2.1).narrow (fun q h => hFc q h)).warm hW)) rfl rfl hl.1 rfl (lv_room (Nat.le_of_ble_eq_true rfl)) dX12_readOne_245 (by decide +kernel)) hS (fun q _ h => hFc q h) hFc (fun u t9_ H locs ht hvm hw9 hB9 hz1 hk1 hS => ?_)
                revert u hw9 hB9
                refine fz_p4 ?_
                intro a2245_1 f2245_1 sg245_1 wd245_1 hw9 hB9
                try dsimp only at hw9 hB9
                have hP : va_P (dC, dI) vwCl (WR a k h0 (fT (fT (fT (fT vi 17 (nI a2245_1)) 19 (nI f2245_1)) 20 sg245_1) 18 wd245_1) vj (fT (fT (fT vF 41 (upd (vF 41) ((nI dN)).toNatClampNeg (nI cR))) 46 (upd (vF 46) ((nI dN)).toNatClampNeg (vi 77))) 43 (upd (vF 43) ((nI dN)).toNatClampNeg (vi 20))) vG) H := fz_P ht hB9.1
                have hD := fz_sd hP (hB9.2.weaken (fun _ q _ h => hFc q.1 h)) rfl
                revert hw9
                refine fz_a2 ?_
                intro f245_1_0 f245_1_1
                have hl1 := f245_1_0.1
                have hl2 := f245_1_0.2.1
                refine lv_aload_n hx hb dX12_readOne_248 rfl (lv_at hl 0 rfl) ?_
                refine va_get (D := (dC, dI)) (ci := 12) (v := .ref (a 40)) (C := RX12) (T := TX12) (N := 163) (fs := fM (vS a (fT (fT (fT (fT vi 17 (nI a2245_1)) 19 (nI f2245_1)) 20 sg245_1) 18 wd245_1) vj)) hx hb hts iwsRX12_readOne_in12 hown hK hP 0 rfl rfl 65 (by decide) (hts _ hm_r_X12_readOne_0) (fun _ h9 => h9) rfl dX12_readOne_249 ?_
                refine lv_iload_n hx hb dX12_readOne_252 rfl (lv_at hl 1 rfl) ?_
                refine lv_iconst (v := 4) hx hb dX12_readOne_253 (by decide) ?_
                refine va_iast (cA := k 40) (n := 120) (f := (vF 40)) hx hb hK hP hD hS 41 40 (WR_get 40 (by decide)) (TR_get 40 (by decide)) (vp_in_nI (show dN < 120 by omega) (by omega)) dX12_readOne_254 (fun H locs hP hD hS => ?_)
                have hP : va_P (dC, dI) vwCl (WR a k h0 (fT (fT (fT (fT vi 17 (nI a2245_1)) 19 (nI f2245_1)) 20 sg245_1) 18 wd245_1) vj (fT (fT (fT (fT vF 41 (upd (vF 41) ((nI dN)).toNatClampNeg (nI cR))) 46 (upd (vF 46) ((nI dN)).toNatClampNeg (vi 77))) 43 (upd (vF 43) ((nI dN)).toNatClampNeg (vi 20))) 40 (upd (vF 40) ((nI dN)).toNatClampNeg 4)) vG) H := fz_w (WR_F 40 (by decide) _ rfl) hP
                have hD : va_D A (WR a k h0 (fT (fT (fT (fT vi 17 (nI a2245_1)) 19 (nI f2245_1)) 20 sg245_1) 18 wd245_1) vj (fT (fT (fT (fT vF 41 (upd (vF 41) ((nI dN)).toNatClampNeg (nI cR))) 46 (upd (vF 46) ((nI dN)).toNatClampNeg (vi 77))) 43 (upd (vF 43) ((nI dN)).toNatClampNeg (vi 20))) 40 (upd (vF 40) ((nI dN)).toNatClampNeg 4)) vG) := fz_wD (WR_F 40 (by decide) _ rfl) hD
                refine lv_aload_n hx hb dX12_readOne_255 rfl (lv_at hl 0 rfl) ?_
                refine lv_iconst (v := 0) hx hb dX12_readOne_256 (by decide) ?_
                have hFc := allFree hD hS hA
                refine va_callv (va_runV (As := [.int 0]) (rest := []) ⟨hx, hb, hml, hown, hts⟩ (r_X12_begin1 l dC dI a k h0 (fT (fT (fT (fT vi 17 (nI a2245_1)) 19 (nI f2245_1)) 20 sg245_1) 18 wd245_1) vj (fT (fT (fT (fT vF 41 (upd (vF 41) ((nI dN)).toNatClampNeg (nI cR))) 46 (upd (vF 46) ((nI dN)).toNatClampNeg (vi 77))) 43 (upd (vF 43) ((nI dN)).toNatClampNeg (vi 20))) 40 (upd (vF 40) ((nI dN)).toNatClampNeg 4)) vG 0 tp a2245_1 f2245_1 nm se pa va bd (dN + 1) wi hTp (by first | with_reducible assumption | decide | omega | rfl | assumption) rfl rfl (f245_1_0) (by first | with_reducible assumption | decide | omega | rfl | assumption) hnm (by first | with_reducible assumption | decide | omega | rfl | assumption) (by first | with_reducible assumption | decide | omega | rfl | assumption) (by first | with_reducible assumption | decide | omega | rfl | assumption) hbd (by first | with_reducible assumption | decide | omega | rfl | assumption) (by first | with_reducible assumption | decide | omega | rfl | assumption) (hdp) (by first | with_reducible assumption | decide | omega | rfl | assumption) hwi (by first | with_reducible assumption | decide | omega | rfl | assumption) H.size) (cwV 1 hts gwsRX12_readOne_2 rfl rfl rfl hd_yX12_begin1_RX12 (by decide +kernel)) (fz_pre (va_recv hK hP (ci := 12) (q0 := 0) rfl rfl) hP hK hD) rfl rfl hl.1 rfl (lv_room (Nat.le_of_ble_eq_true rfl)) dX12_readOne_257 (by decide +kernel)) hS (fun q _ h => hFc q h) hFc (fun u t9_ H locs ht hvm hw9 hB9 hz1 hk1 hS => ?_)
                revert u hw9 hB9
                refine fz_p10 ?_
                intro s2257_1 p2257_1 g39257_1 g40257_1 g41257_1 g42257_1 g47257_1 g48257_1 d2257_1 w2257_1 hw9 hB9
                try dsimp only at hw9 hB9
                have e9F : fT (fT (fT (fT (fT (fT (fT (fT vF 41 g41257_1) 46 (upd (vF 46) ((nI dN)).toNatClampNeg (vi 77))) 43 (upd (vF 43) ((nI dN)).toNatClampNeg (vi 20))) 40 g40257_1) 39 g39257_1) 42 g42257_1) 47 g47257_1) 48 g48257_1 = fT (fT (fT (fT (fT (fT (fT (fT (fT (fT vF 41 (upd (vF 41) ((nI dN)).toNatClampNeg (nI cR))) 46 (upd (vF 46) ((nI dN)).toNatClampNeg (vi 77))) 43 (upd (vF 43) ((nI dN)).toNatClampNeg (vi 20))) 40 (upd (vF 40) ((nI dN)).toNatClampNeg 4)) 39 g39257_1) 40 g40257_1) 41 g41257_1) 42 g42257_1) 47 g47257_1) 48 g48257_1 := Eq.symm (congrArg (fun g9 => fT (fT (fT g9 42 g42257_1) 47 g47257_1) 48 g48257_1) (Eq.trans (congrArg (fun g9 => fT g9 41 g41257_1) (up_1 rfl)) (up_4 rfl)))
                have hP := wr_PF e9F (fz_P ht hB9.1)
                have hD := wr_DF e9F (hB9.2.weaken (fun _ q _ h => hFc q.1 h))
                clear e9F
                revert hw9
                refine fz_a4 ?_
                intro f257_1_0 f257_1_1 f257_1_2 f257_1_3
                have f257_1_1 : 0 < (s2257_1).toInt ∨ (s2257_1 = (vi 21) ∧ BgO 0 wd245_1 sg245_1 g39257_1 g40257_1 g41257_1 g42257_1 g48257_1 (dN + 1) wi d2257_1 w2257_1) := f257_1_1
                have f257_1_2 : FrmO (dN + 1) (vF 39) (upd (vF 40) ((nI dN)).toNatClampNeg 4) (upd (vF 41) ((nI dN)).toNatClampNeg (nI cR)) (vF 42) (vF 48) g39257_1 g40257_1 g41257_1 g42257_1 g48257_1 := f257_1_2
                refine lv_goto (tgt := 314) hx hb dX12_readOne_260 (by decide) ?_
                refine W.widen (k := 0) (n := 0) (by decide +kernel) (by decide +kernel) ?_
                have e9 : fT (fT (fT (fT (fT (fT (fT (fT (fT (fT (fT vi 17 (nI a2245_1)) 19 (nI f2245_1)) 20 sg245_1) 18 wd245_1) 21 s2257_1) 22 p2257_1) 74 (nI d2257_1)) 75 (nI w2257_1)) 76 (vi 76)) 77 (vi 77)) 52 (nI nd) = fT (fT (fT (fT (fT (fT (fT (fT vi 17 (nI a2245_1)) 19 (nI f2245_1)) 20 sg245_1) 18 wd245_1) 75 (nI w2257_1)) 74 (nI d2257_1)) 21 s2257_1) 22 p2257_1 := Eq.trans (mv_2 rfl) (Eq.trans (id_10 rfl) (Eq.trans (mv_1 rfl) (Eq.trans (id_9 rfl) (Eq.trans (congrArg (fT _ 52) (show nI nd = vi 52 from (by first | with_reducible rfl | with_reducible assumption | (symm; with_reducible assumption) | rfl | assumption | (symm; assumption) | (subst_vars; rfl)))) (Eq.trans (id_8 rfl) (Eq.trans (mv_1 rfl) (Eq.trans (mv_3 rfl) (mv_3 rfl))))))))
                have hP := wr_Pi e9 hP
                have hD := wr_Di e9 hD
                clear e9
                have e9 : fT (fT (fT (fT (fT (fT (fT (fT (fT (fT (fT (fT (fT (fT (fT vF 41 g41257_1) 46 (upd (vF 46) ((nI dN)).toNatClampNeg (vi 77))) 43 (upd (vF 43) ((nI dN)).toNatClampNeg (vi 20))) 40 g40257_1) 39 g39257_1) 42 g42257_1) 47 g47257_1) 48 g48257_1) 29 (vF 29)) 30 (vF 30)) 31 (vF 31)) 32 (vF 32)) 33 (vF 33)) 34 (vF 34)) 35 (vF 35) = fT (fT (fT (fT (fT (fT (fT (fT vF 41 g41257_1) 46 (upd (vF 46) ((nI dN)).toNatClampNeg (vi 77))) 43 (upd (vF 43) ((nI dN)).toNatClampNeg (vi 20))) 40 g40257_1) 39 g39257_1) 42 g42257_1) 47 g47257_1) 48 g48257_1 := Eq.trans (mv_6 rfl) (Eq.trans (id_14 rfl) (Eq.trans (mv_5 rfl) (Eq.trans (id_13 rfl) (Eq.trans (mv_4 rfl) (Eq.trans (id_12 rfl) (Eq.trans (mv_3 rfl) (Eq.trans (id_11 rfl) (Eq.trans (mv_2 rfl) (Eq.trans (id_10 rfl) (Eq.trans (mv_1 rfl) (Eq.trans (id_9 rfl) (id_8 rfl))))))))))))
                have hP := wr_PF e9 hP
                have hD := wr_DF e9 hD
                clear e9
                exact W.vret hx hb hr (fun t9_ ht hW => ⟨⟨(a2245_1, f2245_1, sg245_1, wd245_1, s2257_1, p2257_1, (vF 29), (vF 30), (vF 31), (vF 32), (vF 33), (vF 34), (vF 35), g39257_1, g40257_1, g41257_1, g42257_1, (upd (vF 43) ((nI dN)).toNatClampNeg (vi 20)), (upd (vF 46) ((nI dN)).toNatClampNeg (vi 77)), g47257_1, g48257_1, d2257_1, w2257_1, nd, (vi 76), (vi 77), gG), rfl, by (try dsimp only); exact ⟨f245_1_0, by omega, f257_1_0, by rcases f257_1_1 with h9 | h9; (exact Or.inl h9); (exact Or.inr ⟨RdS.push (gm := gl) hK0.1 hBel hK0.2.1 (Nat.le_refl _) (fun q hq => ⟨rfl, by rw [upd_at (by omega), if_neg (by omega)], by rw [upd_at (by omega), if_neg (by omega)], rfl, rfl⟩) h39 (by decide) h48 (by omega) ⟨⟨by omega, fun h8 => absurd rfl h8, fun h8 => absurd h8 (by decide), Nat.le_refl _⟩, Or.inr (Or.inr (Or.inr (Or.inr (Or.inr (Or.inr (Or.inr (Or.inr (Or.inr (Or.inr (Or.inr (⟨rfl, rfl, by rw [upd_at (by omega), if_pos rfl], rfl, rfl, rfl, cR, by rw [upd_at (by omega), if_pos rfl], hcR.mono (by omega)⟩)))))))))))⟩ f257_1_2 (by rw [← hwc]; exact h9.2) (show (0 : Int32) = nI 0 by decide) (by decide) (by omega) (by omega) (by omega) (by omega) (by omega) (by show 10 * (4000 - _) + dN + 1 + 3 ≤ mM - 1; omega), hK0.2.1.less (Nat.zero_le _)⟩), by omega⟩, by rw [ht]; exact hP, hD⟩, hS.F ht⟩) hS.2.2 dX12_readOne_314
              · have t_190 : ¬ ((vi 20)).toInt = 71 := toI_neq c_190 rfl (by decide)
                refine lv_aload_n hx hb dX12_readOne_193 rfl (lv_at hl 0 rfl) ?_
                refine va_get (D := (dC, dI)) (ci := 12) (v := .int (vi 20)) (C := RX12) (T := TX12) (N := 163) (fs := fM (vS a vi vj)) hx hb hts iwsRX12_readOne_in12 hown hK hP 0 rfl rfl 20 (by decide) (hts _ hm_r_X12_readOne_5) (fun _ h9 => h9) rfl dX12_readOne_194 ?_
                refine lv_bipush (v := 60) hx hb dX12_readOne_197 (by decide) ?_
                refine lv_icmp_eq (tgt := 234) hx hb dX12_readOne_199 (by decide) (fun c_199 => ?_) (fun c_199 => ?_)
                · have t_199 : ((vi 20)).toInt = 60 := toI_eq c_199 rfl (by decide)
                  have hfl : fn < an := hLx.2.2.1.resolve_left (fun h => absurd (show (vi 18).toInt = 0 by rw [h]; decide) (by omega))
                  refine lv_aload_n hx hb dX12_readOne_234 rfl (lv_at hl 0 rfl) ?_
                  refine va_get (D := (dC, dI)) (ci := 12) (v := .ref (a 43)) (C := RX12) (T := TX12) (N := 163) (fs := fM (vS a vi vj)) hx hb hts iwsRX12_readOne_in12 hown hK hP 0 rfl rfl 68 (by decide) (hts _ hm_r_X12_readOne_6) (fun _ h9 => h9) rfl dX12_readOne_235 ?_
                  refine lv_iload_n hx hb dX12_readOne_238 rfl (lv_at hl 1 rfl) ?_
                  refine lv_aload_n hx hb dX12_readOne_239 rfl (lv_at hl 0 rfl) ?_
                  refine va_get (D := (dC, dI)) (ci := 12) (v := .int (vi 20)) (C := RX12) (T := TX12) (N := 163) (fs := fM (vS a vi vj)) hx hb hts iwsRX12_readOne_in12 hown hK hP 0 rfl rfl 20 (by decide) (hts _ hm_r_X12_readOne_5) (fun _ h9 => h9) rfl dX12_readOne_240 ?_
                  refine va_iast (cA := k 43) (n := 120) (f := (vF 43)) hx hb hK hP hD hS 44 43 (WR_get 43 (by decide)) (TR_get 43 (by decide)) (vp_in_nI (show dN < 120 by omega) (by omega)) dX12_readOne_243 (fun H locs hP hD hS => ?_)
                  have hP : va_P (dC, dI) vwCl (WR a k h0 vi vj (fT (fT (fT vF 41 (upd (vF 41) ((nI dN)).toNatClampNeg (nI cR))) 46 (upd (vF 46) ((nI dN)).toNatClampNeg (vi 77))) 43 (upd (vF 43) ((nI dN)).toNatClampNeg (vi 20))) vG) H := fz_w (WR_F 43 (by decide) _ rfl) hP
                  have hD : va_D A (WR a k h0 vi vj (fT (fT (fT vF 41 (upd (vF 41) ((nI dN)).toNatClampNeg (nI cR))) 46 (upd (vF 46) ((nI dN)).toNatClampNeg (vi 77))) 43 (upd (vF 43) ((nI dN)).toNatClampNeg (vi 20))) vG) := fz_wD (WR_F 43 (by decide) _ rfl) hD
                  refine lv_aload_n hx hb dX12_readOne_244 rfl (lv_at hl 0 rfl) ?_
                  have hFc := allFree hD hS hA
                  refine va_callv (va_runV (As := []) (rest := []) ⟨hx, hb, hml, hown, hts⟩ (r_X12_next l dC dI a k h0 vi vj (fT (fT (fT vF 41 (upd (vF 41) ((nI dN)).toNatClampNeg (nI cR))) 46 (upd (vF 46) ((nI dN)).toNatClampNeg (vi 77))) 43 (upd (vF 43) ((nI dN)).toNatClampNeg (vi 20))) vG tp an hTp (by first | with_reducible assumption | decide | omega | rfl | assumption) ha0 (by first | with_reducible assumption | decide | omega | rfl | assumption) H.size) (cwV 0 hts gwsRX12_readOne_1 rfl rfl rfl hd_yX12_next_RX12 (by decide +kernel)) (fz_preE (va_recv hK hP (ci := 12) (q0 := 0) rfl rfl) hP hK hD (fun a U g mk qE => qE.same rfl) (fun U hU9 hW => by rw [hU9]; exact (((hE : StrA A s s.heap).kept hS.2.1).narrow (fun q h => hFc q h)).warm hW)) rfl rfl hl.1 rfl (lv_room (Nat.le_of_ble_eq_true rfl)) dX12_readOne_245 (by decide +kernel)) hS (fun q _ h => hFc q h) hFc (fun u t9_ H locs ht hvm hw9 hB9 hz1 hk1 hS => ?_)
                  revert u hw9 hB9
                  refine fz_p4 ?_
                  intro a2245_2 f2245_2 sg245_2 wd245_2 hw9 hB9
                  try dsimp only at hw9 hB9
                  have hP : va_P (dC, dI) vwCl (WR a k h0 (fT (fT (fT (fT vi 17 (nI a2245_2)) 19 (nI f2245_2)) 20 sg245_2) 18 wd245_2) vj (fT (fT (fT vF 41 (upd (vF 41) ((nI dN)).toNatClampNeg (nI cR))) 46 (upd (vF 46) ((nI dN)).toNatClampNeg (vi 77))) 43 (upd (vF 43) ((nI dN)).toNatClampNeg (vi 20))) vG) H := fz_P ht hB9.1
                  have hD := fz_sd hP (hB9.2.weaken (fun _ q _ h => hFc q.1 h)) rfl
                  revert hw9
                  refine fz_a2 ?_
                  intro f245_2_0 f245_2_1
                  have hl1 := f245_2_0.1
                  have hl2 := f245_2_0.2.1
                  refine lv_aload_n hx hb dX12_readOne_248 rfl (lv_at hl 0 rfl) ?_
                  refine va_get (D := (dC, dI)) (ci := 12) (v := .ref (a 40)) (C := RX12) (T := TX12) (N := 163) (fs := fM (vS a (fT (fT (fT (fT vi 17 (nI a2245_2)) 19 (nI f2245_2)) 20 sg245_2) 18 wd245_2) vj)) hx hb hts iwsRX12_readOne_in12 hown hK hP 0 rfl rfl 65 (by decide) (hts _ hm_r_X12_readOne_0) (fun _ h9 => h9) rfl dX12_readOne_249 ?_
                  refine lv_iload_n hx hb dX12_readOne_252 rfl (lv_at hl 1 rfl) ?_
                  refine lv_iconst (v := 4) hx hb dX12_readOne_253 (by decide) ?_
                  refine va_iast (cA := k 40) (n := 120) (f := (vF 40)) hx hb hK hP hD hS 41 40 (WR_get 40 (by decide)) (TR_get 40 (by decide)) (vp_in_nI (show dN < 120 by omega) (by omega)) dX12_readOne_254 (fun H locs hP hD hS => ?_)
                  have hP : va_P (dC, dI) vwCl (WR a k h0 (fT (fT (fT (fT vi 17 (nI a2245_2)) 19 (nI f2245_2)) 20 sg245_2) 18 wd245_2) vj (fT (fT (fT (fT vF 41 (upd (vF 41) ((nI dN)).toNatClampNeg (nI cR))) 46 (upd (vF 46) ((nI dN)).toNatClampNeg (vi 77))) 43 (upd (vF 43) ((nI dN)).toNatClampNeg (vi 20))) 40 (upd (vF 40) ((nI dN)).toNatClampNeg 4)) vG) H := fz_w (WR_F 40 (by decide) _ rfl) hP
                  have hD : va_D A (WR a k h0 (fT (fT (fT (fT vi 17 (nI a2245_2)) 19 (nI f2245_2)) 20 sg245_2) 18 wd245_2) vj (fT (fT (fT (fT vF 41 (upd (vF 41) ((nI dN)).toNatClampNeg (nI cR))) 46 (upd (vF 46) ((nI dN)).toNatClampNeg (vi 77))) 43 (upd (vF 43) ((nI dN)).toNatClampNeg (vi 20))) 40 (upd (vF 40) ((nI dN)).toNatClampNeg 4)) vG) := fz_wD (WR_F 40 (by decide) _ rfl) hD
                  refine lv_aload_n hx hb dX12_readOne_255 rfl (lv_at hl 0 rfl) ?_
                  refine lv_iconst (v := 0) hx hb dX12_readOne_256 (by decide) ?_
                  have hFc := allFree hD hS hA
                  refine va_callv (va_runV (As := [.int 0]) (rest := []) ⟨hx, hb, hml, hown, hts⟩ (r_X12_begin1 l dC dI a k h0 (fT (fT (fT (fT vi 17 (nI a2245_2)) 19 (nI f2245_2)) 20 sg245_2) 18 wd245_2) vj (fT (fT (fT (fT vF 41 (upd (vF 41) ((nI dN)).toNatClampNeg (nI cR))) 46 (upd (vF 46) ((nI dN)).toNatClampNeg (vi 77))) 43 (upd (vF 43) ((nI dN)).toNatClampNeg (vi 20))) 40 (upd (vF 40) ((nI dN)).toNatClampNeg 4)) vG 0 tp a2245_2 f2245_2 nm se pa va bd (dN + 1) wi hTp (by first | with_reducible assumption | decide | omega | rfl | assumption) rfl rfl (f245_2_0) (by first | with_reducible assumption | decide | omega | rfl | assumption) hnm (by first | with_reducible assumption | decide | omega | rfl | assumption) (by first | with_reducible assumption | decide | omega | rfl | assumption) (by first | with_reducible assumption | decide | omega | rfl | assumption) hbd (by first | with_reducible assumption | decide | omega | rfl | assumption) (by first | with_reducible assumption | decide | omega | rfl | assumption) (hdp) (by first | with_reducible assumption | decide | omega | rfl | assumption) hwi (by first | with_reducible assumption | decide | omega | rfl | assumption) H.size) (cwV 1 hts gwsRX12_readOne_2 rfl rfl rfl hd_yX12_begin1_RX12 (by decide +kernel)) (fz_pre (va_recv hK hP (ci := 12) (q0 := 0) rfl rfl) hP hK hD) rfl rfl hl.1 rfl (lv_room (Nat.le_of_ble_eq_true rfl)) dX12_readOne_257 (by decide +kernel)) hS (fun q _ h => hFc q h) hFc (fun u t9_ H locs ht hvm hw9 hB9 hz1 hk1 hS => ?_)
                  revert u hw9 hB9
                  refine fz_p10 ?_
                  intro s2257_2 p2257_2 g39257_2 g40257_2 g41257_2 g42257_2 g47257_2 g48257_2 d2257_2 w2257_2 hw9 hB9
                  try dsimp only at hw9 hB9
                  have e9F : fT (fT (fT (fT (fT (fT (fT (fT vF 41 g41257_2) 46 (upd (vF 46) ((nI dN)).toNatClampNeg (vi 77))) 43 (upd (vF 43) ((nI dN)).toNatClampNeg (vi 20))) 40 g40257_2) 39 g39257_2) 42 g42257_2) 47 g47257_2) 48 g48257_2 = fT (fT (fT (fT (fT (fT (fT (fT (fT (fT vF 41 (upd (vF 41) ((nI dN)).toNatClampNeg (nI cR))) 46 (upd (vF 46) ((nI dN)).toNatClampNeg (vi 77))) 43 (upd (vF 43) ((nI dN)).toNatClampNeg (vi 20))) 40 (upd (vF 40) ((nI dN)).toNatClampNeg 4)) 39 g39257_2) 40 g40257_2) 41 g41257_2) 42 g42257_2) 47 g47257_2) 48 g48257_2 := Eq.symm (congrArg (fun g9 => fT (fT (fT g9 42 g42257_2) 47 g47257_2) 48 g48257_2) (Eq.trans (congrArg (fun g9 => fT g9 41 g41257_2) (up_1 rfl)) (up_4 rfl)))
                  have hP := wr_PF e9F (fz_P ht hB9.1)
                  have hD := wr_DF e9F (hB9.2.weaken (fun _ q _ h => hFc q.1 h))
                  clear e9F
                  revert hw9
                  refine fz_a4 ?_
                  intro f257_2_0 f257_2_1 f257_2_2 f257_2_3
                  have f257_2_1 : 0 < (s2257_2).toInt ∨ (s2257_2 = (vi 21) ∧ BgO 0 wd245_2 sg245_2 g39257_2 g40257_2 g41257_2 g42257_2 g48257_2 (dN + 1) wi d2257_2 w2257_2) := f257_2_1
                  have f257_2_2 : FrmO (dN + 1) (vF 39) (upd (vF 40) ((nI dN)).toNatClampNeg 4) (upd (vF 41) ((nI dN)).toNatClampNeg (nI cR)) (vF 42) (vF 48) g39257_2 g40257_2 g41257_2 g42257_2 g48257_2 := f257_2_2
                  refine lv_goto (tgt := 314) hx hb dX12_readOne_260 (by decide) ?_
                  refine W.widen (k := 0) (n := 0) (by decide +kernel) (by decide +kernel) ?_
                  have e9 : fT (fT (fT (fT (fT (fT (fT (fT (fT (fT (fT vi 17 (nI a2245_2)) 19 (nI f2245_2)) 20 sg245_2) 18 wd245_2) 21 s2257_2) 22 p2257_2) 74 (nI d2257_2)) 75 (nI w2257_2)) 76 (vi 76)) 77 (vi 77)) 52 (nI nd) = fT (fT (fT (fT (fT (fT (fT (fT vi 17 (nI a2245_2)) 19 (nI f2245_2)) 20 sg245_2) 18 wd245_2) 75 (nI w2257_2)) 74 (nI d2257_2)) 21 s2257_2) 22 p2257_2 := Eq.trans (mv_2 rfl) (Eq.trans (id_10 rfl) (Eq.trans (mv_1 rfl) (Eq.trans (id_9 rfl) (Eq.trans (congrArg (fT _ 52) (show nI nd = vi 52 from (by first | with_reducible rfl | with_reducible assumption | (symm; with_reducible assumption) | rfl | assumption | (symm; assumption) | (subst_vars; rfl)))) (Eq.trans (id_8 rfl) (Eq.trans (mv_1 rfl) (Eq.trans (mv_3 rfl) (mv_3 rfl))))))))
                  have hP := wr_Pi e9 hP
                  have hD := wr_Di e9 hD
                  clear e9
                  have e9 : fT (fT (fT (fT (fT (fT (fT (fT (fT (fT (fT (fT (fT (fT (fT vF 41 g41257_2) 46 (upd (vF 46) ((nI dN)).toNatClampNeg (vi 77))) 43 (upd (vF 43) ((nI dN)).toNatClampNeg (vi 20))) 40 g40257_2) 39 g39257_2) 42 g42257_2) 47 g47257_2) 48 g48257_2) 29 (vF 29)) 30 (vF 30)) 31 (vF 31)) 32 (vF 32)) 33 (vF 33)) 34 (vF 34)) 35 (vF 35) = fT (fT (fT (fT (fT (fT (fT (fT vF 41 g41257_2) 46 (upd (vF 46) ((nI dN)).toNatClampNeg (vi 77))) 43 (upd (vF 43) ((nI dN)).toNatClampNeg (vi 20))) 40 g40257_2) 39 g39257_2) 42 g42257_2) 47 g47257_2) 48 g48257_2 := Eq.trans (mv_6 rfl) (Eq.trans (id_14 rfl) (Eq.trans (mv_5 rfl) (Eq.trans (id_13 rfl) (Eq.trans (mv_4 rfl) (Eq.trans (id_12 rfl) (Eq.trans (mv_3 rfl) (Eq.trans (id_11 rfl) (Eq.trans (mv_2 rfl) (Eq.trans (id_10 rfl) (Eq.trans (mv_1 rfl) (Eq.trans (id_9 rfl) (id_8 rfl))))))))))))
                  have hP := wr_PF e9 hP
                  have hD := wr_DF e9 hD
                  clear e9
                  exact W.vret hx hb hr (fun t9_ ht hW => ⟨⟨(a2245_2, f2245_2, sg245_2, wd245_2, s2257_2, p2257_2, (vF 29), (vF 30), (vF 31), (vF 32), (vF 33), (vF 34), (vF 35), g39257_2, g40257_2, g41257_2, g42257_2, (upd (vF 43) ((nI dN)).toNatClampNeg (vi 20)), (upd (vF 46) ((nI dN)).toNatClampNeg (vi 77)), g47257_2, g48257_2, d2257_2, w2257_2, nd, (vi 76), (vi 77), gG), rfl, by (try dsimp only); exact ⟨f245_2_0, by omega, f257_2_0, by rcases f257_2_1 with h9 | h9; (exact Or.inl h9); (exact Or.inr ⟨RdS.push (gm := gl) hK0.1 hBel hK0.2.1 (Nat.le_refl _) (fun q hq => ⟨rfl, by rw [upd_at (by omega), if_neg (by omega)], by rw [upd_at (by omega), if_neg (by omega)], rfl, rfl⟩) h39 (by decide) h48 (by omega) ⟨⟨by omega, fun h8 => absurd rfl h8, fun h8 => absurd h8 (by decide), Nat.le_refl _⟩, Or.inr (Or.inr (Or.inr (Or.inr (Or.inr (Or.inr (Or.inr (Or.inr (Or.inr (Or.inr (Or.inr (⟨rfl, rfl, by rw [upd_at (by omega), if_pos rfl], rfl, rfl, rfl, cR, by rw [upd_at (by omega), if_pos rfl], hcR.mono (by omega)⟩)))))))))))⟩ f257_2_2 (by rw [← hwc]; exact h9.2) (show (0 : Int32) = nI 0 by decide) (by decide) (by omega) (by omega) (by omega) (by omega) (by omega) (by show 10 * (4000 - _) + dN + 1 + 3 ≤ mM - 1; omega), hK0.2.1.less (Nat.zero_le _)⟩), by omega⟩, by rw [ht]; exact hP, hD⟩, hS.F ht⟩) hS.2.2 dX12_readOne_314
                · have t_199 : ¬ ((vi 20)).toInt = 60 := toI_neq c_199 rfl (by decide)
                  refine lv_aload_n hx hb dX12_readOne_202 rfl (lv_at hl 0 rfl) ?_
                  refine va_get (D := (dC, dI)) (ci := 12) (v := .int (vi 20)) (C := RX12) (T := TX12) (N := 163) (fs := fM (vS a vi vj)) hx hb hts iwsRX12_readOne_in12 hown hK hP 0 rfl rfl 20 (by decide) (hts _ hm_r_X12_readOne_5) (fun _ h9 => h9) rfl dX12_readOne_203 ?_
                  refine lv_bipush (v := 62) hx hb dX12_readOne_206 (by decide) ?_
                  refine lv_icmp_eq (tgt := 234) hx hb dX12_readOne_208 (by decide) (fun c_208 => ?_) (fun c_208 => ?_)
                  · have t_208 : ((vi 20)).toInt = 62 := toI_eq c_208 rfl (by decide)
                    have hfl : fn < an := hLx.2.2.1.resolve_left (fun h => absurd (show (vi 18).toInt = 0 by rw [h]; decide) (by omega))
                    refine lv_aload_n hx hb dX12_readOne_234 rfl (lv_at hl 0 rfl) ?_
                    refine va_get (D := (dC, dI)) (ci := 12) (v := .ref (a 43)) (C := RX12) (T := TX12) (N := 163) (fs := fM (vS a vi vj)) hx hb hts iwsRX12_readOne_in12 hown hK hP 0 rfl rfl 68 (by decide) (hts _ hm_r_X12_readOne_6) (fun _ h9 => h9) rfl dX12_readOne_235 ?_
                    refine lv_iload_n hx hb dX12_readOne_238 rfl (lv_at hl 1 rfl) ?_
                    refine lv_aload_n hx hb dX12_readOne_239 rfl (lv_at hl 0 rfl) ?_
                    refine va_get (D := (dC, dI)) (ci := 12) (v := .int (vi 20)) (C := RX12) (T := TX12) (N := 163) (fs := fM (vS a vi vj)) hx hb hts iwsRX12_readOne_in12 hown hK hP 0 rfl rfl 20 (by decide) (hts _ hm_r_X12_readOne_5) (fun _ h9 => h9) rfl dX12_readOne_240 ?_
                    refine va_iast (cA := k 43) (n := 120) (f := (vF 43)) hx hb hK hP hD hS 44 43 (WR_get 43 (by decide)) (TR_get 43 (by decide)) (vp_in_nI (show dN < 120 by omega) (by omega)) dX12_readOne_243 (fun H locs hP hD hS => ?_)
                    have hP : va_P (dC, dI) vwCl (WR a k h0 vi vj (fT (fT (fT vF 41 (upd (vF 41) ((nI dN)).toNatClampNeg (nI cR))) 46 (upd (vF 46) ((nI dN)).toNatClampNeg (vi 77))) 43 (upd (vF 43) ((nI dN)).toNatClampNeg (vi 20))) vG) H := fz_w (WR_F 43 (by decide) _ rfl) hP
                    have hD : va_D A (WR a k h0 vi vj (fT (fT (fT vF 41 (upd (vF 41) ((nI dN)).toNatClampNeg (nI cR))) 46 (upd (vF 46) ((nI dN)).toNatClampNeg (vi 77))) 43 (upd (vF 43) ((nI dN)).toNatClampNeg (vi 20))) vG) := fz_wD (WR_F 43 (by decide) _ rfl) hD
                    refine lv_aload_n hx hb dX12_readOne_244 rfl (lv_at hl 0 rfl) ?_
                    have hFc := allFree hD hS hA
                    refine va_callv (va_runV (As := []) (rest := []) ⟨hx, hb, hml, hown, hts⟩ (r_X12_next l dC dI a k h0 vi vj (fT (fT (fT vF 41 (upd (vF 41) ((nI dN)).toNatClampNeg (nI cR))) 46 (upd (vF 46) ((nI dN)).toNatClampNeg (vi 77))) 43 (upd (vF 43) ((nI dN)).toNatClampNeg (vi 20))) vG tp an hTp (by first | with_reducible assumption | decide | omega | rfl | assumption) ha0 (by first | with_reducible assumption | decide | omega | rfl | assumption) H.size) (cwV 0 hts gwsRX12_readOne_1 rfl rfl rfl hd_yX12_next_RX12 (by decide +kernel)) (fz_preE (va_recv hK hP (ci := 12) (q0 := 0) rfl rfl) hP hK hD (fun a U g mk qE => qE.same rfl) (fun U hU9 hW => by rw [hU9]; exact (((hE : StrA A s s.heap).kept hS.2.1).narrow (fun q h => hFc q h)).warm hW)) rfl rfl hl.1 rfl (lv_room (Nat.le_of_ble_eq_true rfl)) dX12_readOne_245 (by decide +kernel)) hS (fun q _ h => hFc q h) hFc (fun u t9_ H locs ht hvm hw9 hB9 hz1 hk1 hS => ?_)
                    revert u hw9 hB9
                    refine fz_p4 ?_
                    intro a2245_3 f2245_3 sg245_3 wd245_3 hw9 hB9
                    try dsimp only at hw9 hB9
                    have hP : va_P (dC, dI) vwCl (WR a k h0 (fT (fT (fT (fT vi 17 (nI a2245_3)) 19 (nI f2245_3)) 20 sg245_3) 18 wd245_3) vj (fT (fT (fT vF 41 (upd (vF 41) ((nI dN)).toNatClampNeg (nI cR))) 46 (upd (vF 46) ((nI dN)).toNatClampNeg (vi 77))) 43 (upd (vF 43) ((nI dN)).toNatClampNeg (vi 20))) vG) H := fz_P ht hB9.1
                    have hD := fz_sd hP (hB9.2.weaken (fun _ q _ h => hFc q.1 h)) rfl
                    revert hw9
                    refine fz_a2 ?_
                    intro f245_3_0 f245_3_1
                    have hl1 := f245_3_0.1
                    have hl2 := f245_3_0.2.1
                    refine lv_aload_n hx hb dX12_readOne_248 rfl (lv_at hl 0 rfl) ?_
                    refine va_get (D := (dC, dI)) (ci := 12) (v := .ref (a 40)) (C := RX12) (T := TX12) (N := 163) (fs := fM (vS a (fT (fT (fT (fT vi 17 (nI a2245_3)) 19 (nI f2245_3)) 20 sg245_3) 18 wd245_3) vj)) hx hb hts iwsRX12_readOne_in12 hown hK hP 0 rfl rfl 65 (by decide) (hts _ hm_r_X12_readOne_0) (fun _ h9 => h9) rfl dX12_readOne_249 ?_
                    refine lv_iload_n hx hb dX12_readOne_252 rfl (lv_at hl 1 rfl) ?_
                    refine lv_iconst (v := 4) hx hb dX12_readOne_253 (by decide) ?_
                    refine va_iast (cA := k 40) (n := 120) (f := (vF 40)) hx hb hK hP hD hS 41 40 (WR_get 40 (by decide)) (TR_get 40 (by decide)) (vp_in_nI (show dN < 120 by omega) (by omega)) dX12_readOne_254 (fun H locs hP hD hS => ?_)
                    have hP : va_P (dC, dI) vwCl (WR a k h0 (fT (fT (fT (fT vi 17 (nI a2245_3)) 19 (nI f2245_3)) 20 sg245_3) 18 wd245_3) vj (fT (fT (fT (fT vF 41 (upd (vF 41) ((nI dN)).toNatClampNeg (nI cR))) 46 (upd (vF 46) ((nI dN)).toNatClampNeg (vi 77))) 43 (upd (vF 43) ((nI dN)).toNatClampNeg (vi 20))) 40 (upd (vF 40) ((nI dN)).toNatClampNeg 4)) vG) H := fz_w (WR_F 40 (by decide) _ rfl) hP
                    have hD : va_D A (WR a k h0 (fT (fT (fT (fT vi 17 (nI a2245_3)) 19 (nI f2245_3)) 20 sg245_3) 18 wd245_3) vj (fT (fT (fT (fT vF 41 (upd (vF 41) ((nI dN)).toNatClampNeg (nI cR))) 46 (upd (vF 46) ((nI dN)).toNatClampNeg (vi 77))) 43 (upd (vF 43) ((nI dN)).toNatClampNeg (vi 20))) 40 (upd (vF 40) ((nI dN)).toNatClampNeg 4)) vG) := fz_wD (WR_F 40 (by decide) _ rfl) hD
                    refine lv_aload_n hx hb dX12_readOne_255 rfl (lv_at hl 0 rfl) ?_
                    refine lv_iconst (v := 0) hx hb dX12_readOne_256 (by decide) ?_
                    have hFc := allFree hD hS hA
                    refine va_callv (va_runV (As := [.int 0]) (rest := []) ⟨hx, hb, hml, hown, hts⟩ (r_X12_begin1 l dC dI a k h0 (fT (fT (fT (fT vi 17 (nI a2245_3)) 19 (nI f2245_3)) 20 sg245_3) 18 wd245_3) vj (fT (fT (fT (fT vF 41 (upd (vF 41) ((nI dN)).toNatClampNeg (nI cR))) 46 (upd (vF 46) ((nI dN)).toNatClampNeg (vi 77))) 43 (upd (vF 43) ((nI dN)).toNatClampNeg (vi 20))) 40 (upd (vF 40) ((nI dN)).toNatClampNeg 4)) vG 0 tp a2245_3 f2245_3 nm se pa va bd (dN + 1) wi hTp (by first | with_reducible assumption | decide | omega | rfl | assumption) rfl rfl (f245_3_0) (by first | with_reducible assumption | decide | omega | rfl | assumption) hnm (by first | with_reducible assumption | decide | omega | rfl | assumption) (by first | with_reducible assumption | decide | omega | rfl | assumption) (by first | with_reducible assumption | decide | omega | rfl | assumption) hbd (by first | with_reducible assumption | decide | omega | rfl | assumption) (by first | with_reducible assumption | decide | omega | rfl | assumption) (hdp) (by first | with_reducible assumption | decide | omega | rfl | assumption) hwi (by first | with_reducible assumption | decide | omega | rfl | assumption) H.size) (cwV 1 hts gwsRX12_readOne_2 rfl rfl rfl hd_yX12_begin1_RX12 (by decide +kernel)) (fz_pre (va_recv hK hP (ci := 12) (q0 := 0) rfl rfl) hP hK hD) rfl rfl hl.1 rfl (lv_room (Nat.le_of_ble_eq_true rfl)) dX12_readOne_257 (by decide +kernel)) hS (fun q _ h => hFc q h) hFc (fun u t9_ H locs ht hvm hw9 hB9 hz1 hk1 hS => ?_)
                    revert u hw9 hB9
                    refine fz_p10 ?_
                    intro s2257_3 p2257_3 g39257_3 g40257_3 g41257_3 g42257_3 g47257_3 g48257_3 d2257_3 w2257_3 hw9 hB9
                    try dsimp only at hw9 hB9
                    have e9F : fT (fT (fT (fT (fT (fT (fT (fT vF 41 g41257_3) 46 (upd (vF 46) ((nI dN)).toNatClampNeg (vi 77))) 43 (upd (vF 43) ((nI dN)).toNatClampNeg (vi 20))) 40 g40257_3) 39 g39257_3) 42 g42257_3) 47 g47257_3) 48 g48257_3 = fT (fT (fT (fT (fT (fT (fT (fT (fT (fT vF 41 (upd (vF 41) ((nI dN)).toNatClampNeg (nI cR))) 46 (upd (vF 46) ((nI dN)).toNatClampNeg (vi 77))) 43 (upd (vF 43) ((nI dN)).toNatClampNeg (vi 20))) 40 (upd (vF 40) ((nI dN)).toNatClampNeg 4)) 39 g39257_3) 40 g40257_3) 41 g41257_3) 42 g42257_3) 47 g47257_3) 48 g48257_3 := Eq.symm (congrArg (fun g9 => fT (fT (fT g9 42 g42257_3) 47 g47257_3) 48 g48257_3) (Eq.trans (congrArg (fun g9 => fT g9 41 g41257_3) (up_1 rfl)) (up_4 rfl)))
                    have hP := wr_PF e9F (fz_P ht hB9.1)
                    have hD := wr_DF e9F (hB9.2.weaken (fun _ q _ h => hFc q.1 h))
                    clear e9F
                    revert hw9
                    refine fz_a4 ?_
                    intro f257_3_0 f257_3_1 f257_3_2 f257_3_3
                    have f257_3_1 : 0 < (s2257_3).toInt ∨ (s2257_3 = (vi 21) ∧ BgO 0 wd245_3 sg245_3 g39257_3 g40257_3 g41257_3 g42257_3 g48257_3 (dN + 1) wi d2257_3 w2257_3) := f257_3_1
                    have f257_3_2 : FrmO (dN + 1) (vF 39) (upd (vF 40) ((nI dN)).toNatClampNeg 4) (upd (vF 41) ((nI dN)).toNatClampNeg (nI cR)) (vF 42) (vF 48) g39257_3 g40257_3 g41257_3 g42257_3 g48257_3 := f257_3_2
                    refine lv_goto (tgt := 314) hx hb dX12_readOne_260 (by decide) ?_
                    refine W.widen (k := 0) (n := 0) (by decide +kernel) (by decide +kernel) ?_
                    have e9 : fT (fT (fT (fT (fT (fT (fT (fT (fT (fT (fT vi 17 (nI a2245_3)) 19 (nI f2245_3)) 20 sg245_3) 18 wd245_3) 21 s2257_3) 22 p2257_3) 74 (nI d2257_3)) 75 (nI w2257_3)) 76 (vi 76)) 77 (vi 77)) 52 (nI nd) = fT (fT (fT (fT (fT (fT (fT (fT vi 17 (nI a2245_3)) 19 (nI f2245_3)) 20 sg245_3) 18 wd245_3) 75 (nI w2257_3)) 74 (nI d2257_3)) 21 s2257_3) 22 p2257_3 := Eq.trans (mv_2 rfl) (Eq.trans (id_10 rfl) (Eq.trans (mv_1 rfl) (Eq.trans (id_9 rfl) (Eq.trans (congrArg (fT _ 52) (show nI nd = vi 52 from (by first | with_reducible rfl | with_reducible assumption | (symm; with_reducible assumption) | rfl | assumption | (symm; assumption) | (subst_vars; rfl)))) (Eq.trans (id_8 rfl) (Eq.trans (mv_1 rfl) (Eq.trans (mv_3 rfl) (mv_3 rfl))))))))
                    have hP := wr_Pi e9 hP
                    have hD := wr_Di e9 hD
                    clear e9
                    have e9 : fT (fT (fT (fT (fT (fT (fT (fT (fT (fT (fT (fT (fT (fT (fT vF 41 g41257_3) 46 (upd (vF 46) ((nI dN)).toNatClampNeg (vi 77))) 43 (upd (vF 43) ((nI dN)).toNatClampNeg (vi 20))) 40 g40257_3) 39 g39257_3) 42 g42257_3) 47 g47257_3) 48 g48257_3) 29 (vF 29)) 30 (vF 30)) 31 (vF 31)) 32 (vF 32)) 33 (vF 33)) 34 (vF 34)) 35 (vF 35) = fT (fT (fT (fT (fT (fT (fT (fT vF 41 g41257_3) 46 (upd (vF 46) ((nI dN)).toNatClampNeg (vi 77))) 43 (upd (vF 43) ((nI dN)).toNatClampNeg (vi 20))) 40 g40257_3) 39 g39257_3) 42 g42257_3) 47 g47257_3) 48 g48257_3 := Eq.trans (mv_6 rfl) (Eq.trans (id_14 rfl) (Eq.trans (mv_5 rfl) (Eq.trans (id_13 rfl) (Eq.trans (mv_4 rfl) (Eq.trans (id_12 rfl) (Eq.trans (mv_3 rfl) (Eq.trans (id_11 rfl) (Eq.trans (mv_2 rfl) (Eq.trans (id_10 rfl) (Eq.trans (mv_1 rfl) (Eq.trans (id_9 rfl) (id_8 rfl))))))))))))
                    have hP := wr_PF e9 hP
                    have hD := wr_DF e9 hD
                    clear e9
                    exact W.vret hx hb hr (fun t9_ ht hW => ⟨⟨(a2245_3, f2245_3, sg245_3, wd245_3, s2257_3, p2257_3, (vF 29), (vF 30), (vF 31), (vF 32), (vF 33), (vF 34), (vF 35), g39257_3, g40257_3, g41257_3, g42257_3, (upd (vF 43) ((nI dN)).toNatClampNeg (vi 20)), (upd (vF 46) ((nI dN)).toNatClampNeg (vi 77)), g47257_3, g48257_3, d2257_3, w2257_3, nd, (vi 76), (vi 77), gG), rfl, by (try dsimp only); exact ⟨f245_3_0, by omega, f257_3_0, by rcases f257_3_1 with h9 | h9; (exact Or.inl h9); (exact Or.inr ⟨RdS.push (gm := gl) hK0.1 hBel hK0.2.1 (Nat.le_refl _) (fun q hq => ⟨rfl, by rw [upd_at (by omega), if_neg (by omega)], by rw [upd_at (by omega), if_neg (by omega)], rfl, rfl⟩) h39 (by decide) h48 (by omega) ⟨⟨by omega, fun h8 => absurd rfl h8, fun h8 => absurd h8 (by decide), Nat.le_refl _⟩, Or.inr (Or.inr (Or.inr (Or.inr (Or.inr (Or.inr (Or.inr (Or.inr (Or.inr (Or.inr (Or.inr (⟨rfl, rfl, by rw [upd_at (by omega), if_pos rfl], rfl, rfl, rfl, cR, by rw [upd_at (by omega), if_pos rfl], hcR.mono (by omega)⟩)))))))))))⟩ f257_3_2 (by rw [← hwc]; exact h9.2) (show (0 : Int32) = nI 0 by decide) (by decide) (by omega) (by omega) (by omega) (by omega) (by omega) (by show 10 * (4000 - _) + dN + 1 + 3 ≤ mM - 1; omega), hK0.2.1.less (Nat.zero_le _)⟩), by omega⟩, by rw [ht]; exact hP, hD⟩, hS.F ht⟩) hS.2.2 dX12_readOne_314
                  · have t_208 : ¬ ((vi 20)).toInt = 62 := toI_neq c_208 rfl (by decide)
                    refine lv_aload_n hx hb dX12_readOne_211 rfl (lv_at hl 0 rfl) ?_
                    refine va_get (D := (dC, dI)) (ci := 12) (v := .int (vi 20)) (C := RX12) (T := TX12) (N := 163) (fs := fM (vS a vi vj)) hx hb hts iwsRX12_readOne_in12 hown hK hP 0 rfl rfl 20 (by decide) (hts _ hm_r_X12_readOne_5) (fun _ h9 => h9) rfl dX12_readOne_212 ?_
                    refine lv_bipush (v := 61) hx hb dX12_readOne_215 (by decide) ?_
                    refine lv_icmp_eq (tgt := 234) hx hb dX12_readOne_217 (by decide) (fun c_217 => ?_) (fun c_217 => ?_)
                    · have t_217 : ((vi 20)).toInt = 61 := toI_eq c_217 rfl (by decide)
                      have hfl : fn < an := hLx.2.2.1.resolve_left (fun h => absurd (show (vi 18).toInt = 0 by rw [h]; decide) (by omega))
                      refine lv_aload_n hx hb dX12_readOne_234 rfl (lv_at hl 0 rfl) ?_
                      refine va_get (D := (dC, dI)) (ci := 12) (v := .ref (a 43)) (C := RX12) (T := TX12) (N := 163) (fs := fM (vS a vi vj)) hx hb hts iwsRX12_readOne_in12 hown hK hP 0 rfl rfl 68 (by decide) (hts _ hm_r_X12_readOne_6) (fun _ h9 => h9) rfl dX12_readOne_235 ?_
                      refine lv_iload_n hx hb dX12_readOne_238 rfl (lv_at hl 1 rfl) ?_
                      refine lv_aload_n hx hb dX12_readOne_239 rfl (lv_at hl 0 rfl) ?_
                      refine va_get (D := (dC, dI)) (ci := 12) (v := .int (vi 20)) (C := RX12) (T := TX12) (N := 163) (fs := fM (vS a vi vj)) hx hb hts iwsRX12_readOne_in12 hown hK hP 0 rfl rfl 20 (by decide) (hts _ hm_r_X12_readOne_5) (fun _ h9 => h9) rfl dX12_readOne_240 ?_
                      refine va_iast (cA := k 43) (n := 120) (f := (vF 43)) hx hb hK hP hD hS 44 43 (WR_get 43 (by decide)) (TR_get 43 (by decide)) (vp_in_nI (show dN < 120 by omega) (by omega)) dX12_readOne_243 (fun H locs hP hD hS => ?_)
                      have hP : va_P (dC, dI) vwCl (WR a k h0 vi vj (fT (fT (fT vF 41 (upd (vF 41) ((nI dN)).toNatClampNeg (nI cR))) 46 (upd (vF 46) ((nI dN)).toNatClampNeg (vi 77))) 43 (upd (vF 43) ((nI dN)).toNatClampNeg (vi 20))) vG) H := fz_w (WR_F 43 (by decide) _ rfl) hP
                      have hD : va_D A (WR a k h0 vi vj (fT (fT (fT vF 41 (upd (vF 41) ((nI dN)).toNatClampNeg (nI cR))) 46 (upd (vF 46) ((nI dN)).toNatClampNeg (vi 77))) 43 (upd (vF 43) ((nI dN)).toNatClampNeg (vi 20))) vG) := fz_wD (WR_F 43 (by decide) _ rfl) hD
                      refine lv_aload_n hx hb dX12_readOne_244 rfl (lv_at hl 0 rfl) ?_
                      have hFc := allFree hD hS hA
                      refine va_callv (va_runV (As := []) (rest := []) ⟨hx, hb, hml, hown, hts⟩ (r_X12_next l dC dI a k h0 vi vj (fT (fT (fT vF 41 (upd (vF 41) ((nI dN)).toNatClampNeg (nI cR))) 46 (upd (vF 46) ((nI dN)).toNatClampNeg (vi 77))) 43 (upd (vF 43) ((nI dN)).toNatClampNeg (vi 20))) vG tp an hTp (by first | with_reducible assumption | decide | omega | rfl | assumption) ha0 (by first | with_reducible assumption | decide | omega | rfl | assumption) H.size) (cwV 0 hts gwsRX12_readOne_1 rfl rfl rfl hd_yX12_next_RX12 (by decide +kernel)) (fz_preE (va_recv hK hP (ci := 12) (q0 := 0) rfl rfl) hP hK hD (fun a U g mk qE => qE.same rfl) (fun U hU9 hW => by rw [hU9]; exact (((hE : StrA A s s.heap).kept hS.2.1).narrow (fun q h => hFc q h)).warm hW)) rfl rfl hl.1 rfl (lv_room (Nat.le_of_ble_eq_true rfl)) dX12_readOne_245 (by decide +kernel)) hS (fun q _ h => hFc q h) hFc (fun u t9_ H locs ht hvm hw9 hB9 hz1 hk1 hS => ?_)
                      revert u hw9 hB9
                      refine fz_p4 ?_
                      intro a2245_4 f2245_4 sg245_4 wd245_4 hw9 hB9
                      try dsimp only at hw9 hB9
                      have hP : va_P (dC, dI) vwCl (WR a k h0 (fT (fT (fT (fT vi 17 (nI a2245_4)) 19 (nI f2245_4)) 20 sg245_4) 18 wd245_4) vj (fT (fT (fT vF 41 (upd (vF 41) ((nI dN)).toNatClampNeg (nI cR))) 46 (upd (vF 46) ((nI dN)).toNatClampNeg (vi 77))) 43 (upd (vF 43) ((nI dN)).toNatClampNeg (vi 20))) vG) H := fz_P ht hB9.1
                      have hD := fz_sd hP (hB9.2.weaken (fun _ q _ h => hFc q.1 h)) rfl
                      revert hw9
                      refine fz_a2 ?_
                      intro f245_4_0 f245_4_1
                      have hl1 := f245_4_0.1
                      have hl2 := f245_4_0.2.1
                      refine lv_aload_n hx hb dX12_readOne_248 rfl (lv_at hl 0 rfl) ?_
                      refine va_get (D := (dC, dI)) (ci := 12) (v := .ref (a 40)) (C := RX12) (T := TX12) (N := 163) (fs := fM (vS a (fT (fT (fT (fT vi 17 (nI a2245_4)) 19 (nI f2245_4)) 20 sg245_4) 18 wd245_4) vj)) hx hb hts iwsRX12_readOne_in12 hown hK hP 0 rfl rfl 65 (by decide) (hts _ hm_r_X12_readOne_0) (fun _ h9 => h9) rfl dX12_readOne_249 ?_
                      refine lv_iload_n hx hb dX12_readOne_252 rfl (lv_at hl 1 rfl) ?_
                      refine lv_iconst (v := 4) hx hb dX12_readOne_253 (by decide) ?_
                      refine va_iast (cA := k 40) (n := 120) (f := (vF 40)) hx hb hK hP hD hS 41 40 (WR_get 40 (by decide)) (TR_get 40 (by decide)) (vp_in_nI (show dN < 120 by omega) (by omega)) dX12_readOne_254 (fun H locs hP hD hS => ?_)
                      have hP : va_P (dC, dI) vwCl (WR a k h0 (fT (fT (fT (fT vi 17 (nI a2245_4)) 19 (nI f2245_4)) 20 sg245_4) 18 wd245_4) vj (fT (fT (fT (fT vF 41 (upd (vF 41) ((nI dN)).toNatClampNeg (nI cR))) 46 (upd (vF 46) ((nI dN)).toNatClampNeg (vi 77))) 43 (upd (vF 43) ((nI dN)).toNatClampNeg (vi 20))) 40 (upd (vF 40) ((nI dN)).toNatClampNeg 4)) vG) H := fz_w (WR_F 40 (by decide) _ rfl) hP
                      have hD : va_D A (WR a k h0 (fT (fT (fT (fT vi 17 (nI a2245_4)) 19 (nI f2245_4)) 20 sg245_4) 18 wd245_4) vj (fT (fT (fT (fT vF 41 (upd (vF 41) ((nI dN)).toNatClampNeg (nI cR))) 46 (upd (vF 46) ((nI dN)).toNatClampNeg (vi 77))) 43 (upd (vF 43) ((nI dN)).toNatClampNeg (vi 20))) 40 (upd (vF 40) ((nI dN)).toNatClampNeg 4)) vG) := fz_wD (WR_F 40 (by decide) _ rfl) hD
                      refine lv_aload_n hx hb dX12_readOne_255 rfl (lv_at hl 0 rfl) ?_
                      refine lv_iconst (v := 0) hx hb dX12_readOne_256 (by decide) ?_
                      have hFc := allFree hD hS hA
                      refine va_callv (va_runV (As := [.int 0]) (rest := []) ⟨hx, hb, hml, hown, hts⟩ (r_X12_begin1 l dC dI a k h0 (fT (fT (fT (fT vi 17 (nI a2245_4)) 19 (nI f2245_4)) 20 sg245_4) 18 wd245_4) vj (fT (fT (fT (fT vF 41 (upd (vF 41) ((nI dN)).toNatClampNeg (nI cR))) 46 (upd (vF 46) ((nI dN)).toNatClampNeg (vi 77))) 43 (upd (vF 43) ((nI dN)).toNatClampNeg (vi 20))) 40 (upd (vF 40) ((nI dN)).toNatClampNeg 4)) vG 0 tp a2245_4 f2245_4 nm se pa va bd (dN + 1) wi hTp (by first | with_reducible assumption | decide | omega | rfl | assumption) rfl rfl (f245_4_0) (by first | with_reducible assumption | decide | omega | rfl | assumption) hnm (by first | with_reducible assumption | decide | omega | rfl | assumption) (by first | with_reducible assumption | decide | omega | rfl | assumption) (by first | with_reducible assumption | decide | omega | rfl | assumption) hbd (by first | with_reducible assumption | decide | omega | rfl | assumption) (by first | with_reducible assumption | decide | omega | rfl | assumption) (hdp) (by first | with_reducible assumption | decide | omega | rfl | assumption) hwi (by first | with_reducible assumption | decide | omega | rfl | assumption) H.size) (cwV 1 hts gwsRX12_readOne_2 rfl rfl rfl hd_yX12_begin1_RX12 (by decide +kernel)) (fz_pre (va_recv hK hP (ci := 12) (q0 := 0) rfl rfl) hP hK hD) rfl rfl hl.1 rfl (lv_room (Nat.le_of_ble_eq_true rfl)) dX12_readOne_257 (by decide +kernel)) hS (fun q _ h => hFc q h) hFc (fun u t9_ H locs ht hvm hw9 hB9 hz1 hk1 hS => ?_)
                      revert u hw9 hB9
                      refine fz_p10 ?_
                      intro s2257_4 p2257_4 g39257_4 g40257_4 g41257_4 g42257_4 g47257_4 g48257_4 d2257_4 w2257_4 hw9 hB9
                      try dsimp only at hw9 hB9
                      have e9F : fT (fT (fT (fT (fT (fT (fT (fT vF 41 g41257_4) 46 (upd (vF 46) ((nI dN)).toNatClampNeg (vi 77))) 43 (upd (vF 43) ((nI dN)).toNatClampNeg (vi 20))) 40 g40257_4) 39 g39257_4) 42 g42257_4) 47 g47257_4) 48 g48257_4 = fT (fT (fT (fT (fT (fT (fT (fT (fT (fT vF 41 (upd (vF 41) ((nI dN)).toNatClampNeg (nI cR))) 46 (upd (vF 46) ((nI dN)).toNatClampNeg (vi 77))) 43 (upd (vF 43) ((nI dN)).toNatClampNeg (vi 20))) 40 (upd (vF 40) ((nI dN)).toNatClampNeg 4)) 39 g39257_4) 40 g40257_4) 41 g41257_4) 42 g42257_4) 47 g47257_4) 48 g48257_4 := Eq.symm (congrArg (fun g9 => fT (fT (fT g9 42 g42257_4) 47 g47257_4) 48 g48257_4) (Eq.trans (congrArg (fun g9 => fT g9 41 g41257_4) (up_1 rfl)) (up_4 rfl)))
                      have hP := wr_PF e9F (fz_P ht hB9.1)
                      have hD := wr_DF e9F (hB9.2.weaken (fun _ q _ h => hFc q.1 h))
                      clear e9F
                      revert hw9
                      refine fz_a4 ?_
                      intro f257_4_0 f257_4_1 f257_4_2 f257_4_3
                      have f257_4_1 : 0 < (s2257_4).toInt ∨ (s2257_4 = (vi 21) ∧ BgO 0 wd245_4 sg245_4 g39257_4 g40257_4 g41257_4 g42257_4 g48257_4 (dN + 1) wi d2257_4 w2257_4) := f257_4_1
                      have f257_4_2 : FrmO (dN + 1) (vF 39) (upd (vF 40) ((nI dN)).toNatClampNeg 4) (upd (vF 41) ((nI dN)).toNatClampNeg (nI cR)) (vF 42) (vF 48) g39257_4 g40257_4 g41257_4 g42257_4 g48257_4 := f257_4_2
                      refine lv_goto (tgt := 314) hx hb dX12_readOne_260 (by decide) ?_
                      refine W.widen (k := 0) (n := 0) (by decide +kernel) (by decide +kernel) ?_
                      have e9 : fT (fT (fT (fT (fT (fT (fT (fT (fT (fT (fT vi 17 (nI a2245_4)) 19 (nI f2245_4)) 20 sg245_4) 18 wd245_4) 21 s2257_4) 22 p2257_4) 74 (nI d2257_4)) 75 (nI w2257_4)) 76 (vi 76)) 77 (vi 77)) 52 (nI nd) = fT (fT (fT (fT (fT (fT (fT (fT vi 17 (nI a2245_4)) 19 (nI f2245_4)) 20 sg245_4) 18 wd245_4) 75 (nI w2257_4)) 74 (nI d2257_4)) 21 s2257_4) 22 p2257_4 := Eq.trans (mv_2 rfl) (Eq.trans (id_10 rfl) (Eq.trans (mv_1 rfl) (Eq.trans (id_9 rfl) (Eq.trans (congrArg (fT _ 52) (show nI nd = vi 52 from (by first | with_reducible rfl | with_reducible assumption | (symm; with_reducible assumption) | rfl | assumption | (symm; assumption) | (subst_vars; rfl)))) (Eq.trans (id_8 rfl) (Eq.trans (mv_1 rfl) (Eq.trans (mv_3 rfl) (mv_3 rfl))))))))
                      have hP := wr_Pi e9 hP
                      have hD := wr_Di e9 hD
                      clear e9
                      have e9 : fT (fT (fT (fT (fT (fT (fT (fT (fT (fT (fT (fT (fT (fT (fT vF 41 g41257_4) 46 (upd (vF 46) ((nI dN)).toNatClampNeg (vi 77))) 43 (upd (vF 43) ((nI dN)).toNatClampNeg (vi 20))) 40 g40257_4) 39 g39257_4) 42 g42257_4) 47 g47257_4) 48 g48257_4) 29 (vF 29)) 30 (vF 30)) 31 (vF 31)) 32 (vF 32)) 33 (vF 33)) 34 (vF 34)) 35 (vF 35) = fT (fT (fT (fT (fT (fT (fT (fT vF 41 g41257_4) 46 (upd (vF 46) ((nI dN)).toNatClampNeg (vi 77))) 43 (upd (vF 43) ((nI dN)).toNatClampNeg (vi 20))) 40 g40257_4) 39 g39257_4) 42 g42257_4) 47 g47257_4) 48 g48257_4 := Eq.trans (mv_6 rfl) (Eq.trans (id_14 rfl) (Eq.trans (mv_5 rfl) (Eq.trans (id_13 rfl) (Eq.trans (mv_4 rfl) (Eq.trans (id_12 rfl) (Eq.trans (mv_3 rfl) (Eq.trans (id_11 rfl) (Eq.trans (mv_2 rfl) (Eq.trans (id_10 rfl) (Eq.trans (mv_1 rfl) (Eq.trans (id_9 rfl) (id_8 rfl))))))))))))
                      have hP := wr_PF e9 hP
                      have hD := wr_DF e9 hD
                      clear e9
                      exact W.vret hx hb hr (fun t9_ ht hW => ⟨⟨(a2245_4, f2245_4, sg245_4, wd245_4, s2257_4, p2257_4, (vF 29), (vF 30), (vF 31), (vF 32), (vF 33), (vF 34), (vF 35), g39257_4, g40257_4, g41257_4, g42257_4, (upd (vF 43) ((nI dN)).toNatClampNeg (vi 20)), (upd (vF 46) ((nI dN)).toNatClampNeg (vi 77)), g47257_4, g48257_4, d2257_4, w2257_4, nd, (vi 76), (vi 77), gG), rfl, by (try dsimp only); exact ⟨f245_4_0, by omega, f257_4_0, by rcases f257_4_1 with h9 | h9; (exact Or.inl h9); (exact Or.inr ⟨RdS.push (gm := gl) hK0.1 hBel hK0.2.1 (Nat.le_refl _) (fun q hq => ⟨rfl, by rw [upd_at (by omega), if_neg (by omega)], by rw [upd_at (by omega), if_neg (by omega)], rfl, rfl⟩) h39 (by decide) h48 (by omega) ⟨⟨by omega, fun h8 => absurd rfl h8, fun h8 => absurd h8 (by decide), Nat.le_refl _⟩, Or.inr (Or.inr (Or.inr (Or.inr (Or.inr (Or.inr (Or.inr (Or.inr (Or.inr (Or.inr (Or.inr (⟨rfl, rfl, by rw [upd_at (by omega), if_pos rfl], rfl, rfl, rfl, cR, by rw [upd_at (by omega), if_pos rfl], hcR.mono (by omega)⟩)))))))))))⟩ f257_4_2 (by rw [← hwc]; exact h9.2) (show (0 : Int32) = nI 0 by decide) (by decide) (by omega) (by omega) (by omega) (by omega) (by omega) (by show 10 * (4000 - _) + dN + 1 + 3 ≤ mM - 1; omega), hK0.2.1.less (Nat.zero_le _)⟩), by omega⟩, by rw [ht]; exact hP, hD⟩, hS.F ht⟩) hS.2.2 dX12_readOne_314
                    · have t_217 : ¬ ((vi 20)).toInt = 61 := toI_neq c_217 rfl (by decide)
                      refine lv_aload_n hx hb dX12_readOne_220 rfl (lv_at hl 0 rfl) ?_
                      refine va_get (D := (dC, dI)) (ci := 12) (v := .int (vi 20)) (C := RX12) (T := TX12) (N := 163) (fs := fM (vS a vi vj)) hx hb hts iwsRX12_readOne_in12 hown hK hP 0 rfl rfl 20 (by decide) (hts _ hm_r_X12_readOne_5) (fun _ h9 => h9) rfl dX12_readOne_221 ?_
                      refine lv_bipush (v := 78) hx hb dX12_readOne_224 (by decide) ?_
                      refine lv_icmp_eq (tgt := 234) hx hb dX12_readOne_226 (by decide) (fun c_226 => ?_) (fun c_226 => ?_)
                      · have t_226 : ((vi 20)).toInt = 78 := toI_eq c_226 rfl (by decide)
                        have hfl : fn < an := hLx.2.2.1.resolve_left (fun h => absurd (show (vi 18).toInt = 0 by rw [h]; decide) (by omega))
                        refine lv_aload_n hx hb dX12_readOne_234 rfl (lv_at hl 0 rfl) ?_
                        refine va_get (D := (dC, dI)) (ci := 12) (v := .ref (a 43)) (C := RX12) (T := TX12) (N := 163) (fs := fM (vS a vi vj)) hx hb hts iwsRX12_readOne_in12 hown hK hP 0 rfl rfl 68 (by decide) (hts _ hm_r_X12_readOne_6) (fun _ h9 => h9) rfl dX12_readOne_235 ?_
                        refine lv_iload_n hx hb dX12_readOne_238 rfl (lv_at hl 1 rfl) ?_
                        refine lv_aload_n hx hb dX12_readOne_239 rfl (lv_at hl 0 rfl) ?_
                        refine va_get (D := (dC, dI)) (ci := 12) (v := .int (vi 20)) (C := RX12) (T := TX12) (N := 163) (fs := fM (vS a vi vj)) hx hb hts iwsRX12_readOne_in12 hown hK hP 0 rfl rfl 20 (by decide) (hts _ hm_r_X12_readOne_5) (fun _ h9 => h9) rfl dX12_readOne_240 ?_
                        refine va_iast (cA := k 43) (n := 120) (f := (vF 43)) hx hb hK hP hD hS 44 43 (WR_get 43 (by decide)) (TR_get 43 (by decide)) (vp_in_nI (show dN < 120 by omega) (by omega)) dX12_readOne_243 (fun H locs hP hD hS => ?_)
                        have hP : va_P (dC, dI) vwCl (WR a k h0 vi vj (fT (fT (fT vF 41 (upd (vF 41) ((nI dN)).toNatClampNeg (nI cR))) 46 (upd (vF 46) ((nI dN)).toNatClampNeg (vi 77))) 43 (upd (vF 43) ((nI dN)).toNatClampNeg (vi 20))) vG) H := fz_w (WR_F 43 (by decide) _ rfl) hP
                        have hD : va_D A (WR a k h0 vi vj (fT (fT (fT vF 41 (upd (vF 41) ((nI dN)).toNatClampNeg (nI cR))) 46 (upd (vF 46) ((nI dN)).toNatClampNeg (vi 77))) 43 (upd (vF 43) ((nI dN)).toNatClampNeg (vi 20))) vG) := fz_wD (WR_F 43 (by decide) _ rfl) hD
                        refine lv_aload_n hx hb dX12_readOne_244 rfl (lv_at hl 0 rfl) ?_
                        have hFc := allFree hD hS hA
                        refine va_callv (va_runV (As := []) (rest := []) ⟨hx, hb, hml, hown, hts⟩ (r_X12_next l dC dI a k h0 vi vj (fT (fT (fT vF 41 (upd (vF 41) ((nI dN)).toNatClampNeg (nI cR))) 46 (upd (vF 46) ((nI dN)).toNatClampNeg (vi 77))) 43 (upd (vF 43) ((nI dN)).toNatClampNeg (vi 20))) vG tp an hTp (by first | with_reducible assumption | decide | omega | rfl | assumption) ha0 (by first | with_reducible assumption | decide | omega | rfl | assumption) H.size) (cwV 0 hts gwsRX12_readOne_1 rfl rfl rfl hd_yX12_next_RX12 (by decide +kernel)) (fz_preE (va_recv hK hP (ci := 12) (q0 := 0) rfl rfl) hP hK hD (fun a U g mk qE => qE.same rfl) (fun U hU9 hW => by rw [hU9]; exact (((hE : StrA A s s.heap).kept hS.2.1).narrow (fun q h => hFc q h)).warm hW)) rfl rfl hl.1 rfl (lv_room (Nat.le_of_ble_eq_true rfl)) dX12_readOne_245 (by decide +kernel)) hS (fun q _ h => hFc q h) hFc (fun u t9_ H locs ht hvm hw9 hB9 hz1 hk1 hS => ?_)
                        revert u hw9 hB9
                        refine fz_p4 ?_
                        intro a2245_5 f2245_5 sg245_5 wd245_5 hw9 hB9
                        try dsimp only at hw9 hB9
                        have hP : va_P (dC, dI) vwCl (WR a k h0 (fT (fT (fT (fT vi 17 (nI a2245_5)) 19 (nI f2245_5)) 20 sg245_5) 18 wd245_5) vj (fT (fT (fT vF 41 (upd (vF 41) ((nI dN)).toNatClampNeg (nI cR))) 46 (upd (vF 46) ((nI dN)).toNatClampNeg (vi 77))) 43 (upd (vF 43) ((nI dN)).toNatClampNeg (vi 20))) vG) H := fz_P ht hB9.1
                        have hD := fz_sd hP (hB9.2.weaken (fun _ q _ h => hFc q.1 h)) rfl
                        revert hw9
                        refine fz_a2 ?_
                        intro f245_5_0 f245_5_1
                        have hl1 := f245_5_0.1
                        have hl2 := f245_5_0.2.1
                        refine lv_aload_n hx hb dX12_readOne_248 rfl (lv_at hl 0 rfl) ?_
                        refine va_get (D := (dC, dI)) (ci := 12) (v := .ref (a 40)) (C := RX12) (T := TX12) (N := 163) (fs := fM (vS a (fT (fT (fT (fT vi 17 (nI a2245_5)) 19 (nI f2245_5)) 20 sg245_5) 18 wd245_5) vj)) hx hb hts iwsRX12_readOne_in12 hown hK hP 0 rfl rfl 65 (by decide) (hts _ hm_r_X12_readOne_0) (fun _ h9 => h9) rfl dX12_readOne_249 ?_
                        refine lv_iload_n hx hb dX12_readOne_252 rfl (lv_at hl 1 rfl) ?_
                        refine lv_iconst (v := 4) hx hb dX12_readOne_253 (by decide) ?_
                        refine va_iast (cA := k 40) (n := 120) (f := (vF 40)) hx hb hK hP hD hS 41 40 (WR_get 40 (by decide)) (TR_get 40 (by decide)) (vp_in_nI (show dN < 120 by omega) (by omega)) dX12_readOne_254 (fun H locs hP hD hS => ?_)
                        have hP : va_P (dC, dI) vwCl (WR a k h0 (fT (fT (fT (fT vi 17 (nI a2245_5)) 19 (nI f2245_5)) 20 sg245_5) 18 wd245_5) vj (fT (fT (fT (fT vF 41 (upd (vF 41) ((nI dN)).toNatClampNeg (nI cR))) 46 (upd (vF 46) ((nI dN)).toNatClampNeg (vi 77))) 43 (upd (vF 43) ((nI dN)).toNatClampNeg (vi 20))) 40 (upd (vF 40) ((nI dN)).toNatClampNeg 4)) vG) H := fz_w (WR_F 40 (by decide) _ rfl) hP
                        have hD : va_D A (WR a k h0 (fT (fT (fT (fT vi 17 (nI a2245_5)) 19 (nI f2245_5)) 20 sg245_5) 18 wd245_5) vj (fT (fT (fT (fT vF 41 (upd (vF 41) ((nI dN)).toNatClampNeg (nI cR))) 46 (upd (vF 46) ((nI dN)).toNatClampNeg (vi 77))) 43 (upd (vF 43) ((nI dN)).toNatClampNeg (vi 20))) 40 (upd (vF 40) ((nI dN)).toNatClampNeg 4)) vG) := fz_wD (WR_F 40 (by decide) _ rfl) hD
                        refine lv_aload_n hx hb dX12_readOne_255 rfl (lv_at hl 0 rfl) ?_
                        refine lv_iconst (v := 0) hx hb dX12_readOne_256 (by decide) ?_
                        have hFc := allFree hD hS hA
                        refine va_callv (va_runV (As := [.int 0]) (rest := []) ⟨hx, hb, hml, hown, hts⟩ (r_X12_begin1 l dC dI a k h0 (fT (fT (fT (fT vi 17 (nI a2245_5)) 19 (nI f2245_5)) 20 sg245_5) 18 wd245_5) vj (fT (fT (fT (fT vF 41 (upd (vF 41) ((nI dN)).toNatClampNeg (nI cR))) 46 (upd (vF 46) ((nI dN)).toNatClampNeg (vi 77))) 43 (upd (vF 43) ((nI dN)).toNatClampNeg (vi 20))) 40 (upd (vF 40) ((nI dN)).toNatClampNeg 4)) vG 0 tp a2245_5 f2245_5 nm se pa va bd (dN + 1) wi hTp (by first | with_reducible assumption | decide | omega | rfl | assumption) rfl rfl (f245_5_0) (by first | with_reducible assumption | decide | omega | rfl | assumption) hnm (by first | with_reducible assumption | decide | omega | rfl | assumption) (by first | with_reducible assumption | decide | omega | rfl | assumption) (by first | with_reducible assumption | decide | omega | rfl | assumption) hbd (by first | with_reducible assumption | decide | omega | rfl | assumption) (by first | with_reducible assumption | decide | omega | rfl | assumption) (hdp) (by first | with_reducible assumption | decide | omega | rfl | assumption) hwi (by first | with_reducible assumption | decide | omega | rfl | assumption) H.size) (cwV 1 hts gwsRX12_readOne_2 rfl rfl rfl hd_yX12_begin1_RX12 (by decide +kernel)) (fz_pre (va_recv hK hP (ci := 12) (q0 := 0) rfl rfl) hP hK hD) rfl rfl hl.1 rfl (lv_room (Nat.le_of_ble_eq_true rfl)) dX12_readOne_257 (by decide +kernel)) hS (fun q _ h => hFc q h) hFc (fun u t9_ H locs ht hvm hw9 hB9 hz1 hk1 hS => ?_)
                        revert u hw9 hB9
                        refine fz_p10 ?_
                        intro s2257_5 p2257_5 g39257_5 g40257_5 g41257_5 g42257_5 g47257_5 g48257_5 d2257_5 w2257_5 hw9 hB9
                        try dsimp only at hw9 hB9
                        have e9F : fT (fT (fT (fT (fT (fT (fT (fT vF 41 g41257_5) 46 (upd (vF 46) ((nI dN)).toNatClampNeg (vi 77))) 43 (upd (vF 43) ((nI dN)).toNatClampNeg (vi 20))) 40 g40257_5) 39 g39257_5) 42 g42257_5) 47 g47257_5) 48 g48257_5 = fT (fT (fT (fT (fT (fT (fT (fT (fT (fT vF 41 (upd (vF 41) ((nI dN)).toNatClampNeg (nI cR))) 46 (upd (vF 46) ((nI dN)).toNatClampNeg (vi 77))) 43 (upd (vF 43) ((nI dN)).toNatClampNeg (vi 20))) 40 (upd (vF 40) ((nI dN)).toNatClampNeg 4)) 39 g39257_5) 40 g40257_5) 41 g41257_5) 42 g42257_5) 47 g47257_5) 48 g48257_5 := Eq.symm (congrArg (fun g9 => fT (fT (fT g9 42 g42257_5) 47 g47257_5) 48 g48257_5) (Eq.trans (congrArg (fun g9 => fT g9 41 g41257_5) (up_1 rfl)) (up_4 rfl)))
                        have hP := wr_PF e9F (fz_P ht hB9.1)
                        have hD := wr_DF e9F (hB9.2.weaken (fun _ q _ h => hFc q.1 h))
                        clear e9F
                        revert hw9
                        refine fz_a4 ?_
                        intro f257_5_0 f257_5_1 f257_5_2 f257_5_3
                        have f257_5_1 : 0 < (s2257_5).toInt ∨ (s2257_5 = (vi 21) ∧ BgO 0 wd245_5 sg245_5 g39257_5 g40257_5 g41257_5 g42257_5 g48257_5 (dN + 1) wi d2257_5 w2257_5) := f257_5_1
                        have f257_5_2 : FrmO (dN + 1) (vF 39) (upd (vF 40) ((nI dN)).toNatClampNeg 4) (upd (vF 41) ((nI dN)).toNatClampNeg (nI cR)) (vF 42) (vF 48) g39257_5 g40257_5 g41257_5 g42257_5 g48257_5 := f257_5_2
                        refine lv_goto (tgt := 314) hx hb dX12_readOne_260 (by decide) ?_
                        refine W.widen (k := 0) (n := 0) (by decide +kernel) (by decide +kernel) ?_
                        have e9 : fT (fT (fT (fT (fT (fT (fT (fT (fT (fT (fT vi 17 (nI a2245_5)) 19 (nI f2245_5)) 20 sg245_5) 18 wd245_5) 21 s2257_5) 22 p2257_5) 74 (nI d2257_5)) 75 (nI w2257_5)) 76 (vi 76)) 77 (vi 77)) 52 (nI nd) = fT (fT (fT (fT (fT (fT (fT (fT vi 17 (nI a2245_5)) 19 (nI f2245_5)) 20 sg245_5) 18 wd245_5) 75 (nI w2257_5)) 74 (nI d2257_5)) 21 s2257_5) 22 p2257_5 := Eq.trans (mv_2 rfl) (Eq.trans (id_10 rfl) (Eq.trans (mv_1 rfl) (Eq.trans (id_9 rfl) (Eq.trans (congrArg (fT _ 52) (show nI nd = vi 52 from (by first | with_reducible rfl | with_reducible assumption | (symm; with_reducible assumption) | rfl | assumption | (symm; assumption) | (subst_vars; rfl)))) (Eq.trans (id_8 rfl) (Eq.trans (mv_1 rfl) (Eq.trans (mv_3 rfl) (mv_3 rfl))))))))
                        have hP := wr_Pi e9 hP
                        have hD := wr_Di e9 hD
                        clear e9
                        have e9 : fT (fT (fT (fT (fT (fT (fT (fT (fT (fT (fT (fT (fT (fT (fT vF 41 g41257_5) 46 (upd (vF 46) ((nI dN)).toNatClampNeg (vi 77))) 43 (upd (vF 43) ((nI dN)).toNatClampNeg (vi 20))) 40 g40257_5) 39 g39257_5) 42 g42257_5) 47 g47257_5) 48 g48257_5) 29 (vF 29)) 30 (vF 30)) 31 (vF 31)) 32 (vF 32)) 33 (vF 33)) 34 (vF 34)) 35 (vF 35) = fT (fT (fT (fT (fT (fT (fT (fT vF 41 g41257_5) 46 (upd (vF 46) ((nI dN)).toNatClampNeg (vi 77))) 43 (upd (vF 43) ((nI dN)).toNatClampNeg (vi 20))) 40 g40257_5) 39 g39257_5) 42 g42257_5) 47 g47257_5) 48 g48257_5 := Eq.trans (mv_6 rfl) (Eq.trans (id_14 rfl) (Eq.trans (mv_5 rfl) (Eq.trans (id_13 rfl) (Eq.trans (mv_4 rfl) (Eq.trans (id_12 rfl) (Eq.trans (mv_3 rfl) (Eq.trans (id_11 rfl) (Eq.trans (mv_2 rfl) (Eq.trans (id_10 rfl) (Eq.trans (mv_1 rfl) (Eq.trans (id_9 rfl) (id_8 rfl))))))))))))
                        have hP := wr_PF e9 hP
                        have hD := wr_DF e9 hD
                        clear e9
                        exact W.vret hx hb hr (fun t9_ ht hW => ⟨⟨(a2245_5, f2245_5, sg245_5, wd245_5, s2257_5, p2257_5, (vF 29), (vF 30), (vF 31), (vF 32), (vF 33), (vF 34), (vF 35), g39257_5, g40257_5, g41257_5, g42257_5, (upd (vF 43) ((nI dN)).toNatClampNeg (vi 20)), (upd (vF 46) ((nI dN)).toNatClampNeg (vi 77)), g47257_5, g48257_5, d2257_5, w2257_5, nd, (vi 76), (vi 77), gG), rfl, by (try dsimp only); exact ⟨f245_5_0, by omega, f257_5_0, by rcases f257_5_1 with h9 | h9; (exact Or.inl h9); (exact Or.inr ⟨RdS.push (gm := gl) hK0.1 hBel hK0.2.1 (Nat.le_refl _) (fun q hq => ⟨rfl, by rw [upd_at (by omega), if_neg (by omega)], by rw [upd_at (by omega), if_neg (by omega)], rfl, rfl⟩) h39 (by decide) h48 (by omega) ⟨⟨by omega, fun h8 => absurd rfl h8, fun h8 => absurd h8 (by decide), Nat.le_refl _⟩, Or.inr (Or.inr (Or.inr (Or.inr (Or.inr (Or.inr (Or.inr (Or.inr (Or.inr (Or.inr (Or.inr (⟨rfl, rfl, by rw [upd_at (by omega), if_pos rfl], rfl, rfl, rfl, cR, by rw [upd_at (by omega), if_pos rfl], hcR.mono (by omega)⟩)))))))))))⟩ f257_5_2 (by rw [← hwc]; exact h9.2) (show (0 : Int32) = nI 0 by decide) (by decide) (by omega) (by omega) (by omega) (by omega) (by omega) (by show 10 * (4000 - _) + dN + 1 + 3 ≤ mM - 1; omega), hK0.2.1.less (Nat.zero_le _)⟩), by omega⟩, by rw [ht]; exact hP, hD⟩, hS.F ht⟩) hS.2.2 dX12_readOne_314
                      · have t_226 : ¬ ((vi 20)).toInt = 78 := toI_neq c_226 rfl (by decide)
                        refine lv_aload_n hx hb dX12_readOne_229 rfl (lv_at hl 0 rfl) ?_
                        have hFc := allFree hD hS hA
                        refine va_callv (va_runV (As := []) (rest := []) ⟨hx, hb, hml, hown, hts⟩ (r_X12_wrong l dC dI a k h0 vi vj (fT (fT vF 41 (upd (vF 41) ((nI dN)).toNatClampNeg (nI cR))) 46 (upd (vF 46) ((nI dN)).toNatClampNeg (vi 77))) vG H.size) (cwV 0 hts gwsRX12_readOne_7 rfl rfl rfl hd_yX12_wrong_RX12 (by decide +kernel)) (fz_pre (va_recv hK hP (ci := 12) (q0 := 0) rfl rfl) hP hK hD) rfl rfl hl.1 rfl (lv_room (Nat.le_of_ble_eq_true rfl)) dX12_readOne_230 (by decide +kernel)) hS (fun q _ h => hFc q h) hFc (fun u t9_ H locs ht hvm hw9 hB9 hz1 hk1 hS => ?_)
                        revert u hw9 hB9
                        refine fz_p2 ?_
                        intro s2230_1 p2230_1 hw9 hB9
                        try dsimp only at hw9 hB9
                        have hP : va_P (dC, dI) vwCl (WR a k h0 (fT (fT vi 21 s2230_1) 22 p2230_1) vj (fT (fT vF 41 (upd (vF 41) ((nI dN)).toNatClampNeg (nI cR))) 46 (upd (vF 46) ((nI dN)).toNatClampNeg (vi 77))) vG) H := fz_P ht hB9.1
                        have hD := fz_sd hP (hB9.2.weaken (fun _ q _ h => hFc q.1 h)) rfl
                        revert hw9
                        refine fz_a2 ?_
                        intro f230_1_0 f230_1_1
                        have f230_1_0 : (0 < (vi 21).toInt ∧ s2230_1 = (vi 21) ∧ p2230_1 = (vi 22)) ∨ (¬ 0 < (vi 21).toInt ∧ (s2230_1 = 1 ∨ s2230_1 = 2) ∧ p2230_1 = (vi 19)) := f230_1_0
                        refine W.widen (k := 0) (n := 0) (by decide +kernel) (by decide +kernel) ?_
                        have e9 : fT (fT (fT (fT (fT (fT (fT (fT (fT (fT (fT vi 17 (nI an)) 19 (nI fn)) 20 (vi 20)) 18 (vi 18)) 21 s2230_1) 22 p2230_1) 74 (nI (dN + 1))) 75 (nI wi)) 76 (vi 76)) 77 (vi 77)) 52 (nI nd) = fT (fT vi 21 s2230_1) 22 p2230_1 := Eq.trans (mv_10 rfl) (Eq.trans (congrArg (fT _ 17) (show nI an = vi 17 from (by first | with_reducible rfl | with_reducible assumption | (symm; with_reducible assumption) | rfl | assumption | (symm; assumption) | (subst_vars; rfl)))) (Eq.trans (id_10 rfl) (Eq.trans (mv_9 rfl) (Eq.trans (congrArg (fT _ 19) (show nI fn = vi 19 from (by first | with_reducible rfl | with_reducible assumption | (symm; with_reducible assumption) | rfl | assumption | (symm; assumption) | (subst_vars; rfl)))) (Eq.trans (id_9 rfl) (Eq.trans (mv_8 rfl) (Eq.trans (id_8 rfl) (Eq.trans (mv_7 rfl) (Eq.trans (id_7 rfl) (Eq.trans (mv_4 rfl) (Eq.trans (congrArg (fT _ 74) (show nI (dN + 1) = vi 74 from (by first | with_reducible rfl | with_reducible assumption | (symm; with_reducible assumption) | rfl | assumption | (symm; assumption) | (subst_vars; rfl)))) (Eq.trans (id_6 rfl) (Eq.trans (mv_3 rfl) (Eq.trans (congrArg (fT _ 75) (show nI wi = vi 75 from (by first | with_reducible rfl | with_reducible assumption | (symm; with_reducible assumption) | rfl | assumption | (symm; assumption) | (subst_vars; rfl)))) (Eq.trans (id_5 rfl) (Eq.trans (mv_2 rfl) (Eq.trans (id_4 rfl) (Eq.trans (mv_1 rfl) (Eq.trans (id_3 rfl) (Eq.trans (congrArg (fT _ 52) (show nI nd = vi 52 from (by first | with_reducible rfl | with_reducible assumption | (symm; with_reducible assumption) | rfl | assumption | (symm; assumption) | (subst_vars; rfl)))) (id_2 rfl)))))))))))))))))))))
                        have hP := wr_Pi e9 hP
                        have hD := wr_Di e9 hD
                        clear e9
                        have e9 : fT (fT (fT (fT (fT (fT (fT (fT (fT (fT (fT (fT (fT (fT (fT vF 41 (upd (vF 41) ((nI dN)).toNatClampNeg (nI cR))) 46 (upd (vF 46) ((nI dN)).toNatClampNeg (vi 77))) 43 (vF 43)) 40 (vF 40)) 39 (vF 39)) 42 (vF 42)) 47 (vF 47)) 48 (vF 48)) 29 (vF 29)) 30 (vF 30)) 31 (vF 31)) 32 (vF 32)) 33 (vF 33)) 34 (vF 34)) 35 (vF 35) = fT (fT vF 41 (upd (vF 41) ((nI dN)).toNatClampNeg (nI cR))) 46 (upd (vF 46) ((nI dN)).toNatClampNeg (vi 77)) := Eq.trans (mv_12 rfl) (Eq.trans (id_14 rfl) (Eq.trans (mv_11 rfl) (Eq.trans (id_13 rfl) (Eq.trans (mv_10 rfl) (Eq.trans (id_12 rfl) (Eq.trans (mv_9 rfl) (Eq.trans (id_11 rfl) (Eq.trans (mv_8 rfl) (Eq.trans (id_10 rfl) (Eq.trans (mv_7 rfl) (Eq.trans (id_9 rfl) (Eq.trans (mv_6 rfl) (Eq.trans (id_8 rfl) (Eq.trans (mv_5 rfl) (Eq.trans (id_7 rfl) (Eq.trans (mv_4 rfl) (Eq.trans (id_6 rfl) (Eq.trans (mv_3 rfl) (Eq.trans (id_5 rfl) (Eq.trans (mv_2 rfl) (Eq.trans (id_4 rfl) (Eq.trans (mv_1 rfl) (Eq.trans (id_3 rfl) (id_2 rfl))))))))))))))))))))))))
                        have hP := wr_PF e9 hP
                        have hD := wr_DF e9 hD
                        clear e9
                        exact W.vret hx hb hr (fun t9_ ht hW => ⟨⟨(an, fn, (vi 20), (vi 18), s2230_1, p2230_1, (vF 29), (vF 30), (vF 31), (vF 32), (vF 33), (vF 34), (vF 35), (vF 39), (vF 40), (upd (vF 41) ((nI dN)).toNatClampNeg (nI cR)), (vF 42), (vF 43), (upd (vF 46) ((nI dN)).toNatClampNeg (vi 77)), (vF 47), (vF 48), (dN + 1), wi, nd, (vi 76), (vi 77), gG), rfl, by (try dsimp only); exact ⟨hLx, by omega, by omega, Or.inl f230_1_1, by omega⟩, by rw [ht]; exact hP, hD⟩, hS.F ht⟩) hS.2.2 dX12_readOne_233
        · have ts_6_3 : ¬ (((vF 40) dN)).toInt = 3 := toI_neq s_6_3 rfl (by decide)
          refine lv_tableOut (tgt := 263) hx hb dX12_readOne_6 (by have := lv_neT s_6_0 (show Int32.toInt 0 = 0 by decide); have := lv_neT s_6_1 (show Int32.toInt 1 = 1 by decide); have := lv_neT s_6_2 (show Int32.toInt 2 = 2 by decide); have := lv_neT s_6_3 (show Int32.toInt 3 = 3 by decide); omega) (by decide) ?_
          obtain ⟨hq1, hq2, hq3, hq4, hq5, hq6, hw24, cR, cP, hres, hcR, hcP, hcPL⟩ := hTq.one4 s_6_0 s_6_1 s_6_2 s_6_3
          have hK0 := RdK.first (gl := gl) hRV (by omega)
          have hKK := hK0.mkComp (kv := 13) (av := nI cP) (bv := nI cR) (cv := vF 43 dN) (by omega) (show (13 : Int32) = nI 13 by decide) rfl rfl hcPL hcR (by omega) (Nat.le_refl _) (by omega)
          have hKN := hKK.1
          have hLN := hKK.2
          refine lv_aload_n hx hb dX12_readOne_263 rfl (lv_at hl 0 rfl) ?_
          refine lv_bipush (v := 13) hx hb dX12_readOne_264 (by decide) ?_
          refine lv_aload_n hx hb dX12_readOne_266 rfl (lv_at hl 0 rfl) ?_
          refine va_get (D := (dC, dI)) (ci := 12) (v := .ref (a 41)) (C := RX12) (T := TX12) (N := 163) (fs := fM (vS a vi vj)) hx hb hts iwsRX12_readOne_in12 hown hK hP 0 rfl rfl 66 (by decide) (hts _ hm_r_X12_readOne_2) (fun _ h9 => h9) rfl dX12_readOne_267 ?_
          refine lv_iload_n hx hb dX12_readOne_270 rfl (lv_at hl 1 rfl) ?_
          refine va_iald (cA := k 41) (n := 120) (f := (vF 41)) hx hb hK hP 42 41 (WR_get 41 (by decide)) (TR_get 41 (by decide)) (vp_in_nI (show dN < 120 by omega) (by omega)) dX12_readOne_271 ?_
          refine lv_topi (fun y5 hy5 => ?_)
          obtain rfl : ((vF 41) dN) = y5 := (hy5.trans (by rw [nI_clamp (by omega)])).symm
          refine lv_topi (fun y6 hy6 => ?_)
          obtain rfl : (nI cP) = y6 := (hy6.trans (hcP)).symm
          refine lv_aload_n hx hb dX12_readOne_272 rfl (lv_at hl 0 rfl) ?_
          refine va_get (D := (dC, dI)) (ci := 12) (v := .int (vi 76)) (C := RX12) (T := TX12) (N := 163) (fs := fM (vS a vi vj)) hx hb hts iwsRX12_readOne_in12 hown hK hP 0 rfl rfl 76 (by decide) (hts _ hm_r_X12_readOne_1) (fun _ h9 => h9) rfl dX12_readOne_273 ?_
          refine lv_topi (fun y7 hy7 => ?_)
          obtain rfl : (nI cR) = y7 := (hy7.trans (hres)).symm
          refine lv_aload_n hx hb dX12_readOne_276 rfl (lv_at hl 0 rfl) ?_
          refine va_get (D := (dC, dI)) (ci := 12) (v := .ref (a 43)) (C := RX12) (T := TX12) (N := 163) (fs := fM (vS a vi vj)) hx hb hts iwsRX12_readOne_in12 hown hK hP 0 rfl rfl 68 (by decide) (hts _ hm_r_X12_readOne_6) (fun _ h9 => h9) rfl dX12_readOne_277 ?_
          refine lv_iload_n hx hb dX12_readOne_280 rfl (lv_at hl 1 rfl) ?_
          refine va_iald (cA := k 43) (n := 120) (f := (vF 43)) hx hb hK hP 44 43 (WR_get 43 (by decide)) (TR_get 43 (by decide)) (vp_in_nI (show dN < 120 by omega) (by omega)) dX12_readOne_281 ?_
          refine lv_topi (fun y8 hy8 => ?_)
          obtain rfl : ((vF 43) dN) = y8 := (hy8.trans (by rw [nI_clamp (by omega)])).symm
          refine lv_iconst (v := 0) hx hb dX12_readOne_282 (by decide) ?_
          have hFc := allFree hD hS hA
          refine va_calli (va_runV (As := [.int 13, .int (nI cP), .int (nI cR), .int ((vF 43) dN), .int 0]) (rest := []) ⟨hx, hb, hml, hown, hts⟩ (r_X12_node l dC dI a k h0 vi vj vF vG nd 13 (nI cP) (nI cR) ((vF 43) dN) 0 hnd (by first | with_reducible assumption | decide | omega | rfl | assumption) s.heap.size) (cwV 5 hts gwsRX12_readOne_4 rfl rfl rfl hd_yX12_node_RX12 (by decide +kernel)) (fz_pre (va_recv hK hP (ci := 12) (q0 := 0) rfl rfl) hP hK hD) rfl rfl hl.1 rfl (lv_room (Nat.le_of_ble_eq_true rfl)) dX12_readOne_283 (by decide +kernel)) hS (fun q _ h => hFc q h) hFc (fun r283 u t9_ H locs ht hvm hw9 hB9 hz1 hk1 hS => ?_)
          have hP : va_P (dC, dI) vwCl (WR a k h0 (fT vi 52 (nI (nd + 1))) vj (fT (fT (fT (fT (fT (fT (fT vF 29 (upd (vF 29) (nI nd).toNatClampNeg 13)) 30 (upd (vF 30) (nI nd).toNatClampNeg (nI cP))) 31 (upd (vF 31) (nI nd).toNatClampNeg (nI cR))) 32 (upd (vF 32) (nI nd).toNatClampNeg ((vF 43) dN))) 33 (upd (vF 33) (nI nd).toNatClampNeg 0)) 34 (upd (vF 34) (nI nd).toNatClampNeg 0)) 35 (upd (vF 35) (nI nd).toNatClampNeg 0)) vG) H := fz_P ht hB9.1
          have hD := fz_sd hP (hB9.2.weaken (fun _ q _ h => hFc q.1 h)) rfl
          obtain rfl := hw9
          refine lv_istore_n hx hb dX12_readOne_286 rfl hl (by decide) rfl (fun ls (hl : lv_has ls _ ([(2, .int (nI nd)), (0, .ref h0), (1, .int (nI dN))])) => ?_)
          refine lv_aload_n hx hb dX12_readOne_287 rfl (lv_at hl 1 rfl) ?_
          refine va_get (D := (dC, dI)) (ci := 12) (v := .ref (a 34)) (C := RX12) (T := TX12) (N := 163) (fs := fM (vS a (fT vi 52 (nI (nd + 1))) vj)) hx hb hts iwsRX12_readOne_in12 hown hK hP 0 rfl rfl 58 (by decide) (hts (.fieldLink RX12 125 "OptimaWorksModel" "firstA" "[I") (by decide +kernel)) (fun _ h9 => h9) rfl dX12_readOne_288 ?_
          refine lv_iload_n hx hb dX12_readOne_291 rfl (lv_at hl 0 rfl) ?_
          refine lv_aload_n hx hb dX12_readOne_292 rfl (lv_at hl 1 rfl) ?_
          refine va_get (D := (dC, dI)) (ci := 12) (v := .ref (a 46)) (C := RX12) (T := TX12) (N := 163) (fs := fM (vS a (fT vi 52 (nI (nd + 1))) vj)) hx hb hts iwsRX12_readOne_in12 hown hK hP 0 rfl rfl 71 (by decide) (hts _ hm_r_X12_readOne_3) (fun _ h9 => h9) rfl dX12_readOne_293 ?_
          refine lv_iload_n hx hb dX12_readOne_296 rfl (lv_at hl 2 rfl) ?_
          refine va_iald (cA := k 46) (n := 120) (f := (vF 46)) hx hb hK hP 47 46 (WR_get 46 (by decide)) (TR_get 46 (by decide)) (vp_in_nI (show dN < 120 by omega) (by omega)) dX12_readOne_297 ?_
          refine lv_topi (fun y9 hy9 => ?_)
          obtain rfl : ((vF 46) dN) = y9 := (hy9.trans (by rw [nI_clamp (by omega)])).symm
          refine va_iast (cA := k 34) (n := 4200) (f := (upd (vF 34) (nI nd).toNatClampNeg 0)) hx hb hK hP hD hS 35 34 (WR_get 34 (by decide)) (TR_get 34 (by decide)) (vp_in_nI (show nd < 4200 by omega) (by omega)) dX12_readOne_298 (fun H locs hP hD hS => ?_)
          have e9 : fT (fT (fT (fT (fT (fT (fT vF 29 (upd (vF 29) (nI nd).toNatClampNeg 13)) 30 (upd (vF 30) (nI nd).toNatClampNeg (nI cP))) 31 (upd (vF 31) (nI nd).toNatClampNeg (nI cR))) 32 (upd (vF 32) (nI nd).toNatClampNeg ((vF 43) dN))) 33 (upd (vF 33) (nI nd).toNatClampNeg 0)) 34 (upd (upd (vF 34) (nI nd).toNatClampNeg 0) ((nI nd)).toNatClampNeg ((vF 46) dN))) 35 (upd (vF 35) (nI nd).toNatClampNeg 0) = fT (fT (fT (fT (fT (fT (fT (fT vF 29 (upd (vF 29) (nI nd).toNatClampNeg 13)) 30 (upd (vF 30) (nI nd).toNatClampNeg (nI cP))) 31 (upd (vF 31) (nI nd).toNatClampNeg (nI cR))) 32 (upd (vF 32) (nI nd).toNatClampNeg ((vF 43) dN))) 33 (upd (vF 33) (nI nd).toNatClampNeg 0)) 34 (upd (vF 34) (nI nd).toNatClampNeg 0)) 35 (upd (vF 35) (nI nd).toNatClampNeg 0)) 34 (upd (upd (vF 34) (nI nd).toNatClampNeg 0) ((nI nd)).toNatClampNeg ((vF 46) dN)) := ((fT_sw _ _ _ (Nat.ne_of_beq_eq_false rfl)).trans (congrArg (fun g9 => fT g9 35 (upd (vF 35) (nI nd).toNatClampNeg 0)) (fT_sm _ _ _ _))).symm
          have hP := wr_PF e9 (fz_w (WR_F 34 (by decide) _ rfl) hP)
          have hD := wr_DF e9 (fz_wD (WR_F 34 (by decide) _ rfl) hD)
          clear e9
          refine lv_aload_n hx hb dX12_readOne_299 rfl (lv_at hl 1 rfl) ?_
          refine va_get (D := (dC, dI)) (ci := 12) (v := .ref (a 35)) (C := RX12) (T := TX12) (N := 163) (fs := fM (vS a (fT vi 52 (nI (nd + 1))) vj)) hx hb hts iwsRX12_readOne_in12 hown hK hP 0 rfl rfl 59 (by decide) (hts (.fieldLink RX12 128 "OptimaWorksModel" "firstB" "[I") (by decide +kernel)) (fun _ h9 => h9) rfl dX12_readOne_300 ?_
          refine lv_iload_n hx hb dX12_readOne_303 rfl (lv_at hl 0 rfl) ?_
          refine lv_aload_n hx hb dX12_readOne_304 rfl (lv_at hl 1 rfl) ?_
          refine va_get (D := (dC, dI)) (ci := 12) (v := .int (vi 77)) (C := RX12) (T := TX12) (N := 163) (fs := fM (vS a (fT vi 52 (nI (nd + 1))) vj)) hx hb hts iwsRX12_readOne_in12 hown hK hP 0 rfl rfl 77 (by decide) (hts _ hm_r_X12_readOne_4) (fun _ h9 => h9) rfl dX12_readOne_305 ?_
          refine va_iast (cA := k 35) (n := 4200) (f := (upd (vF 35) (nI nd).toNatClampNeg 0)) hx hb hK hP hD hS 36 35 (WR_get 35 (by decide)) (TR_get 35 (by decide)) (vp_in_nI (show nd < 4200 by omega) (by omega)) dX12_readOne_308 (fun H locs hP hD hS => ?_)
          have e9 : fT (fT (fT (fT (fT (fT (fT vF 29 (upd (vF 29) (nI nd).toNatClampNeg 13)) 30 (upd (vF 30) (nI nd).toNatClampNeg (nI cP))) 31 (upd (vF 31) (nI nd).toNatClampNeg (nI cR))) 32 (upd (vF 32) (nI nd).toNatClampNeg ((vF 43) dN))) 33 (upd (vF 33) (nI nd).toNatClampNeg 0)) 34 (upd (upd (vF 34) (nI nd).toNatClampNeg 0) ((nI nd)).toNatClampNeg ((vF 46) dN))) 35 (upd (upd (vF 35) (nI nd).toNatClampNeg 0) ((nI nd)).toNatClampNeg (vi 77)) = fT (fT (fT (fT (fT (fT (fT (fT vF 29 (upd (vF 29) (nI nd).toNatClampNeg 13)) 30 (upd (vF 30) (nI nd).toNatClampNeg (nI cP))) 31 (upd (vF 31) (nI nd).toNatClampNeg (nI cR))) 32 (upd (vF 32) (nI nd).toNatClampNeg ((vF 43) dN))) 33 (upd (vF 33) (nI nd).toNatClampNeg 0)) 34 (upd (upd (vF 34) (nI nd).toNatClampNeg 0) ((nI nd)).toNatClampNeg ((vF 46) dN))) 35 (upd (vF 35) (nI nd).toNatClampNeg 0)) 35 (upd (upd (vF 35) (nI nd).toNatClampNeg 0) ((nI nd)).toNatClampNeg (vi 77)) := (fT_sm _ _ _ _).symm
          have hP := wr_PF e9 (fz_w (WR_F 35 (by decide) _ rfl) hP)
          have hD := wr_DF e9 (fz_wD (WR_F 35 (by decide) _ rfl) hD)
          clear e9
          refine lv_aload_n hx hb dX12_readOne_309 rfl (lv_at hl 1 rfl) ?_
          refine lv_iload_n hx hb dX12_readOne_310 rfl (lv_at hl 0 rfl) ?_
          have hFc := allFree hD hS hA
          refine va_callv (va_runV (As := [.int (nI nd)]) (rest := []) ⟨hx, hb, hml, hown, hts⟩ (r_X12_end1w l dC dI a k h0 (fT vi 52 (nI (nd + 1))) vj (fT (fT (fT (fT (fT (fT (fT vF 29 (upd (vF 29) (nI nd).toNatClampNeg 13)) 30 (upd (vF 30) (nI nd).toNatClampNeg (nI cP))) 31 (upd (vF 31) (nI nd).toNatClampNeg (nI cR))) 32 (upd (vF 32) (nI nd).toNatClampNeg ((vF 43) dN))) 33 (upd (vF 33) (nI nd).toNatClampNeg 0)) 34 (upd (upd (vF 34) (nI nd).toNatClampNeg 0) ((nI nd)).toNatClampNeg ((vF 46) dN))) 35 (upd (upd (vF 35) (nI nd).toNatClampNeg 0) ((nI nd)).toNatClampNeg (vi 77))) vG (nI nd) dN wi xe (hdp) (by first | with_reducible assumption | decide | omega | rfl | assumption) hwi (by first | with_reducible assumption | decide | omega | rfl | assumption) (h48) (by first | with_reducible assumption | decide | omega | rfl | assumption) H.size) (cwV 1 hts gwsRX12_readOne_5 rfl rfl rfl hd_yX12_end1_RX12 (by decide +kernel)) (fz_pre (va_recv hK hP (ci := 12) (q0 := 0) rfl rfl) hP hK hD) rfl rfl hl.1 rfl (lv_room (Nat.le_of_ble_eq_true rfl)) dX12_readOne_311 (by decide +kernel)) hS (fun q _ h => hFc q h) hFc (fun u t9_ H locs ht hvm hw9 hB9 hz1 hk1 hS => ?_)
          have hP : va_P (dC, dI) vwCl (WR a k h0 (fT (fT (fT (fT (fT vi 52 (nI (nd + 1))) 74 (nI dN)) 75 (nI (wi - xe))) 76 (nI nd)) 77 ((vF 47) dN)) vj (fT (fT (fT (fT (fT (fT (fT vF 29 (upd (vF 29) (nI nd).toNatClampNeg 13)) 30 (upd (vF 30) (nI nd).toNatClampNeg (nI cP))) 31 (upd (vF 31) (nI nd).toNatClampNeg (nI cR))) 32 (upd (vF 32) (nI nd).toNatClampNeg ((vF 43) dN))) 33 (upd (vF 33) (nI nd).toNatClampNeg 0)) 34 (upd (upd (vF 34) (nI nd).toNatClampNeg 0) ((nI nd)).toNatClampNeg ((vF 46) dN))) 35 (upd (upd (vF 35) (nI nd).toNatClampNeg 0) ((nI nd)).toNatClampNeg (vi 77))) vG) H := fz_P ht hB9.1
          have hD := fz_sd hP (hB9.2.weaken (fun _ q _ h => hFc q.1 h)) rfl
          refine W.widen (k := 0) (n := 0) (by decide +kernel) (by decide +kernel) ?_
          have e9 : fT (fT (fT (fT (fT (fT (fT (fT (fT (fT (fT vi 17 (nI an)) 19 (nI fn)) 20 (vi 20)) 18 (vi 18)) 21 (vi 21)) 22 (vi 22)) 74 (nI dN)) 75 (nI (wi - xe))) 76 (nI nd)) 77 ((vF 47) dN)) 52 (nI (nd + 1)) = fT (fT (fT (fT (fT vi 52 (nI (nd + 1))) 74 (nI dN)) 75 (nI (wi - xe))) 76 (nI nd)) 77 ((vF 47) dN) := Eq.trans (mv_10 rfl) (Eq.trans (congrArg (fT _ 17) (show nI an = vi 17 from (by first | with_reducible rfl | with_reducible assumption | (symm; with_reducible assumption) | rfl | assumption | (symm; assumption) | (subst_vars; rfl)))) (Eq.trans (id_10 rfl) (Eq.trans (mv_9 rfl) (Eq.trans (congrArg (fT _ 19) (show nI fn = vi 19 from (by first | with_reducible rfl | with_reducible assumption | (symm; with_reducible assumption) | rfl | assumption | (symm; assumption) | (subst_vars; rfl)))) (Eq.trans (id_9 rfl) (Eq.trans (mv_8 rfl) (Eq.trans (id_8 rfl) (Eq.trans (mv_7 rfl) (Eq.trans (id_7 rfl) (Eq.trans (mv_6 rfl) (Eq.trans (id_6 rfl) (Eq.trans (mv_5 rfl) (Eq.trans (id_5 rfl) (Eq.trans (mv_4 rfl) (Eq.trans (mv_4 rfl) (Eq.trans (mv_4 rfl) (mv_4 rfl)))))))))))))))))
          have hP := wr_Pi e9 hP
          have hD := wr_Di e9 hD
          clear e9
          have e9 : fT (fT (fT (fT (fT (fT (fT (fT (fT (fT (fT (fT (fT (fT (fT vF 41 (vF 41)) 46 (vF 46)) 43 (vF 43)) 40 (vF 40)) 39 (vF 39)) 42 (vF 42)) 47 (vF 47)) 48 (vF 48)) 29 (upd (vF 29) (nI nd).toNatClampNeg 13)) 30 (upd (vF 30) (nI nd).toNatClampNeg (nI cP))) 31 (upd (vF 31) (nI nd).toNatClampNeg (nI cR))) 32 (upd (vF 32) (nI nd).toNatClampNeg ((vF 43) dN))) 33 (upd (vF 33) (nI nd).toNatClampNeg 0)) 34 (upd (upd (vF 34) (nI nd).toNatClampNeg 0) ((nI nd)).toNatClampNeg ((vF 46) dN))) 35 (upd (upd (vF 35) (nI nd).toNatClampNeg 0) ((nI nd)).toNatClampNeg (vi 77)) = fT (fT (fT (fT (fT (fT (fT vF 29 (upd (vF 29) (nI nd).toNatClampNeg 13)) 30 (upd (vF 30) (nI nd).toNatClampNeg (nI cP))) 31 (upd (vF 31) (nI nd).toNatClampNeg (nI cR))) 32 (upd (vF 32) (nI nd).toNatClampNeg ((vF 43) dN))) 33 (upd (vF 33) (nI nd).toNatClampNeg 0)) 34 (upd (upd (vF 34) (nI nd).toNatClampNeg 0) ((nI nd)).toNatClampNeg ((vF 46) dN))) 35 (upd (upd (vF 35) (nI nd).toNatClampNeg 0) ((nI nd)).toNatClampNeg (vi 77)) := Eq.trans (mv_14 rfl) (Eq.trans (id_14 rfl) (Eq.trans (mv_13 rfl) (Eq.trans (id_13 rfl) (Eq.trans (mv_12 rfl) (Eq.trans (id_12 rfl) (Eq.trans (mv_11 rfl) (Eq.trans (id_11 rfl) (Eq.trans (mv_10 rfl) (Eq.trans (id_10 rfl) (Eq.trans (mv_9 rfl) (Eq.trans (id_9 rfl) (Eq.trans (mv_8 rfl) (Eq.trans (id_8 rfl) (Eq.trans (mv_7 rfl) (id_7 rfl)))))))))))))))
          have hP := wr_PF e9 hP
          have hD := wr_DF e9 hD
          clear e9
          exact W.vret hx hb hr (fun t9_ ht hW => ⟨⟨(an, fn, (vi 20), (vi 18), (vi 21), (vi 22), (upd (vF 29) (nI nd).toNatClampNeg 13), (upd (vF 30) (nI nd).toNatClampNeg (nI cP)), (upd (vF 31) (nI nd).toNatClampNeg (nI cR)), (upd (vF 32) (nI nd).toNatClampNeg ((vF 43) dN)), (upd (vF 33) (nI nd).toNatClampNeg 0), (upd (upd (vF 34) (nI nd).toNatClampNeg 0) ((nI nd)).toNatClampNeg ((vF 46) dN)), (upd (upd (vF 35) (nI nd).toNatClampNeg 0) ((nI nd)).toNatClampNeg (vi 77)), (vF 39), (vF 40), (vF 41), (vF 42), (vF 43), (vF 46), (vF 47), (vF 48), dN, (wi - xe), (nd + 1), (nI nd), ((vF 47) dN), (gG.add nd (gG.wt cP + gG.wt cR + 3) (51 - 2 * (cw + xe)) 0)), rfl, by (try dsimp only); exact ⟨hLx, Nat.le_refl _, hst0, Or.inr ⟨by (have e9 : wi - xe = cw := by omega); rw [e9]; exact RdS.pop (ex := xe) hKN.1 hBel hKN.2.1 (Nat.le_refl _) (fun q hq => ⟨rfl, rfl, rfl, rfl, rfl⟩) (by omega) (fun h8 => absurd rfl h8) (by decide) (Or.inr ⟨by decide, hLN⟩) (by omega) (by show gG.vN + 1 + un ≤ nd + 1; omega) (by omega) (by omega) hKN.2.2.2 (by omega), hKN.2.1.less (Nat.zero_le _)⟩, by omega⟩, by rw [ht]; exact hP, hD⟩, hS.F ht⟩) hS.2.2 dX12_readOne_314
end
section
theorem RTp.fac0 {T : Nat → Nat → Int32} {G : RG} {f29 f30 f31 f32 f36 f37 f38 f40 f41 f42 : Nat → Int32} {wd sg res : Int32} {se bs i w u ex gl gm p1 n1 m1 tw : Nat} (h : RTp T G f29 f30 f31 f32 f36 f37 f38 f40 f41 f42 wd sg res se bs i 1 w u ex gl gm p1 n1 m1 tw) (e : f40 i = 0) : f41 i = -1 ∧ f42 i = -1 ∧ p1 = 0 ∧ n1 = 0 ∧ m1 = 0 ∧ gm = gl ∧ ex = 1 ∧ tw = 1 := by
  rcases h with ⟨h1, h2, h3, ⟨a1, a2, a3, a4⟩, ⟨a6, a5⟩, a7, h4⟩ | ⟨h1, ck, ⟨⟨b0, b1, b3, b2⟩, h2⟩, c, h3, h4⟩
  · exact ⟨h2, h3, a1, a2, a3, a4, a5 (by decide), by omega⟩
  · rcases h2 with h | h | h | h | h | h | h | h | h | h | h | h
    · exact absurd h.1 (by decide)
    · exact absurd (e.symm.trans h.2.2.1) (by decide)
    · exact absurd (e.symm.trans h.2.2.1) (by decide)
    · exact absurd (e.symm.trans h.2.2.1) (by decide)
    · exact absurd (e.symm.trans h.2.2.1) (by decide)
    · exact absurd (e.symm.trans h.2.2.1) (by decide)
    · exact absurd (e.symm.trans h.2.2.1) (by decide)
    · exact absurd h.1 (by decide)
    · exact absurd h.1 (by decide)
    · exact absurd h.1 (by decide)
    · exact absurd h.1 (by decide)
    · exact absurd h.1 (by decide)
theorem RTp.fac1 {T : Nat → Nat → Int32} {G : RG} {f29 f30 f31 f32 f36 f37 f38 f40 f41 f42 : Nat → Int32} {wd sg res : Int32} {se bs i w u ex gl gm p1 n1 m1 tw : Nat} (h : RTp T G f29 f30 f31 f32 f36 f37 f38 f40 f41 f42 wd sg res se bs i 1 w u ex gl gm p1 n1 m1 tw) (e : f40 i = 1) : p1 = 1 ∧ n1 = 0 ∧ m1 = 0 ∧ gl ≤ gm ∧ ex = 1 ∧ tw = 1 ∧ w ≤ 24 ∧ ∃ c, res = nI c ∧ LinO G f29 c (49 - 2 * w) := by
  rcases h with ⟨h1, h2, h3, ⟨a1, a2, a3, a4⟩, ⟨a6, a5⟩, a7, h4⟩ | ⟨h1, ck, ⟨⟨b0, b1, b3, b2⟩, h2⟩, c, h3, h4⟩
  · exact absurd (e.symm.trans h1) (by decide)
  · rcases h2 with h | h | h | h | h | h | h | h | h | h | h | h
    · exact absurd h.1 (by decide)
    · (rcases h4 with h4 | h4 | h4); (exact ⟨h.2.2.2.2.2, h.2.2.2.1, h.2.2.2.2.1, b2, b1 (by decide), h1, h4.2.1, c, h3, h4.2.2⟩); (exact absurd (h.2.1.symm.trans h4.1) (by decide)); (exact absurd (h.2.1.symm.trans h4.1) (by decide))
    · exact absurd (e.symm.trans h.2.2.1) (by decide)
    · exact absurd (e.symm.trans h.2.2.1) (by decide)
    · exact absurd (e.symm.trans h.2.2.1) (by decide)
    · exact absurd (e.symm.trans h.2.2.1) (by decide)
    · exact absurd (e.symm.trans h.2.2.1) (by decide)
    · exact absurd h.1 (by decide)
    · exact absurd h.1 (by decide)
    · exact absurd h.1 (by decide)
    · exact absurd h.1 (by decide)
    · exact absurd h.1 (by decide)
theorem RTp.fac2 {T : Nat → Nat → Int32} {G : RG} {f29 f30 f31 f32 f36 f37 f38 f40 f41 f42 : Nat → Int32} {wd sg res : Int32} {se bs i w u ex gl gm p1 n1 m1 tw : Nat} (h : RTp T G f29 f30 f31 f32 f36 f37 f38 f40 f41 f42 wd sg res se bs i 1 w u ex gl gm p1 n1 m1 tw) (e : f40 i = 2) : p1 = 0 ∧ n1 = 0 ∧ m1 = 0 ∧ gl ≤ gm ∧ ex = 1 ∧ tw = 1 ∧ w ≤ 24 ∧ ∃ c, res = nI c ∧ LinO G f29 c (49 - 2 * w) := by
  rcases h with ⟨h1, h2, h3, ⟨a1, a2, a3, a4⟩, ⟨a6, a5⟩, a7, h4⟩ | ⟨h1, ck, ⟨⟨b0, b1, b3, b2⟩, h2⟩, c, h3, h4⟩
  · exact absurd (e.symm.trans h1) (by decide)
  · rcases h2 with h | h | h | h | h | h | h | h | h | h | h | h
    · exact absurd h.1 (by decide)
    · exact absurd (e.symm.trans h.2.2.1) (by decide)
    · (rcases h4 with h4 | h4 | h4); (exact ⟨h.2.2.2.2.2, h.2.2.2.1, h.2.2.2.2.1, b2, b1 (by decide), h1, h4.2.1, c, h3, h4.2.2⟩); (exact absurd (h.2.1.symm.trans h4.1) (by decide)); (exact absurd (h.2.1.symm.trans h4.1) (by decide))
    · exact absurd (e.symm.trans h.2.2.1) (by decide)
    · exact absurd (e.symm.trans h.2.2.1) (by decide)
    · exact absurd (e.symm.trans h.2.2.1) (by decide)
    · exact absurd (e.symm.trans h.2.2.1) (by decide)
    · exact absurd h.1 (by decide)
    · exact absurd h.1 (by decide)
    · exact absurd h.1 (by decide)
    · exact absurd h.1 (by decide)
    · exact absurd h.1 (by decide)
theorem RTp.fac3 {T : Nat → Nat → Int32} {G : RG} {f29 f30 f31 f32 f36 f37 f38 f40 f41 f42 : Nat → Int32} {wd sg res : Int32} {se bs i w u ex gl gm p1 n1 m1 tw : Nat} (h : RTp T G f29 f30 f31 f32 f36 f37 f38 f40 f41 f42 wd sg res se bs i 1 w u ex gl gm p1 n1 m1 tw) (e : f40 i = 3) : p1 = 0 ∧ n1 = 1 ∧ m1 = 0 ∧ gl ≤ gm ∧ ex = 1 ∧ tw = 1 ∧ w ≤ 24 ∧ (∃ c, res = nI c ∧ LinO G f29 c (49 - 2 * w)) ∧ ∃ g pl, f41 i = nI g ∧ gl ≤ g ∧ g < gm ∧ ¬ G.V g ∧ UnN T f29 f30 se g pl ∧ f31 g = -1 ∧ f32 g = -1 := by
  rcases h with ⟨h1, h2, h3, ⟨a1, a2, a3, a4⟩, ⟨a6, a5⟩, a7, h4⟩ | ⟨h1, ck, ⟨⟨b0, b1, b3, b2⟩, h2⟩, c, h3, h4⟩
  · exact absurd (e.symm.trans h1) (by decide)
  · rcases h2 with h | h | h | h | h | h | h | h | h | h | h | h
    · exact absurd h.1 (by decide)
    · exact absurd (e.symm.trans h.2.2.1) (by decide)
    · exact absurd (e.symm.trans h.2.2.1) (by decide)
    · (rcases h4 with h4 | h4 | h4); (exact ⟨h.2.2.2.2.2.1, h.2.2.2.1, h.2.2.2.2.1, b2, b1 (by decide), h1, h4.2.1, ⟨c, h3, h4.2.2⟩, h.2.2.2.2.2.2⟩); (exact absurd (h.2.1.symm.trans h4.1) (by decide)); (exact absurd (h.2.1.symm.trans h4.1) (by decide))
    · exact absurd (e.symm.trans h.2.2.1) (by decide)
    · exact absurd (e.symm.trans h.2.2.1) (by decide)
    · exact absurd (e.symm.trans h.2.2.1) (by decide)
    · exact absurd h.1 (by decide)
    · exact absurd h.1 (by decide)
    · exact absurd h.1 (by decide)
    · exact absurd h.1 (by decide)
    · exact absurd h.1 (by decide)
theorem RTp.fac4 {T : Nat → Nat → Int32} {G : RG} {f29 f30 f31 f32 f36 f37 f38 f40 f41 f42 : Nat → Int32} {wd sg res : Int32} {se bs i w u ex gl gm p1 n1 m1 tw : Nat} (h : RTp T G f29 f30 f31 f32 f36 f37 f38 f40 f41 f42 wd sg res se bs i 1 w u ex gl gm p1 n1 m1 tw) (e : f40 i = 4) : p1 = 0 ∧ n1 = 1 ∧ m1 = 0 ∧ gl ≤ gm ∧ ex = 1 ∧ tw = 1 ∧ w ≤ 24 ∧ (∃ c, res = nI c ∧ LinO G f29 c (49 - 2 * w)) ∧ ∃ g d, f41 i = nI g ∧ gl ≤ g ∧ g < gm ∧ ¬ G.V g ∧ UnN T f29 f30 se g 2 ∧ f31 g = nI d ∧ LinO G f29 d (51 - 2 * w) ∧ f32 g = -1 := by
  rcases h with ⟨h1, h2, h3, ⟨a1, a2, a3, a4⟩, ⟨a6, a5⟩, a7, h4⟩ | ⟨h1, ck, ⟨⟨b0, b1, b3, b2⟩, h2⟩, c, h3, h4⟩
  · exact absurd (e.symm.trans h1) (by decide)
  · rcases h2 with h | h | h | h | h | h | h | h | h | h | h | h
    · exact absurd h.1 (by decide)
    · exact absurd (e.symm.trans h.2.2.1) (by decide)
    · exact absurd (e.symm.trans h.2.2.1) (by decide)
    · exact absurd (e.symm.trans h.2.2.1) (by decide)
    · (rcases h4 with h4 | h4 | h4); (exact ⟨h.2.2.2.2.2.1, h.2.2.2.1, h.2.2.2.2.1, b2, b1 (by decide), h1, h4.2.1, ⟨c, h3, h4.2.2⟩, h.2.2.2.2.2.2⟩); (exact absurd (h.2.1.symm.trans h4.1) (by decide)); (exact absurd (h.2.1.symm.trans h4.1) (by decide))
    · exact absurd (e.symm.trans h.2.2.1) (by decide)
    · exact absurd (e.symm.trans h.2.2.1) (by decide)
    · exact absurd h.1 (by decide)
    · exact absurd h.1 (by decide)
    · exact absurd h.1 (by decide)
    · exact absurd h.1 (by decide)
    · exact absurd h.1 (by decide)
theorem RTp.fac5 {T : Nat → Nat → Int32} {G : RG} {f29 f30 f31 f32 f36 f37 f38 f40 f41 f42 : Nat → Int32} {wd sg res : Int32} {se bs i w u ex gl gm p1 n1 m1 tw : Nat} (h : RTp T G f29 f30 f31 f32 f36 f37 f38 f40 f41 f42 wd sg res se bs i 1 w u ex gl gm p1 n1 m1 tw) (e : f40 i = 5) : p1 = 0 ∧ n1 = 1 ∧ m1 = 1 ∧ gl ≤ gm ∧ ex = 1 ∧ tw = 1 ∧ w ≤ 24 ∧ (∃ c, res = nI c ∧ TruO G f29 c (49 - 2 * w)) ∧ ∃ g, f41 i = nI g ∧ gl ≤ g ∧ g < gm ∧ ¬ G.V g ∧ UnS f29 f30 f36 f37 f38 se bs u g ∧ f31 g = -1 := by
  rcases h with ⟨h1, h2, h3, ⟨a1, a2, a3, a4⟩, ⟨a6, a5⟩, a7, h4⟩ | ⟨h1, ck, ⟨⟨b0, b1, b3, b2⟩, h2⟩, c, h3, h4⟩
  · exact absurd (e.symm.trans h1) (by decide)
  · rcases h2 with h | h | h | h | h | h | h | h | h | h | h | h
    · exact absurd h.1 (by decide)
    · exact absurd (e.symm.trans h.2.2.1) (by decide)
    · exact absurd (e.symm.trans h.2.2.1) (by decide)
    · exact absurd (e.symm.trans h.2.2.1) (by decide)
    · exact absurd (e.symm.trans h.2.2.1) (by decide)
    · (rcases h4 with h4 | h4 | h4); (exact absurd (h.2.1 ▸ h4.1) (by decide)); (exact ⟨h.2.2.2.2.2.1, h.2.2.2.1, h.2.2.2.2.1, b2, b1 (by decide), h1, h4.2.1, ⟨c, h3, h4.2.2⟩, h.2.2.2.2.2.2⟩); (exact absurd (h.2.1.symm.trans h4.1) (by decide))
    · exact absurd (e.symm.trans h.2.2.1) (by decide)
    · exact absurd h.1 (by decide)
    · exact absurd h.1 (by decide)
    · exact absurd h.1 (by decide)
    · exact absurd h.1 (by decide)
    · exact absurd h.1 (by decide)
theorem RTp.fac6 {T : Nat → Nat → Int32} {G : RG} {f29 f30 f31 f32 f36 f37 f38 f40 f41 f42 : Nat → Int32} {wd sg res : Int32} {se bs i w u ex gl gm p1 n1 m1 tw : Nat} (h : RTp T G f29 f30 f31 f32 f36 f37 f38 f40 f41 f42 wd sg res se bs i 1 w u ex gl gm p1 n1 m1 tw) (e0 : ¬ f40 i = 0) (e1 : ¬ f40 i = 1) (e2 : ¬ f40 i = 2) (e3 : ¬ f40 i = 3) (e4 : ¬ f40 i = 4) (e5 : ¬ f40 i = 5) : p1 = 0 ∧ n1 = 1 ∧ m1 = 1 ∧ gl ≤ gm ∧ ex = 1 ∧ tw = 1 ∧ w ≤ 24 ∧ (∃ c, res = nI c ∧ LinO G f29 c (49 - 2 * w)) ∧ ∃ g, f41 i = nI g ∧ gl ≤ g ∧ g < gm ∧ ¬ G.V g ∧ UnS f29 f30 f36 f37 f38 se bs u g ∧ (f31 g = -1 ∨ ∃ d, f31 g = nI d ∧ TruO G f29 d (50 - 2 * w)) := by
  rcases h with ⟨h1, h2, h3, ⟨a1, a2, a3, a4⟩, ⟨a6, a5⟩, a7, h4⟩ | ⟨h1, ck, ⟨⟨b0, b1, b3, b2⟩, h2⟩, c, h3, h4⟩
  · exact absurd h1 e0
  · rcases h2 with h | h | h | h | h | h | h | h | h | h | h | h
    · exact absurd h.1 (by decide)
    · exact absurd h.2.2.1 e1
    · exact absurd h.2.2.1 e2
    · exact absurd h.2.2.1 e3
    · exact absurd h.2.2.1 e4
    · exact absurd h.2.2.1 e5
    · (rcases h4 with h4 | h4 | h4); (exact ⟨h.2.2.2.2.2.1, h.2.2.2.1, h.2.2.2.2.1, b2, b1 (by decide), h1, h4.2.1, ⟨c, h3, h4.2.2⟩, h.2.2.2.2.2.2⟩); (exact absurd (h.2.1.symm.trans h4.1) (by decide)); (exact absurd (h.2.1.symm.trans h4.1) (by decide))
    · exact absurd h.1 (by decide)
    · exact absurd h.1 (by decide)
    · exact absurd h.1 (by decide)
    · exact absurd h.1 (by decide)
    · exact absurd h.1 (by decide)
theorem RdK.b31 {T : Nat → Nat → Int32} {G G' : RG} {f29 f30 f31 f32 f36 f37 f38 g29 g30 g31 g32 g36 g37 g38 : Nat → Int32} {se nd bs gl : Nat} {n : Nat} {v : Int32} (h : RdK T G f29 f30 f31 f32 f36 f37 f38 G' g29 g30 g31 g32 g36 g37 g38 se nd bs gl) (hv : ¬ G'.V n) (hg : gl ≤ n) (h4 : n < 4000) : RdK T G f29 f30 f31 f32 f36 f37 f38 G' g29 g30 (upd g31 (nI n).toNatClampNeg v) g32 g36 g37 g38 se nd bs gl := ⟨h.1.b31 hv (by omega), h.2.1.b31 hg (by omega), h.2.2⟩
theorem RdK.b32 {T : Nat → Nat → Int32} {G G' : RG} {f29 f30 f31 f32 f36 f37 f38 g29 g30 g31 g32 g36 g37 g38 : Nat → Int32} {se nd bs gl : Nat} {n : Nat} {v : Int32} (h : RdK T G f29 f30 f31 f32 f36 f37 f38 G' g29 g30 g31 g32 g36 g37 g38 se nd bs gl) (hv : ¬ G'.V n) (hg : gl ≤ n) (h4 : n < 4000) : RdK T G f29 f30 f31 f32 f36 f37 f38 G' g29 g30 g31 (upd g32 (nI n).toNatClampNeg v) g36 g37 g38 se nd bs gl := ⟨h.1.b32 hv (by omega), h.2.1.b32 hg (by omega), h.2.2⟩
/-- a name node is finished -/
theorem RdK.fin1 {T : Nat → Nat → Int32} {G G' : RG} {f29 f30 f31 f32 f36 f37 f38 g29 g30 g31 g32 g36 g37 g38 : Nat → Int32} {se nd bs gl : Nat} {n d P p : Nat} (h : RdK T G f29 f30 f31 f32 f36 f37 f38 G' g29 g30 g31 g32 g36 g37 g38 se nd bs gl) (hv : ¬ G'.V n) (hv0 : ¬ G.V n) (hg : gl ≤ n) (hn : n < nd) (h4 : n < 4000) (hUn : UnN T g29 g30 se n 1) (hb : g31 n = nI d) (hd : LinO G' g29 d P) (hP : P ≤ p) (hc : g32 n = -1) (hp : 1 ≤ p) : RdK T G f29 f30 f31 f32 f36 f37 f38 (G'.add n (G'.wt d + 4) p 0) g29 g30 g31 g32 g36 g37 g38 se nd bs gl ∧ LinO (G'.add n (G'.wt d + 4) p 0) g29 n p := by
  obtain ⟨k, a, o1, o2, aT, hkk, hk, ha, hS, _⟩ := hUn
  exact ⟨⟨h.1.name1 hv hn h4 hkk hk ha hS hp rfl hb hd hP hc, h.2.1.add hg hv0, h.2.2⟩, LinO.new hk (by omega)⟩
theorem RdK.fin2 {T : Nat → Nat → Int32} {G G' : RG} {f29 f30 f31 f32 f36 f37 f38 g29 g30 g31 g32 g36 g37 g38 : Nat → Int32} {se nd bs gl : Nat} {n d c P Q p : Nat} (h : RdK T G f29 f30 f31 f32 f36 f37 f38 G' g29 g30 g31 g32 g36 g37 g38 se nd bs gl) (hv : ¬ G'.V n) (hv0 : ¬ G.V n) (hg : gl ≤ n) (hn : n < nd) (h4 : n < 4000) (hUn : UnN T g29 g30 se n 2) (hb : g31 n = nI d) (hd : LinO G' g29 d P) (hP : P ≤ p) (hcc : g32 n = nI c) (hc : LinO G' g29 c Q) (hQ : Q ≤ p) (hp : 1 ≤ p) : RdK T G f29 f30 f31 f32 f36 f37 f38 (G'.add n (G'.wt c + G'.wt d + 4) p 0) g29 g30 g31 g32 g36 g37 g38 se nd bs gl ∧ LinO (G'.add n (G'.wt c + G'.wt d + 4) p 0) g29 n p := by
  obtain ⟨k, a, o1, o2, aT, hkk, hk, ha, hS, _⟩ := hUn
  exact ⟨⟨h.1.name2 hv hn h4 hkk hk ha hS hp rfl hb hd hP hcc hc hQ, h.2.1.add hg hv0, h.2.2⟩, LinO.new hk (by omega)⟩
/-- a sum is finished -/
theorem RdK.finS {T : Nat → Nat → Int32} {G G' : RG} {f29 f30 f31 f32 f36 f37 f38 g29 g30 g31 g32 g36 g37 g38 : Nat → Int32} {se nd bs gl : Nat} {n c P p u : Nat} (h : RdK T G f29 f30 f31 f32 f36 f37 f38 G' g29 g30 g31 g32 g36 g37 g38 se nd bs gl) (hv : ¬ G'.V n) (hv0 : ¬ G.V n) (hg : gl ≤ n) (hn : n < nd) (h4 : n < 4000) (hSe : SeO (T 16) (T 17) se) (h44 : se ≤ 44) (hUn : UnS g29 g30 g36 g37 g38 se bs u n) (hb : g31 n = -1 ∨ ∃ d, g31 n = nI d ∧ TruO G' g29 d (p - 1)) (hcc : g32 n = nI c) (hc : LinO G' g29 c P) (hP : P + 1 ≤ p) (hp : 2 ≤ p) : ∃ w y, RdK T G f29 f30 f31 f32 f36 f37 f38 (G'.add n w p y) g29 g30 g31 g32 g36 g37 g38 se nd bs gl ∧ LinO (G'.add n w p y) g29 n p := by
  obtain ⟨hk, b, ha, hbs, hb9, hB, _⟩ := hUn
  obtain ⟨m, hM, hm⟩ := hB.members hSe h44
  obtain ⟨w, hw⟩ := h.1.sum hv hn h4 hk hp ha hb9 hbs hB hM hm hcc hc hP hb
  exact ⟨w, nI m, ⟨hw, h.2.1.add hg hv0, h.2.2⟩, LinO.new hk (by decide)⟩
/-- what is declared: the places of names -/
def DcO (T : Nat → Nat → Int32) (se pa va : Nat) : Prop := (∀ a, a < pa → ∃ pl o1 o2 aT, NamS T se 2 a pl o1 o2 aT) ∧ ∀ a, a < va → ∃ pl o1 o2 aT, NamS T se 3 a pl o1 o2 aT
end
section
theorem dX12_beginName_0 : decode cX12_beginName 0 = .ok (.aload_n 0, 1) := dk_42 (by decide +kernel)
theorem dX12_beginName_1 : decode cX12_beginName 1 = .ok (.invokevirtual 558, 3) := dk_182 (by decide +kernel)
theorem dX12_beginName_4 : decode cX12_beginName 4 = .ok (.istore_n 2, 1) := dk_61 (by decide +kernel)
theorem dX12_beginName_5 : decode cX12_beginName 5 = .ok (.iload_n 2, 1) := dk_28 (by decide +kernel)
theorem dX12_beginName_6 : decode cX12_beginName 6 = .ok (.iconst (-1), 1) := dk_2 (by decide +kernel)
theorem dX12_beginName_7 : decode cX12_beginName 7 = .ok (.if_icmp .eq 26, 3) := dk_159 (by decide +kernel)
theorem dX12_beginName_10 : decode cX12_beginName 10 = .ok (.aload_n 0, 1) := dk_42 (by decide +kernel)
theorem dX12_beginName_11 : decode cX12_beginName 11 = .ok (.iconst 1, 1) := dk_4 (by decide +kernel)
theorem dX12_beginName_12 : decode cX12_beginName 12 = .ok (.iload_n 2, 1) := dk_28 (by decide +kernel)
theorem dX12_beginName_13 : decode cX12_beginName 13 = .ok (.iconst 0, 1) := dk_3 (by decide +kernel)
theorem dX12_beginName_14 : decode cX12_beginName 14 = .ok (.iconst 0, 1) := dk_3 (by decide +kernel)
theorem dX12_beginName_15 : decode cX12_beginName 15 = .ok (.aload_n 0, 1) := dk_42 (by decide +kernel)
theorem dX12_beginName_16 : decode cX12_beginName 16 = .ok (.getfield 488, 3) := dk_180 (by decide +kernel)
theorem dX12_beginName_19 : decode cX12_beginName 19 = .ok (.invokevirtual 601, 3) := dk_182 (by decide +kernel)
theorem dX12_beginName_22 : decode cX12_beginName 22 = .ok (.istore_n 3, 1) := dk_62 (by decide +kernel)
theorem dX12_beginName_23 : decode cX12_beginName 23 = .ok (.aload_n 0, 1) := dk_42 (by decide +kernel)
theorem dX12_beginName_24 : decode cX12_beginName 24 = .ok (.invokevirtual 524, 3) := dk_182 (by decide +kernel)
theorem dX12_beginName_27 : decode cX12_beginName 27 = .ok (.aload_n 0, 1) := dk_42 (by decide +kernel)
theorem dX12_beginName_28 : decode cX12_beginName 28 = .ok (.iload_n 3, 1) := dk_29 (by decide +kernel)
theorem dX12_beginName_29 : decode cX12_beginName 29 = .ok (.invokevirtual 605, 3) := dk_182 (by decide +kernel)
theorem dX12_beginName_32 : decode cX12_beginName 32 = .ok (.return_, 1) := dk_177 (by decide +kernel)
theorem dX12_beginName_33 : decode cX12_beginName 33 = .ok (.aload_n 0, 1) := dk_42 (by decide +kernel)
theorem dX12_beginName_34 : decode cX12_beginName 34 = .ok (.invokevirtual 555, 3) := dk_182 (by decide +kernel)
theorem dX12_beginName_37 : decode cX12_beginName 37 = .ok (.istore_n 3, 1) := dk_62 (by decide +kernel)
theorem dX12_beginName_38 : decode cX12_beginName 38 = .ok (.aload_n 0, 1) := dk_42 (by decide +kernel)
theorem dX12_beginName_39 : decode cX12_beginName 39 = .ok (.aload_n 0, 1) := dk_42 (by decide +kernel)
theorem dX12_beginName_40 : decode cX12_beginName 40 = .ok (.getfield 50, 3) := dk_180 (by decide +kernel)
theorem dX12_beginName_43 : decode cX12_beginName 43 = .ok (.iload_n 3, 1) := dk_29 (by decide +kernel)
theorem dX12_beginName_44 : decode cX12_beginName 44 = .ok (.iaload, 1) := dk_46 (by decide +kernel)
theorem dX12_beginName_45 : decode cX12_beginName 45 = .ok (.iconst 2, 1) := dk_5 (by decide +kernel)
theorem dX12_beginName_46 : decode cX12_beginName 46 = .ok (.if_icmp .ne 7, 3) := dk_160 (by decide +kernel)
theorem dX12_beginName_49 : decode cX12_beginName 49 = .ok (.iconst 2, 1) := dk_5 (by decide +kernel)
theorem dX12_beginName_50 : decode cX12_beginName 50 = .ok (.goto 4, 3) := dk_167 (by decide +kernel)
theorem dX12_beginName_53 : decode cX12_beginName 53 = .ok (.iconst 3, 1) := dk_6 (by decide +kernel)
theorem dX12_beginName_54 : decode cX12_beginName 54 = .ok (.aload_n 0, 1) := dk_42 (by decide +kernel)
theorem dX12_beginName_55 : decode cX12_beginName 55 = .ok (.getfield 59, 3) := dk_180 (by decide +kernel)
theorem dX12_beginName_58 : decode cX12_beginName 58 = .ok (.iload_n 3, 1) := dk_29 (by decide +kernel)
theorem dX12_beginName_59 : decode cX12_beginName 59 = .ok (.iaload, 1) := dk_46 (by decide +kernel)
theorem dX12_beginName_60 : decode cX12_beginName 60 = .ok (.iconst (-1), 1) := dk_2 (by decide +kernel)
theorem dX12_beginName_61 : decode cX12_beginName 61 = .ok (.iconst (-1), 1) := dk_2 (by decide +kernel)
theorem dX12_beginName_62 : decode cX12_beginName 62 = .ok (.aload_n 0, 1) := dk_42 (by decide +kernel)
theorem dX12_beginName_63 : decode cX12_beginName 63 = .ok (.getfield 488, 3) := dk_180 (by decide +kernel)
theorem dX12_beginName_66 : decode cX12_beginName 66 = .ok (.invokevirtual 601, 3) := dk_182 (by decide +kernel)
theorem dX12_beginName_69 : decode cX12_beginName 69 = .ok (.istore 4, 2) := dk_54 (by decide +kernel)
theorem dX12_beginName_71 : decode cX12_beginName 71 = .ok (.aload_n 0, 1) := dk_42 (by decide +kernel)
theorem dX12_beginName_72 : decode cX12_beginName 72 = .ok (.invokevirtual 524, 3) := dk_182 (by decide +kernel)
theorem dX12_beginName_75 : decode cX12_beginName 75 = .ok (.aload_n 0, 1) := dk_42 (by decide +kernel)
theorem dX12_beginName_76 : decode cX12_beginName 76 = .ok (.iload 4, 2) := dk_21 (by decide +kernel)
theorem dX12_beginName_78 : decode cX12_beginName 78 = .ok (.invokevirtual 614, 3) := dk_182 (by decide +kernel)
theorem dX12_beginName_81 : decode cX12_beginName 81 = .ok (.ifCond .ne 10, 3) := dk_154 (by decide +kernel)
theorem dX12_beginName_84 : decode cX12_beginName 84 = .ok (.aload_n 0, 1) := dk_42 (by decide +kernel)
theorem dX12_beginName_85 : decode cX12_beginName 85 = .ok (.iload 4, 2) := dk_21 (by decide +kernel)
theorem dX12_beginName_87 : decode cX12_beginName 87 = .ok (.invokevirtual 605, 3) := dk_182 (by decide +kernel)
theorem dX12_beginName_90 : decode cX12_beginName 90 = .ok (.return_, 1) := dk_177 (by decide +kernel)
theorem dX12_beginName_91 : decode cX12_beginName 91 = .ok (.aload_n 0, 1) := dk_42 (by decide +kernel)
theorem dX12_beginName_92 : decode cX12_beginName 92 = .ok (.getfield 146, 3) := dk_180 (by decide +kernel)
theorem dX12_beginName_95 : decode cX12_beginName 95 = .ok (.iload_n 1, 1) := dk_27 (by decide +kernel)
theorem dX12_beginName_96 : decode cX12_beginName 96 = .ok (.iload 4, 2) := dk_21 (by decide +kernel)
theorem dX12_beginName_98 : decode cX12_beginName 98 = .ok (.iastore, 1) := dk_79 (by decide +kernel)
theorem dX12_beginName_99 : decode cX12_beginName 99 = .ok (.aload_n 0, 1) := dk_42 (by decide +kernel)
theorem dX12_beginName_100 : decode cX12_beginName 100 = .ok (.bipush 91, 2) := dk_16 (by decide +kernel)
theorem dX12_beginName_102 : decode cX12_beginName 102 = .ok (.invokevirtual 611, 3) := dk_182 (by decide +kernel)
theorem dX12_beginName_105 : decode cX12_beginName 105 = .ok (.ifCond .ne 4, 3) := dk_154 (by decide +kernel)
theorem dX12_beginName_108 : decode cX12_beginName 108 = .ok (.return_, 1) := dk_177 (by decide +kernel)
theorem dX12_beginName_109 : decode cX12_beginName 109 = .ok (.aload_n 0, 1) := dk_42 (by decide +kernel)
theorem dX12_beginName_110 : decode cX12_beginName 110 = .ok (.getfield 143, 3) := dk_180 (by decide +kernel)
theorem dX12_beginName_113 : decode cX12_beginName 113 = .ok (.iload_n 1, 1) := dk_27 (by decide +kernel)
theorem dX12_beginName_114 : decode cX12_beginName 114 = .ok (.iconst 3, 1) := dk_6 (by decide +kernel)
theorem dX12_beginName_115 : decode cX12_beginName 115 = .ok (.iastore, 1) := dk_79 (by decide +kernel)
theorem dX12_beginName_116 : decode cX12_beginName 116 = .ok (.aload_n 0, 1) := dk_42 (by decide +kernel)
theorem dX12_beginName_117 : decode cX12_beginName 117 = .ok (.iconst 0, 1) := dk_3 (by decide +kernel)
theorem dX12_beginName_118 : decode cX12_beginName 118 = .ok (.invokevirtual 586, 3) := dk_182 (by decide +kernel)
theorem dX12_beginName_121 : decode cX12_beginName 121 = .ok (.return_, 1) := dk_177 (by decide +kernel)
def wsRX12_beginName : List Cond := .code yX12_beginName cX12_beginName 5 none :: ([.fieldLink RX12 50 "OptimaWorksModel" "nameKind" "[I", .fieldLink RX12 59 "OptimaWorksModel" "nameOf" "[I", .fieldLink RX12 488 "OptimaWorksModel" "from" "I", .fieldLink RX12 146 "OptimaWorksModel" "got1" "[I", .fieldLink RX12 143 "OptimaWorksModel" "step" "[I"] ++ wsX120 ++ (wsV RX12 558 RX12 yX12_binder wsRbinderf) ++ (wsV RX12 555 RX12 yX12_declared wsRdeclaredf) ++ (wsV RX12 601 RX12 yX12_node wsRX12_node) ++ (wsV RX12 524 RX12 yX12_next wsRX12_next) ++ (wsV RX12 614 RX12 yX12_placesOf wsRX12_placesOf) ++ (wsV RX12 611 RX12 yX12_needSign wsRX12_needSign) ++ (wsV RX12 586 RX12 yX12_begin1 wsRX12_begin1) ++ (wsV RX12 605 RX12 yX12_end1 wsRend1w))
theorem iwsRX12_beginName_in12 : ∀ w ∈ wsX120, w ∈ wsRX12_beginName := fun _ h => List.mem_cons_of_mem _ (List.mem_append_left _ (List.mem_append_left _ (List.mem_append_left _ (List.mem_append_left _ (List.mem_append_left _ (List.mem_append_left _ (List.mem_append_left _ (List.mem_append_left _ (List.mem_append_right _ h)))))))))
theorem gwsRX12_beginName_0 : GoodIn wsRX12_beginName (wsV RX12 558 RX12 yX12_binder wsRbinderf) := goodIn_sub (fun _ h => List.mem_cons_of_mem _ (List.mem_append_left _ (List.mem_append_left _ (List.mem_append_left _ (List.mem_append_left _ (List.mem_append_left _ (List.mem_append_left _ (List.mem_append_left _ (List.mem_append_right _ h))))))))) (gdV (by decide +kernel) gdwsRbinderf)
theorem gwsRX12_beginName_1 : GoodIn wsRX12_beginName (wsV RX12 555 RX12 yX12_declared wsRdeclaredf) := goodIn_sub (fun _ h => List.mem_cons_of_mem _ (List.mem_append_left _ (List.mem_append_left _ (List.mem_append_left _ (List.mem_append_left _ (List.mem_append_left _ (List.mem_append_left _ (List.mem_append_right _ h)))))))) (gdV (by decide +kernel) gdwsRdeclaredf)
theorem gwsRX12_beginName_2 : GoodIn wsRX12_beginName (wsV RX12 601 RX12 yX12_node wsRX12_node) := goodIn_sub (fun _ h => List.mem_cons_of_mem _ (List.mem_append_left _ (List.mem_append_left _ (List.mem_append_left _ (List.mem_append_left _ (List.mem_append_left _ (List.mem_append_right _ h))))))) (gdV (by decide +kernel) gdwsRX12_node)
theorem gwsRX12_beginName_3 : GoodIn wsRX12_beginName (wsV RX12 524 RX12 yX12_next wsRX12_next) := goodIn_sub (fun _ h => List.mem_cons_of_mem _ (List.mem_append_left _ (List.mem_append_left _ (List.mem_append_left _ (List.mem_append_left _ (List.mem_append_right _ h)))))) (gdV (by decide +kernel) gdwsRX12_next)
theorem gwsRX12_beginName_4 : GoodIn wsRX12_beginName (wsV RX12 614 RX12 yX12_placesOf wsRX12_placesOf) := goodIn_sub (fun _ h => List.mem_cons_of_mem _ (List.mem_append_left _ (List.mem_append_left _ (List.mem_append_left _ (List.mem_append_right _ h))))) (gdV (by decide +kernel) gdwsRX12_placesOf)
theorem gwsRX12_beginName_5 : GoodIn wsRX12_beginName (wsV RX12 611 RX12 yX12_needSign wsRX12_needSign) := goodIn_sub (fun _ h => List.mem_cons_of_mem _ (List.mem_append_left _ (List.mem_append_left _ (List.mem_append_right _ h)))) (gdV (by decide +kernel) gdwsRX12_needSign)
theorem gwsRX12_beginName_6 : GoodIn wsRX12_beginName (wsV RX12 586 RX12 yX12_begin1 wsRX12_begin1) := goodIn_sub (fun _ h => List.mem_cons_of_mem _ (List.mem_append_left _ (List.mem_append_right _ h))) (gdV (by decide +kernel) gdwsRX12_begin1)
theorem gwsRX12_beginName_7 : GoodIn wsRX12_beginName (wsV RX12 605 RX12 yX12_end1 wsRend1w) := goodIn_sub (fun _ h => List.mem_cons_of_mem _ (List.mem_append_right _ h)) (gdV (by decide +kernel) gdwsRend1w)
theorem gdwsRX12_beginName : wsRX12_beginName.all goodWord = true := gdC rfl (gdA (gdA (gdA (gdA (gdA (gdA (gdA (gdA (gdA (by decide +kernel : ([.fieldLink RX12 50 "OptimaWorksModel" "nameKind" "[I", .fieldLink RX12 59 "OptimaWorksModel" "nameOf" "[I", .fieldLink RX12 488 "OptimaWorksModel" "from" "I", .fieldLink RX12 146 "OptimaWorksModel" "got1" "[I", .fieldLink RX12 143 "OptimaWorksModel" "step" "[I"] : List Cond).all goodWord = true) gdwsX120) (gdV (by decide +kernel) gdwsRbinderf)) (gdV (by decide +kernel) gdwsRdeclaredf)) (gdV (by decide +kernel) gdwsRX12_node)) (gdV (by decide +kernel) gdwsRX12_next)) (gdV (by decide +kernel) gdwsRX12_placesOf)) (gdV (by decide +kernel) gdwsRX12_needSign)) (gdV (by decide +kernel) gdwsRX12_begin1)) (gdV (by decide +kernel) gdwsRend1w))
theorem hm_r_X12_beginName_0 : (.fieldLink RX12 59 "OptimaWorksModel" "nameOf" "[I" : Cond) ∈ wsRX12_beginName := by decide +kernel
theorem hm_r_X12_beginName_1 : (.fieldLink RX12 488 "OptimaWorksModel" "from" "I" : Cond) ∈ wsRX12_beginName := by decide +kernel
theorem hm_r_X12_beginName_2 : (.fieldLink RX12 146 "OptimaWorksModel" "got1" "[I" : Cond) ∈ wsRX12_beginName := by decide +kernel
theorem hm_r_X12_beginName_3 : (.fieldLink RX12 143 "OptimaWorksModel" "step" "[I" : Cond) ∈ wsRX12_beginName := by decide +kernel
set_option maxHeartbeats 4000000 in
set_option maxRecDepth 100000 in
/-- beginName(d) -/
theorem r_X12_beginName (l : Launch) (dC : Nat → ClassId) (dI : Nat → Nat → Nat) (a : Nat → Nat) (k : Nat → ClassId) (h0 : Nat) (vi : Nat → Int32) (vj : Nat → Int64) (vF : Nat → Nat → Int32) (vG : Nat → Nat → Int64) (tp : Nat) (an : Nat) (fn : Nat) (nm : Nat) (se : Nat) (pa : Nat) (va : Nat) (bd : Nat) (tT : Nat → Nat → Int32) (gG : RG) (bs : Nat) (r0 : Nat) (dN : Nat) (wi : Nat) (nd : Nat) (mM : Nat) (cw : Nat) (uu : Nat) (pe : Nat) (un : Nat) (gl : Nat) (gm : Nat) (xe : Nat) (p1 : Nat) (n1 : Nat) (m1 : Nat) (tw : Nat) (hTp : vi 16 = nI tp) (htp : tp ≤ 4000) (ha0 : vi 17 = nI an) (hfr : vi 19 = nI fn) (hLx : LxO tp fn an (vi 18) (vi 20)) (hst0 : 0 ≤ (vi 21).toInt) (hnm : vi 25 = nI nm) (hnm40 : nm ≤ 40) (hno : NmO (vF 11) (vF 12) nm) (hNk : NkO (vF 10) (vF 13) nm se pa va) (hbd : vi 30 = nI bd) (hbd60 : bd ≤ 60) (hbo : NmO (vF 14) (vF 15) 60) (hse44 : se ≤ 44) (hRV : RdV tT gG (vF 29) (vF 30) (vF 31) (vF 32) (vF 36) (vF 37) (vF 38) se nd bs) (hRT : RdT tT gG (vF 29) (vF 30) (vF 31) (vF 32) (vF 36) (vF 37) (vF 38) (vF 39) (vF 40) (vF 41) (vF 42) (vF 48) (vi 18) (vi 20) (vi 76) se bs r0 dN wi nd bd fn mM 1 cw uu pe un gl gm xe p1 n1 m1 tw) (hdp : vi 74 = nI (dN + 1)) (hwi : vi 75 = nI wi) (hnd : vi 52 = nI nd) (hDc : DcO tT se pa va) (ht18 : vF 18 = tT 18) (ht24 : vF 24 = tT 24) (hs0 : vF 40 dN = 0) (hwd1 : (vi 18).toInt = 1) (hCb : CbO (vF 9) (vF 10) (vF 11) (vF 12) (vF 14) (vF 15) fn an nm bd) (sz : Nat) : Met l yX12_beginName wsRX12_beginName ({ frames := 9, cells := 0, slots := 0, locals := 194 }) (va_Pc [.ref h0, .int (nI dN)] (fun U => U.heap.size = sz ∧ va_P (dC, dI) vwCl (WR a k h0 vi vj vF vG) U.heap ∧ va_K (dC, dI) vwCl (tX12 k) U ∧ va_D (fun _ => True) (WR a k h0 vi vj vF vG) ∧ StrA (va_A (WR a k h0 vi vj vF vG) sz) U U.heap)) (va_Qv (fun (u : (Nat) × (Nat) × (Int32) × (Int32) × (Int32) × (Int32) × (Nat → Int32) × (Nat → Int32) × (Nat → Int32) × (Nat → Int32) × (Nat → Int32) × (Nat → Int32) × (Nat → Int32) × (Nat → Int32) × (Nat → Int32) × (Nat → Int32) × (Nat → Int32) × (Nat → Int32) × (Nat → Int32) × (Nat) × (Nat) × (Nat) × (Int32) × (Int32) × (RG)) => (LxO tp (u.2.1) (u.1) (u.2.2.2.1) (u.2.2.1)) ∧ (fn ≤ (u.2.1)) ∧ (0 ≤ ((u.2.2.2.2.1)).toInt) ∧ (0 < ((u.2.2.2.2.1)).toInt ∨ (RdS tT (u.2.2.2.2.2.2.2.2.2.2.2.2.2.2.2.2.2.2.2.2.2.2.2.2) (u.2.2.2.2.2.2.1) (u.2.2.2.2.2.2.2.1) (u.2.2.2.2.2.2.2.2.1) (u.2.2.2.2.2.2.2.2.2.1) (vF 36) (vF 37) (vF 38) (u.2.2.2.2.2.2.2.2.2.2.2.2.2.1) (u.2.2.2.2.2.2.2.2.2.2.2.2.2.2.1) (u.2.2.2.2.2.2.2.2.2.2.2.2.2.2.2.1) (u.2.2.2.2.2.2.2.2.2.2.2.2.2.2.2.2.1) (u.2.2.2.2.2.2.2.2.2.2.2.2.2.2.2.2.2.2.1) (u.2.2.2.1) (u.2.2.1) (u.2.2.2.2.2.2.2.2.2.2.2.2.2.2.2.2.2.2.2.2.2.2.1) se bs r0 (u.2.2.2.2.2.2.2.2.2.2.2.2.2.2.2.2.2.2.2.1) (u.2.2.2.2.2.2.2.2.2.2.2.2.2.2.2.2.2.2.2.2.1) (u.2.2.2.2.2.2.2.2.2.2.2.2.2.2.2.2.2.2.2.2.2.1) bd (u.2.1) (mM - 1) ∧ Ext 0 bs gG (vF 29) (vF 30) (vF 31) (vF 32) (vF 36) (vF 37) (vF 38) (u.2.2.2.2.2.2.2.2.2.2.2.2.2.2.2.2.2.2.2.2.2.2.2.2) (u.2.2.2.2.2.2.1) (u.2.2.2.2.2.2.2.1) (u.2.2.2.2.2.2.2.2.1) (u.2.2.2.2.2.2.2.2.2.1) (vF 36) (vF 37) (vF 38))) ∧ ((u.2.2.2.2.2.2.2.2.2.2.2.2.2.2.2.2.2.2.2.1) ≤ dN + 2)) (fun (u : (Nat) × (Nat) × (Int32) × (Int32) × (Int32) × (Int32) × (Nat → Int32) × (Nat → Int32) × (Nat → Int32) × (Nat → Int32) × (Nat → Int32) × (Nat → Int32) × (Nat → Int32) × (Nat → Int32) × (Nat → Int32) × (Nat → Int32) × (Nat → Int32) × (Nat → Int32) × (Nat → Int32) × (Nat) × (Nat) × (Nat) × (Int32) × (Int32) × (RG)) t => va_P (dC, dI) vwCl (WR a k h0 (fT (fT (fT (fT (fT (fT (fT (fT (fT (fT (fT vi 52 (nI (u.2.2.2.2.2.2.2.2.2.2.2.2.2.2.2.2.2.2.2.2.2.1))) 17 (nI (u.1))) 19 (nI (u.2.1))) 20 (u.2.2.1)) 18 (u.2.2.2.1)) 21 (u.2.2.2.2.1)) 22 (u.2.2.2.2.2.1)) 75 (nI (u.2.2.2.2.2.2.2.2.2.2.2.2.2.2.2.2.2.2.2.2.1))) 74 (nI (u.2.2.2.2.2.2.2.2.2.2.2.2.2.2.2.2.2.2.2.1))) 76 (u.2.2.2.2.2.2.2.2.2.2.2.2.2.2.2.2.2.2.2.2.2.2.1)) 77 (u.2.2.2.2.2.2.2.2.2.2.2.2.2.2.2.2.2.2.2.2.2.2.2.1)) vj (fT (fT (fT (fT (fT (fT (fT (fT (fT (fT (fT (fT (fT vF 29 (u.2.2.2.2.2.2.1)) 30 (u.2.2.2.2.2.2.2.1)) 31 (u.2.2.2.2.2.2.2.2.1)) 32 (u.2.2.2.2.2.2.2.2.2.1)) 33 (u.2.2.2.2.2.2.2.2.2.2.1)) 34 (u.2.2.2.2.2.2.2.2.2.2.2.1)) 35 (u.2.2.2.2.2.2.2.2.2.2.2.2.1)) 41 (u.2.2.2.2.2.2.2.2.2.2.2.2.2.2.2.1)) 40 (u.2.2.2.2.2.2.2.2.2.2.2.2.2.2.1)) 39 (u.2.2.2.2.2.2.2.2.2.2.2.2.2.1)) 42 (u.2.2.2.2.2.2.2.2.2.2.2.2.2.2.2.2.1)) 47 (u.2.2.2.2.2.2.2.2.2.2.2.2.2.2.2.2.2.1)) 48 (u.2.2.2.2.2.2.2.2.2.2.2.2.2.2.2.2.2.2.1)) vG) t.heap ∧ va_D (va_A (WR a k h0 vi vj vF vG) sz) (WR a k h0 (fT (fT (fT (fT (fT (fT (fT (fT (fT (fT (fT vi 52 (nI (u.2.2.2.2.2.2.2.2.2.2.2.2.2.2.2.2.2.2.2.2.2.1))) 17 (nI (u.1))) 19 (nI (u.2.1))) 20 (u.2.2.1)) 18 (u.2.2.2.1)) 21 (u.2.2.2.2.1)) 22 (u.2.2.2.2.2.1)) 75 (nI (u.2.2.2.2.2.2.2.2.2.2.2.2.2.2.2.2.2.2.2.2.1))) 74 (nI (u.2.2.2.2.2.2.2.2.2.2.2.2.2.2.2.2.2.2.2.1))) 76 (u.2.2.2.2.2.2.2.2.2.2.2.2.2.2.2.2.2.2.2.2.2.2.1)) 77 (u.2.2.2.2.2.2.2.2.2.2.2.2.2.2.2.2.2.2.2.2.2.2.2.1)) vj (fT (fT (fT (fT (fT (fT (fT (fT (fT (fT (fT (fT (fT vF 29 (u.2.2.2.2.2.2.1)) 30 (u.2.2.2.2.2.2.2.1)) 31 (u.2.2.2.2.2.2.2.2.1)) 32 (u.2.2.2.2.2.2.2.2.2.1)) 33 (u.2.2.2.2.2.2.2.2.2.2.1)) 34 (u.2.2.2.2.2.2.2.2.2.2.2.1)) 35 (u.2.2.2.2.2.2.2.2.2.2.2.2.1)) 41 (u.2.2.2.2.2.2.2.2.2.2.2.2.2.2.2.1)) 40 (u.2.2.2.2.2.2.2.2.2.2.2.2.2.2.1)) 39 (u.2.2.2.2.2.2.2.2.2.2.2.2.2.1)) 42 (u.2.2.2.2.2.2.2.2.2.2.2.2.2.2.2.2.1)) 47 (u.2.2.2.2.2.2.2.2.2.2.2.2.2.2.2.2.2.1)) 48 (u.2.2.2.2.2.2.2.2.2.2.2.2.2.2.2.2.2.2.1)) vG)) (va_A (WR a k h0 vi vj vF vG) sz)) 0 0 (va_A (WR a k h0 vi vj vF vG) sz) := by
  refine Met.ofW (cc := cX12_beginName) (maxL := 5) (ret := none) (by decide) rfl ?_
  intro p e s m args below meth c s₁ B hml hv
  obtain ⟨rfl, hsz, hP, hK, hD0, hE⟩ := hv
  have hx := B.exec
  have hb := B.bytes
  have hr := B.returns
  have hts := atoms_spec (ws := wsRX12_beginName) B.pre
  have hown : s.vm.findClass RX12 = some m.cls := findClass_of_methodNamed B.named
  have hlocks := B.notSynchronized
  subst hsz
  have hD := hD0.self (sz := s.heap.size)
  generalize hAe : va_A (WR a k h0 vi vj vF vG) s.heap.size = A at hD hE ⊢
  have hA : ∀ q : Nat, s.heap.size ≤ q → A q := fun q h => by rw [← hAe]; exact Or.inr h
  have hS : va_S A s.heap s.heap [] := va_S.rf
  have hl := lv_entry ([.ref h0, .int (nI dN)]) (n := 5) (Nat.le_of_ble_eq_true rfl)
  rw [lg_entry_eq]
  generalize (lg_sl ([.ref h0, .int (nI dN)]) ++ List.replicate (5 - (lg_sl ([.ref h0, .int (nI dN)])).length) Slot.unset).toArray = ls at hl ⊢
  have hl : lv_has ls 5 [(0, .ref h0), (1, .int (nI dN))] := hl
  have hfa := hLx.1
  have han := hLx.2.1
  have han4 : an ≤ 4000 := by omega
  obtain ⟨⟨h39, _, h48⟩, hBel, ⟨h25, hwc⟩, hTq, hc1, hc2, hc3, hc4, hc5, hc6⟩ := hRT
  have hdd := hBel.deep
  have hz := hTq.fac0 hs0
  have hK0 := RdK.first (gl := gl) hRV (by omega)
  have hfl : fn < an := hLx.2.2.1.resolve_left (fun h => absurd (show (vi 18).toInt = 0 by rw [h]; decide) (by omega))
  refine lv_aload_n hx hb dX12_beginName_0 rfl (lv_at hl 0 rfl) ?_
  have hFc := allFree hD hS hA
  refine va_calli (va_runV (As := []) (rest := []) ⟨hx, hb, hml, hown, hts⟩ (r_X12_binderf l dC dI a k h0 vi vj vF vG an fn bd ha0 hfr (by first | with_reducible assumption | decide | omega | rfl | assumption) (by first | with_reducible assumption | decide | omega | rfl | assumption) (hbd) (by first | with_reducible assumption | decide | omega | rfl | assumption) ((fun k9 h9 => hbo k9 (by omega))) s.heap.size) (cwV 0 hts gwsRX12_beginName_0 rfl rfl rfl hd_yX12_binder_RX12 (by decide +kernel)) (fz_pre (va_recv hK hP (ci := 12) (q0 := 0) rfl rfl) hP hK hD) rfl rfl hl.1 rfl (lv_room (Nat.le_of_ble_eq_true rfl)) dX12_beginName_1 (by decide +kernel)) hS (fun q _ h => hFc q h) hFc (fun r1 kx1 t9_ H locs ht hvm hw9 hB9 hz1 hk1 hS => ?_)
  have hP : va_P (dC, dI) vwCl (WR a k h0 vi vj vF vG) H := fz_P ht hB9.1
  have hD := fz_sd hP (hB9.2.weaken (fun _ q _ h => hFc q.1 h)) rfl
  rcases hw9 with ⟨rfl, f1_0⟩ | ⟨rfl, f1_0, f1_1⟩
  · have f1_0 : ∀ k, k < bd → ¬ SmW (vF 9) (vF 14) (vF 15) fn an k := f1_0
    refine lv_istore_n hx hb dX12_beginName_4 rfl hl (by decide) rfl (fun ls (hl : lv_has ls _ ([(2, .int (-1)), (0, .ref h0), (1, .int (nI dN))])) => ?_)
    refine lv_iload_n hx hb dX12_beginName_5 rfl (lv_at hl 0 rfl) ?_
    refine lv_iconst (v := (-1)) hx hb dX12_beginName_6 (by decide) ?_
    refine lv_icmp_eq (tgt := 33) hx hb dX12_beginName_7 (by decide) (fun _ => ?_) (fun c9 => absurd (by decide) c9)
    refine lv_aload_n hx hb dX12_beginName_33 rfl (lv_at hl 1 rfl) ?_
    have hFc := allFree hD hS hA
    refine va_calli (va_runV (As := []) (rest := []) ⟨hx, hb, hml, hown, hts⟩ (r_X12_declaredf l dC dI a k h0 vi vj vF vG an fn nm ha0 hfr (by first | with_reducible assumption | decide | omega | rfl | assumption) (by first | with_reducible assumption | decide | omega | rfl | assumption) hnm (by first | with_reducible assumption | decide | omega | rfl | assumption) (by first | with_reducible assumption | decide | omega | rfl | assumption) H.size) (cwV 0 hts gwsRX12_beginName_1 rfl rfl rfl hd_yX12_declared_RX12 (by decide +kernel)) (fz_pre (va_recv hK hP (ci := 12) (q0 := 0) rfl rfl) hP hK hD) rfl rfl hl.1 rfl (lv_room (Nat.le_of_ble_eq_true rfl)) dX12_beginName_34 (by decide +kernel)) hS (fun q _ h => hFc q h) hFc (fun r34 kx34 t9_ H locs ht hvm hw9 hB9 hz1 hk1 hS => ?_)
    have hP : va_P (dC, dI) vwCl (WR a k h0 vi vj vF vG) H := fz_P ht hB9.1
    have hD := fz_sd hP (hB9.2.weaken (fun _ q _ h => hFc q.1 h)) rfl
    rcases hw9 with ⟨rfl, f34_0⟩ | ⟨rfl, f34_0, f34_1, f34_2⟩
    · have f34_0 : ∀ k, k < nm → ¬ SmW (vF 9) (vF 11) (vF 12) fn an k := f34_0
      refine lv_istore_n hx hb dX12_beginName_37 rfl hl (by decide) rfl (fun ls (hl : lv_has ls _ ([(3, .int (-1)), (2, .int (-1)), (0, .ref h0), (1, .int (nI dN))])) => ?_)
      obtain ⟨kC, hk1, hk2, hk3, hk4⟩ := hCb.resolve_left (fun ⟨k9, h1, h2⟩ => f1_0 k9 h1 h2)
      exact absurd hk2 (f34_0 kC hk1)
    · have f34_1 : SmW (vF 9) (vF 11) (vF 12) fn an kx34 := f34_1
      have f34_2 : ∀ k, k < kx34 → ¬ SmW (vF 9) (vF 11) (vF 12) fn an k := f34_2
      refine lv_istore_n hx hb dX12_beginName_37 rfl hl (by decide) rfl (fun ls (hl : lv_has ls _ ([(3, .int (nI kx34)), (2, .int (-1)), (0, .ref h0), (1, .int (nI dN))])) => ?_)
      obtain ⟨kC, hk1, hk2, hk3, hk4⟩ := hCb.resolve_left (fun ⟨k9, h1, h2⟩ => f1_0 k9 h1 h2)
      have hkE : kC = kx34 := by (rcases Nat.lt_trichotomy kC kx34 with h9 | h9 | h9); (exact absurd hk2 (f34_2 kC h9)); (exact h9); (exact absurd f34_1 (hk3 kx34 h9))
      rw [hkE] at hk4
      obtain ⟨oA, eoA, hoA, _, hoP, hoV⟩ := hNk kx34 (by omega)
      refine lv_aload_n hx hb dX12_beginName_38 rfl (lv_at hl 2 rfl) ?_
      refine lv_aload_n hx hb dX12_beginName_39 rfl (lv_at hl 2 rfl) ?_
      refine va_get (D := (dC, dI)) (ci := 12) (v := .ref (a 10)) (C := RX12) (T := TX12) (N := 163) (fs := fM (vS a vi vj)) hx hb hts iwsRX12_beginName_in12 hown hK hP 0 rfl rfl 26 (by decide) (hts (.fieldLink RX12 50 "OptimaWorksModel" "nameKind" "[I") (by decide +kernel)) (fun _ h9 => h9) rfl dX12_beginName_40 ?_
      refine lv_iload_n hx hb dX12_beginName_43 rfl (lv_at hl 0 rfl) ?_
      refine va_iald (cA := k 10) (n := 44) (f := (vF 10)) hx hb hK hP 11 10 (WR_get 10 (by decide)) (TR_get 10 (by decide)) (vp_in_nI (show kx34 < 44 by omega) (by omega)) dX12_beginName_44 ?_
      refine lv_topi (fun y1 hy1 => ?_)
      obtain rfl : ((vF 10) kx34) = y1 := (hy1.trans (by rw [nI_clamp (by omega)])).symm
      refine lv_iconst (v := 2) hx hb dX12_beginName_45 (by decide) ?_
      refine lv_icmp_ne (tgt := 53) hx hb dX12_beginName_46 (by decide) (fun c_46 => ?_) (fun c_46 => ?_)
      · have t_46 : (((vF 10) kx34)).toInt ≠ 2 := toI_ne c_46 rfl (by decide)
        refine lv_iconst (v := 3) hx hb dX12_beginName_53 (by decide) ?_
        obtain ⟨pl, o1, o2, aT, hSm⟩ := hDc.2 oA (hoV (hk4.resolve_left c_46))
        have hpl2 := hSm.2.2.2.1.1
        have hKN := hK0.node (kv := 3) (av := nI oA) (bv := -1) (cv := -1) (by omega)
        refine lv_aload_n hx hb dX12_beginName_54 rfl (lv_at hl 2 rfl) ?_
        refine va_get (D := (dC, dI)) (ci := 12) (v := .ref (a 13)) (C := RX12) (T := TX12) (N := 163) (fs := fM (vS a vi vj)) hx hb hts iwsRX12_beginName_in12 hown hK hP 0 rfl rfl 29 (by decide) (hts _ hm_r_X12_beginName_0) (fun _ h9 => h9) rfl dX12_beginName_55 ?_
        refine lv_iload_n hx hb dX12_beginName_58 rfl (lv_at hl 0 rfl) ?_
        refine va_iald (cA := k 13) (n := 44) (f := (vF 13)) hx hb hK hP 14 13 (WR_get 13 (by decide)) (TR_get 13 (by decide)) (vp_in_nI (show kx34 < 44 by omega) (by omega)) dX12_beginName_59 ?_
        refine lv_topi (fun y2 hy2 => ?_)
        obtain rfl : ((vF 13) kx34) = y2 := (hy2.trans (by rw [nI_clamp (by omega)])).symm
        refine lv_topi (fun y3 hy3 => ?_)
        obtain rfl : (nI oA) = y3 := (hy3.trans (eoA)).symm
        refine lv_iconst (v := (-1)) hx hb dX12_beginName_60 (by decide) ?_
        refine lv_iconst (v := (-1)) hx hb dX12_beginName_61 (by decide) ?_
        refine lv_aload_n hx hb dX12_beginName_62 rfl (lv_at hl 2 rfl) ?_
        refine va_get (D := (dC, dI)) (ci := 12) (v := .int (vi 19)) (C := RX12) (T := TX12) (N := 163) (fs := fM (vS a vi vj)) hx hb hts iwsRX12_beginName_in12 hown hK hP 0 rfl rfl 19 (by decide) (hts _ hm_r_X12_beginName_1) (fun _ h9 => h9) rfl dX12_beginName_63 ?_
        refine lv_topi (fun y4 hy4 => ?_)
        obtain rfl : (nI fn) = y4 := (hy4.trans (hfr)).symm
        have hFc := allFree hD hS hA
        refine va_calli (va_runV (As := [.int 3, .int (nI oA), .int (-1), .int (-1), .int (nI fn)]) (rest := []) ⟨hx, hb, hml, hown, hts⟩ (r_X12_node l dC dI a k h0 vi vj vF vG nd 3 (nI oA) (-1) (-1) (nI fn) hnd (by first | with_reducible assumption | decide | omega | rfl | assumption) H.size) (cwV 5 hts gwsRX12_beginName_2 rfl rfl rfl hd_yX12_node_RX12 (by decide +kernel)) (fz_pre (va_recv hK hP (ci := 12) (q0 := 0) rfl rfl) hP hK hD) rfl rfl hl.1 rfl (lv_room (Nat.le_of_ble_eq_true rfl)) dX12_beginName_66 (by decide +kernel)) hS (fun q _ h => hFc q h) hFc (fun r66 u t9_ H locs ht hvm hw9 hB9 hz1 hk1 hS => ?_)
        have hP : va_P (dC, dI) vwCl (WR a k h0 (fT vi 52 (nI (nd + 1))) vj (fT (fT (fT (fT (fT (fT (fT vF 29 (upd (vF 29) (nI nd).toNatClampNeg 3)) 30 (upd (vF 30) (nI nd).toNatClampNeg (nI oA))) 31 (upd (vF 31) (nI nd).toNatClampNeg (-1))) 32 (upd (vF 32) (nI nd).toNatClampNeg (-1))) 33 (upd (vF 33) (nI nd).toNatClampNeg (nI fn))) 34 (upd (vF 34) (nI nd).toNatClampNeg 0)) 35 (upd (vF 35) (nI nd).toNatClampNeg 0)) vG) H := fz_P ht hB9.1
        have hD := fz_sd hP (hB9.2.weaken (fun _ q _ h => hFc q.1 h)) rfl
        obtain rfl := hw9
        refine lv_istore hx hb dX12_beginName_69 hl (by decide) rfl (fun ls (hl : lv_has ls _ ([(4, .int (nI nd)), (3, .int (nI kx34)), (2, .int (-1)), (0, .ref h0), (1, .int (nI dN))])) => ?_)
        refine lv_aload_n hx hb dX12_beginName_71 rfl (lv_at hl 3 rfl) ?_
        have hFc := allFree hD hS hA
        refine va_callv (va_runV (As := []) (rest := []) ⟨hx, hb, hml, hown, hts⟩ (r_X12_next l dC dI a k h0 (fT vi 52 (nI (nd + 1))) vj (fT (fT (fT (fT (fT (fT (fT vF 29 (upd (vF 29) (nI nd).toNatClampNeg 3)) 30 (upd (vF 30) (nI nd).toNatClampNeg (nI oA))) 31 (upd (vF 31) (nI nd).toNatClampNeg (-1))) 32 (upd (vF 32) (nI nd).toNatClampNeg (-1))) 33 (upd (vF 33) (nI nd).toNatClampNeg (nI fn))) 34 (upd (vF 34) (nI nd).toNatClampNeg 0)) 35 (upd (vF 35) (nI nd).toNatClampNeg 0)) vG tp an hTp (by first | with_reducible assumption | decide | omega | rfl | assumption) ha0 (by first | with_reducible assumption | decide | omega | rfl | assumption) H.size) (cwV 0 hts gwsRX12_beginName_3 rfl rfl rfl hd_yX12_next_RX12 (by decide +kernel)) (fz_preE (va_recv hK hP (ci := 12) (q0 := 0) rfl rfl) hP hK hD (fun a U g mk qE => qE.same rfl) (fun U hU9 hW => by rw [hU9]; exact (((hE : StrA A s s.heap).kept hS.2.1).narrow (fun q h => hFc q h)).warm hW)) rfl rfl hl.1 rfl (lv_room (Nat.le_of_ble_eq_true rfl)) dX12_beginName_72 (by decide +kernel)) hS (fun q _ h => hFc q h) hFc (fun u t9_ H locs ht hvm hw9 hB9 hz1 hk1 hS => ?_)
        revert u hw9 hB9
        refine fz_p4 ?_
        intro a272 f272 sg72 wd72 hw9 hB9
        try dsimp only at hw9 hB9
        have hP : va_P (dC, dI) vwCl (WR a k h0 (fT (fT (fT (fT (fT vi 52 (nI (nd + 1))) 17 (nI a272)) 19 (nI f272)) 20 sg72) 18 wd72) vj (fT (fT (fT (fT (fT (fT (fT vF 29 (upd (vF 29) (nI nd).toNatClampNeg 3)) 30 (upd (vF 30) (nI nd).toNatClampNeg (nI oA))) 31 (upd (vF 31) (nI nd).toNatClampNeg (-1))) 32 (upd (vF 32) (nI nd).toNatClampNeg (-1))) 33 (upd (vF 33) (nI nd).toNatClampNeg (nI fn))) 34 (upd (vF 34) (nI nd).toNatClampNeg 0)) 35 (upd (vF 35) (nI nd).toNatClampNeg 0)) vG) H := fz_P ht hB9.1
        have hD := fz_sd hP (hB9.2.weaken (fun _ q _ h => hFc q.1 h)) rfl
        revert hw9
        refine fz_a2 ?_
        intro f72_0 f72_1
        have hl1 := f72_0.1
        have hl2 := f72_0.2.1
        refine lv_aload_n hx hb dX12_beginName_75 rfl (lv_at hl 3 rfl) ?_
        refine lv_iload hx hb dX12_beginName_76 (lv_at hl 0 rfl) ?_
        have hFc := allFree hD hS hA
        refine va_calli (va_runV (As := [.int (nI nd)]) (rest := []) ⟨hx, hb, hml, hown, hts⟩ (r_X12_placesOf l dC dI a k h0 (fT (fT (fT (fT (fT vi 52 (nI (nd + 1))) 17 (nI a272)) 19 (nI f272)) 20 sg72) 18 wd72) vj (fT (fT (fT (fT (fT (fT (fT vF 29 (upd (vF 29) (nI nd).toNatClampNeg 3)) 30 (upd (vF 30) (nI nd).toNatClampNeg (nI oA))) 31 (upd (vF 31) (nI nd).toNatClampNeg (-1))) 32 (upd (vF 32) (nI nd).toNatClampNeg (-1))) 33 (upd (vF 33) (nI nd).toNatClampNeg (nI fn))) 34 (upd (vF 34) (nI nd).toNatClampNeg 0)) 35 (upd (vF 35) (nI nd).toNatClampNeg 0)) vG nd 3 oA pl ((by omega)) (u_at (by omega) (by decide)) (u_at (by omega) rfl) (by first | with_reducible assumption | decide | omega | rfl | assumption) ((show Kd23 3 from by unfold Kd23; decide)) ((by decide)) ((fun h9 => (congrFun ht18 oA).trans (hSm.1.1 h9))) ((fun h9 => (congrFun ht24 oA).trans (hSm.1.2 h9))) H.size) (cwV 1 hts gwsRX12_beginName_4 rfl rfl rfl hd_yX12_placesOf_RX12 (by decide +kernel)) (fz_pre (va_recv hK hP (ci := 12) (q0 := 0) rfl rfl) hP hK hD) rfl rfl hl.1 rfl (lv_room (Nat.le_of_ble_eq_true rfl)) dX12_beginName_78 (by decide +kernel)) hS (fun q _ h => hFc q h) hFc (fun r78 u t9_ H locs ht hvm hw9 hB9 hz1 hk1 hS => ?_)
        have hP : va_P (dC, dI) vwCl (WR a k h0 (fT (fT (fT (fT (fT vi 52 (nI (nd + 1))) 17 (nI a272)) 19 (nI f272)) 20 sg72) 18 wd72) vj (fT (fT (fT (fT (fT (fT (fT vF 29 (upd (vF 29) (nI nd).toNatClampNeg 3)) 30 (upd (vF 30) (nI nd).toNatClampNeg (nI oA))) 31 (upd (vF 31) (nI nd).toNatClampNeg (-1))) 32 (upd (vF 32) (nI nd).toNatClampNeg (-1))) 33 (upd (vF 33) (nI nd).toNatClampNeg (nI fn))) 34 (upd (vF 34) (nI nd).toNatClampNeg 0)) 35 (upd (vF 35) (nI nd).toNatClampNeg 0)) vG) H := fz_P ht hB9.1
        have hD := fz_sd hP (hB9.2.weaken (fun _ q _ h => hFc q.1 h)) rfl
        obtain rfl := hw9
        refine lv_if_ne (tgt := 91) hx hb dX12_beginName_81 (by decide) (fun c_81 => ?_) (fun c_81 => ?_)
        · have t_81 : ((pl : Nat) : Int) ≠ 0 := toI_ne c_81 (nI_toInt (by omega)) (by decide)
          refine lv_aload_n hx hb dX12_beginName_91 rfl (lv_at hl 3 rfl) ?_
          refine va_get (D := (dC, dI)) (ci := 12) (v := .ref (a 41)) (C := RX12) (T := TX12) (N := 163) (fs := fM (vS a (fT (fT (fT (fT (fT vi 52 (nI (nd + 1))) 17 (nI a272)) 19 (nI f272)) 20 sg72) 18 wd72) vj)) hx hb hts iwsRX12_beginName_in12 hown hK hP 0 rfl rfl 66 (by decide) (hts _ hm_r_X12_beginName_2) (fun _ h9 => h9) rfl dX12_beginName_92 ?_
          refine lv_iload_n hx hb dX12_beginName_95 rfl (lv_at hl 4 rfl) ?_
          refine lv_iload hx hb dX12_beginName_96 (lv_at hl 0 rfl) ?_
          refine va_iast (cA := k 41) (n := 120) (f := (vF 41)) hx hb hK hP hD hS 42 41 (WR_get 41 (by decide)) (TR_get 41 (by decide)) (vp_in_nI (show dN < 120 by omega) (by omega)) dX12_beginName_98 (fun H locs hP hD hS => ?_)
          have hP : va_P (dC, dI) vwCl (WR a k h0 (fT (fT (fT (fT (fT vi 52 (nI (nd + 1))) 17 (nI a272)) 19 (nI f272)) 20 sg72) 18 wd72) vj (fT (fT (fT (fT (fT (fT (fT (fT vF 29 (upd (vF 29) (nI nd).toNatClampNeg 3)) 30 (upd (vF 30) (nI nd).toNatClampNeg (nI oA))) 31 (upd (vF 31) (nI nd).toNatClampNeg (-1))) 32 (upd (vF 32) (nI nd).toNatClampNeg (-1))) 33 (upd (vF 33) (nI nd).toNatClampNeg (nI fn))) 34 (upd (vF 34) (nI nd).toNatClampNeg 0)) 35 (upd (vF 35) (nI nd).toNatClampNeg 0)) 41 (upd (vF 41) ((nI dN)).toNatClampNeg (nI nd))) vG) H := fz_w (WR_F 41 (by decide) _ rfl) hP
          have hD : va_D A (WR a k h0 (fT (fT (fT (fT (fT vi 52 (nI (nd + 1))) 17 (nI a272)) 19 (nI f272)) 20 sg72) 18 wd72) vj (fT (fT (fT (fT (fT (fT (fT (fT vF 29 (upd (vF 29) (nI nd).toNatClampNeg 3)) 30 (upd (vF 30) (nI nd).toNatClampNeg (nI oA))) 31 (upd (vF 31) (nI nd).toNatClampNeg (-1))) 32 (upd (vF 32) (nI nd).toNatClampNeg (-1))) 33 (upd (vF 33) (nI nd).toNatClampNeg (nI fn))) 34 (upd (vF 34) (nI nd).toNatClampNeg 0)) 35 (upd (vF 35) (nI nd).toNatClampNeg 0)) 41 (upd (vF 41) ((nI dN)).toNatClampNeg (nI nd))) vG) := fz_wD (WR_F 41 (by decide) _ rfl) hD
          refine lv_aload_n hx hb dX12_beginName_99 rfl (lv_at hl 3 rfl) ?_
          refine lv_bipush (v := 91) hx hb dX12_beginName_100 (by decide) ?_
          have hFc := allFree hD hS hA
          refine va_calli (va_runV (As := [.int 91]) (rest := []) ⟨hx, hb, hml, hown, hts⟩ (r_X12_needSign l dC dI a k h0 (fT (fT (fT (fT (fT vi 52 (nI (nd + 1))) 17 (nI a272)) 19 (nI f272)) 20 sg72) 18 wd72) vj (fT (fT (fT (fT (fT (fT (fT (fT vF 29 (upd (vF 29) (nI nd).toNatClampNeg 3)) 30 (upd (vF 30) (nI nd).toNatClampNeg (nI oA))) 31 (upd (vF 31) (nI nd).toNatClampNeg (-1))) 32 (upd (vF 32) (nI nd).toNatClampNeg (-1))) 33 (upd (vF 33) (nI nd).toNatClampNeg (nI fn))) 34 (upd (vF 34) (nI nd).toNatClampNeg 0)) 35 (upd (vF 35) (nI nd).toNatClampNeg 0)) 41 (upd (vF 41) ((nI dN)).toNatClampNeg (nI nd))) vG 91 tp a272 f272 hTp (by first | with_reducible assumption | decide | omega | rfl | assumption) rfl rfl (f72_0) (by first | with_reducible assumption | decide | omega | rfl | assumption) H.size) (cwV 1 hts gwsRX12_beginName_5 rfl rfl rfl hd_yX12_needSign_RX12 (by decide +kernel)) (fz_preE (va_recv hK hP (ci := 12) (q0 := 0) rfl rfl) hP hK hD (fun a U g mk qE => qE.same rfl) (fun U hU9 hW => by rw [hU9]; exact (((hE : StrA A s s.heap).kept hS.2.1).narrow (fun q h => hFc q h)).warm hW)) rfl rfl hl.1 rfl (lv_room (Nat.le_of_ble_eq_true rfl)) dX12_beginName_102 (by decide +kernel)) hS (fun q _ h => hFc q h) hFc (fun r102 u t9_ H locs ht hvm hw9 hB9 hz1 hk1 hS => ?_)
          revert u hw9 hB9
          refine fz_p6 ?_
          intro a2102 f2102 sg102 wd102 s2102 p2102 hw9 hB9
          try dsimp only at hw9 hB9
          have e9i : fT (fT (fT (fT (fT (fT (fT vi 52 (nI (nd + 1))) 17 (nI a2102)) 19 (nI f2102)) 20 sg102) 18 wd102) 21 s2102) 22 p2102 = fT (fT (fT (fT (fT (fT (fT (fT (fT (fT (fT vi 52 (nI (nd + 1))) 17 (nI a272)) 19 (nI f272)) 20 sg72) 18 wd72) 17 (nI a2102)) 19 (nI f2102)) 20 sg102) 18 wd102) 21 s2102) 22 p2102 := Eq.symm (congrArg (fun g9 => fT (fT g9 21 s2102) 22 p2102) (Eq.trans (congrArg (fun g9 => fT g9 18 wd102) (Eq.trans (congrArg (fun g9 => fT g9 20 sg102) (Eq.trans (congrArg (fun g9 => fT g9 19 (nI f2102)) (up_3 rfl)) (up_2 rfl))) (up_1 rfl))) (up_0 rfl)))
          have hP := wr_Pi e9i (fz_P ht hB9.1)
          have hD := wr_Di e9i (hB9.2.weaken (fun _ q _ h => hFc q.1 h))
          clear e9i
          rcases hw9 with ⟨rfl, f102_0, f102_1, f102_2, f102_3⟩ | ⟨rfl, f102_0, f102_1, f102_2⟩
          · have f102_3 : (vi 21) = 0 := f102_3
            refine lv_if_ne (tgt := 109) hx hb dX12_beginName_105 (by decide) (fun _ => ?_) (fun c9 => absurd c9 (by decide))
            refine lv_aload_n hx hb dX12_beginName_109 rfl (lv_at hl 3 rfl) ?_
            refine va_get (D := (dC, dI)) (ci := 12) (v := .ref (a 40)) (C := RX12) (T := TX12) (N := 163) (fs := fM (vS a (fT (fT (fT (fT (fT (fT (fT vi 52 (nI (nd + 1))) 17 (nI a2102)) 19 (nI f2102)) 20 sg102) 18 wd102) 21 s2102) 22 p2102) vj)) hx hb hts iwsRX12_beginName_in12 hown hK hP 0 rfl rfl 65 (by decide) (hts _ hm_r_X12_beginName_3) (fun _ h9 => h9) rfl dX12_beginName_110 ?_
            refine lv_iload_n hx hb dX12_beginName_113 rfl (lv_at hl 4 rfl) ?_
            refine lv_iconst (v := 3) hx hb dX12_beginName_114 (by decide) ?_
            refine va_iast (cA := k 40) (n := 120) (f := (vF 40)) hx hb hK hP hD hS 41 40 (WR_get 40 (by decide)) (TR_get 40 (by decide)) (vp_in_nI (show dN < 120 by omega) (by omega)) dX12_beginName_115 (fun H locs hP hD hS => ?_)
            have hP : va_P (dC, dI) vwCl (WR a k h0 (fT (fT (fT (fT (fT (fT (fT vi 52 (nI (nd + 1))) 17 (nI a2102)) 19 (nI f2102)) 20 sg102) 18 wd102) 21 s2102) 22 p2102) vj (fT (fT (fT (fT (fT (fT (fT (fT (fT vF 29 (upd (vF 29) (nI nd).toNatClampNeg 3)) 30 (upd (vF 30) (nI nd).toNatClampNeg (nI oA))) 31 (upd (vF 31) (nI nd).toNatClampNeg (-1))) 32 (upd (vF 32) (nI nd).toNatClampNeg (-1))) 33 (upd (vF 33) (nI nd).toNatClampNeg (nI fn))) 34 (upd (vF 34) (nI nd).toNatClampNeg 0)) 35 (upd (vF 35) (nI nd).toNatClampNeg 0)) 41 (upd (vF 41) ((nI dN)).toNatClampNeg (nI nd))) 40 (upd (vF 40) ((nI dN)).toNatClampNeg 3)) vG) H := fz_w (WR_F 40 (by decide) _ rfl) hP
            have hD : va_D A (WR a k h0 (fT (fT (fT (fT (fT (fT (fT vi 52 (nI (nd + 1))) 17 (nI a2102)) 19 (nI f2102)) 20 sg102) 18 wd102) 21 s2102) 22 p2102) vj (fT (fT (fT (fT (fT (fT (fT (fT (fT vF 29 (upd (vF 29) (nI nd).toNatClampNeg 3)) 30 (upd (vF 30) (nI nd).toNatClampNeg (nI oA))) 31 (upd (vF 31) (nI nd).toNatClampNeg (-1))) 32 (upd (vF 32) (nI nd).toNatClampNeg (-1))) 33 (upd (vF 33) (nI nd).toNatClampNeg (nI fn))) 34 (upd (vF 34) (nI nd).toNatClampNeg 0)) 35 (upd (vF 35) (nI nd).toNatClampNeg 0)) 41 (upd (vF 41) ((nI dN)).toNatClampNeg (nI nd))) 40 (upd (vF 40) ((nI dN)).toNatClampNeg 3)) vG) := fz_wD (WR_F 40 (by decide) _ rfl) hD
            refine lv_aload_n hx hb dX12_beginName_116 rfl (lv_at hl 3 rfl) ?_
            refine lv_iconst (v := 0) hx hb dX12_beginName_117 (by decide) ?_
            have hFc := allFree hD hS hA
            refine va_callv (va_runV (As := [.int 0]) (rest := []) ⟨hx, hb, hml, hown, hts⟩ (r_X12_begin1 l dC dI a k h0 (fT (fT (fT (fT (fT (fT (fT vi 52 (nI (nd + 1))) 17 (nI a2102)) 19 (nI f2102)) 20 sg102) 18 wd102) 21 s2102) 22 p2102) vj (fT (fT (fT (fT (fT (fT (fT (fT (fT vF 29 (upd (vF 29) (nI nd).toNatClampNeg 3)) 30 (upd (vF 30) (nI nd).toNatClampNeg (nI oA))) 31 (upd (vF 31) (nI nd).toNatClampNeg (-1))) 32 (upd (vF 32) (nI nd).toNatClampNeg (-1))) 33 (upd (vF 33) (nI nd).toNatClampNeg (nI fn))) 34 (upd (vF 34) (nI nd).toNatClampNeg 0)) 35 (upd (vF 35) (nI nd).toNatClampNeg 0)) 41 (upd (vF 41) ((nI dN)).toNatClampNeg (nI nd))) 40 (upd (vF 40) ((nI dN)).toNatClampNeg 3)) vG 0 tp a2102 f2102 nm se pa va bd (dN + 1) wi hTp (by first | with_reducible assumption | decide | omega | rfl | assumption) rfl rfl (f102_1) ((show 0 ≤ (s2102).toInt by rw [f102_0]; decide)) hnm (by first | with_reducible assumption | decide | omega | rfl | assumption) (by first | with_reducible assumption | decide | omega | rfl | assumption) (by first | with_reducible assumption | decide | omega | rfl | assumption) hbd (by first | with_reducible assumption | decide | omega | rfl | assumption) (by first | with_reducible assumption | decide | omega | rfl | assumption) (hdp) (by first | with_reducible assumption | decide | omega | rfl | assumption) hwi (by first | with_reducible assumption | decide | omega | rfl | assumption) H.size) (cwV 1 hts gwsRX12_beginName_6 rfl rfl rfl hd_yX12_begin1_RX12 (by decide +kernel)) (fz_pre (va_recv hK hP (ci := 12) (q0 := 0) rfl rfl) hP hK hD) rfl rfl hl.1 rfl (lv_room (Nat.le_of_ble_eq_true rfl)) dX12_beginName_118 (by decide +kernel)) hS (fun q _ h => hFc q h) hFc (fun u t9_ H locs ht hvm hw9 hB9 hz1 hk1 hS => ?_)
            revert u hw9 hB9
            refine fz_p10 ?_
            intro s2118 p2118 g39118 g40118 g41118 g42118 g47118 g48118 d2118 w2118 hw9 hB9
            try dsimp only at hw9 hB9
            have e9i : fT (fT (fT (fT (fT (fT (fT (fT (fT vi 52 (nI (nd + 1))) 17 (nI a2102)) 19 (nI f2102)) 20 sg102) 18 wd102) 21 s2118) 22 p2118) 75 (nI w2118)) 74 (nI d2118) = fT (fT (fT (fT (fT (fT (fT (fT (fT (fT (fT vi 52 (nI (nd + 1))) 17 (nI a2102)) 19 (nI f2102)) 20 sg102) 18 wd102) 21 s2102) 22 p2102) 75 (nI w2118)) 74 (nI d2118)) 21 s2118) 22 p2118 := Eq.symm (Eq.trans (congrArg (fun g9 => fT g9 22 p2118) (up_3 rfl)) (up_2 rfl))
            have e9F : fT (fT (fT (fT (fT (fT (fT (fT (fT (fT (fT (fT (fT vF 29 (upd (vF 29) (nI nd).toNatClampNeg 3)) 30 (upd (vF 30) (nI nd).toNatClampNeg (nI oA))) 31 (upd (vF 31) (nI nd).toNatClampNeg (-1))) 32 (upd (vF 32) (nI nd).toNatClampNeg (-1))) 33 (upd (vF 33) (nI nd).toNatClampNeg (nI fn))) 34 (upd (vF 34) (nI nd).toNatClampNeg 0)) 35 (upd (vF 35) (nI nd).toNatClampNeg 0)) 41 g41118) 40 g40118) 39 g39118) 42 g42118) 47 g47118) 48 g48118 = fT (fT (fT (fT (fT (fT (fT (fT (fT (fT (fT (fT (fT (fT (fT vF 29 (upd (vF 29) (nI nd).toNatClampNeg 3)) 30 (upd (vF 30) (nI nd).toNatClampNeg (nI oA))) 31 (upd (vF 31) (nI nd).toNatClampNeg (-1))) 32 (upd (vF 32) (nI nd).toNatClampNeg (-1))) 33 (upd (vF 33) (nI nd).toNatClampNeg (nI fn))) 34 (upd (vF 34) (nI nd).toNatClampNeg 0)) 35 (upd (vF 35) (nI nd).toNatClampNeg 0)) 41 (upd (vF 41) ((nI dN)).toNatClampNeg (nI nd))) 40 (upd (vF 40) ((nI dN)).toNatClampNeg 3)) 39 g39118) 40 g40118) 41 g41118) 42 g42118) 47 g47118) 48 g48118 := ((congrArg (fun g9 => fT (fT (fT (fT g9 41 g41118) 42 g42118) 47 g47118) 48 g48118) ((fT_sw _ _ _ (Nat.ne_of_beq_eq_false rfl)).trans (congrArg (fun g9 => fT g9 39 g39118) (fT_sm _ _ _ _)))).trans (congrArg (fun g9 => fT (fT (fT g9 42 g42118) 47 g47118) 48 g48118) ((fT_sw _ _ _ (Nat.ne_of_beq_eq_false rfl)).trans (congrArg (fun g9 => fT g9 39 g39118) ((fT_sw _ _ _ (Nat.ne_of_beq_eq_false rfl)).trans (congrArg (fun g9 => fT g9 40 g40118) (fT_sm _ _ _ _))))))).symm
            have hP := wr_PF e9F (wr_Pi e9i (fz_P ht hB9.1))
            have hD := wr_DF e9F (wr_Di e9i (hB9.2.weaken (fun _ q _ h => hFc q.1 h)))
            clear e9i e9F
            revert hw9
            refine fz_a4 ?_
            intro f118_0 f118_1 f118_2 f118_3
            have f118_1 : 0 < (s2118).toInt ∨ (s2118 = s2102 ∧ BgO 0 wd102 sg102 g39118 g40118 g41118 g42118 g48118 (dN + 1) wi d2118 w2118) := f118_1
            have f118_2 : FrmO (dN + 1) (vF 39) (upd (vF 40) ((nI dN)).toNatClampNeg 3) (upd (vF 41) ((nI dN)).toNatClampNeg (nI nd)) (vF 42) (vF 48) g39118 g40118 g41118 g42118 g48118 := f118_2
            refine W.widen (k := 0) (n := 0) (by decide +kernel) (by decide +kernel) ?_
            have e9 : fT (fT (fT (fT (fT (fT (fT (fT (fT (fT (fT vi 52 (nI (nd + 1))) 17 (nI a2102)) 19 (nI f2102)) 20 sg102) 18 wd102) 21 s2118) 22 p2118) 75 (nI w2118)) 74 (nI d2118)) 76 (vi 76)) 77 (vi 77) = fT (fT (fT (fT (fT (fT (fT (fT (fT vi 52 (nI (nd + 1))) 17 (nI a2102)) 19 (nI f2102)) 20 sg102) 18 wd102) 21 s2118) 22 p2118) 75 (nI w2118)) 74 (nI d2118) := Eq.trans (mv_1 rfl) (Eq.trans (id_10 rfl) (id_9 rfl))
            have hP := wr_Pi e9 hP
            have hD := wr_Di e9 hD
            clear e9
            exact W.vret hx hb hr (fun t9_ ht hW => ⟨⟨(a2102, f2102, sg102, wd102, s2118, p2118, (upd (vF 29) (nI nd).toNatClampNeg 3), (upd (vF 30) (nI nd).toNatClampNeg (nI oA)), (upd (vF 31) (nI nd).toNatClampNeg (-1)), (upd (vF 32) (nI nd).toNatClampNeg (-1)), (upd (vF 33) (nI nd).toNatClampNeg (nI fn)), (upd (vF 34) (nI nd).toNatClampNeg 0), (upd (vF 35) (nI nd).toNatClampNeg 0), g39118, g40118, g41118, g42118, g47118, g48118, d2118, w2118, (nd + 1), (vi 76), (vi 77), gG), rfl, by (try dsimp only); exact ⟨f102_1, by omega, f118_0, by rcases f118_1 with h9 | h9; (exact Or.inl h9); (exact Or.inr ⟨RdS.push (gm := (nd + 1)) hKN.1 hBel hKN.2.1 (Nat.le_refl _) (fun q hq => ⟨rfl, by rw [upd_at (by omega), if_neg (by omega)], by rw [upd_at (by omega), if_neg (by omega)], rfl, rfl⟩) h39 (by decide) h48 (by omega) ⟨⟨by omega, fun _ => by omega, fun h8 => absurd h8 (by decide), by omega⟩, Or.inr (Or.inr (Or.inr (Or.inl ⟨rfl, rfl, by rw [upd_at (by omega), if_pos rfl], rfl, rfl, rfl, nd, pl, by rw [upd_at (by omega), if_pos rfl], by omega, by omega, hK0.nv, ⟨3, oA, o1, o2, aT, by decide, u_at (by omega) (by decide), ⟨u_at (by omega) rfl, hoA⟩, hSm, by omega⟩, u_at (by omega) rfl, u_at (by omega) rfl⟩)))⟩ f118_2 (by rw [← hwc]; exact h9.2) (show (0 : Int32) = nI 0 by decide) (by decide) (by omega) (by omega) (by omega) (by omega) (by omega) (by show 10 * (4000 - _) + dN + 1 + 3 ≤ mM - 1; omega), hKN.2.1.less (Nat.zero_le _)⟩), by omega⟩, by rw [ht]; exact hP, hD⟩, hS.F ht⟩) hS.2.2 dX12_beginName_121
          · refine lv_if_ne (tgt := 109) hx hb dX12_beginName_105 (by decide) (fun c9 => absurd c9 (by decide)) (fun _ => ?_)
            refine W.widen (k := 0) (n := 0) (by decide +kernel) (by decide +kernel) ?_
            have e9 : fT (fT (fT (fT (fT (fT (fT (fT (fT (fT (fT vi 52 (nI (nd + 1))) 17 (nI a2102)) 19 (nI f2102)) 20 sg102) 18 wd102) 21 s2102) 22 p2102) 75 (nI wi)) 74 (nI (dN + 1))) 76 (vi 76)) 77 (vi 77) = fT (fT (fT (fT (fT (fT (fT vi 52 (nI (nd + 1))) 17 (nI a2102)) 19 (nI f2102)) 20 sg102) 18 wd102) 21 s2102) 22 p2102 := Eq.trans (mv_3 rfl) (Eq.trans (congrArg (fT _ 75) (show nI wi = vi 75 from (by first | with_reducible rfl | with_reducible assumption | (symm; with_reducible assumption) | rfl | assumption | (symm; assumption) | (subst_vars; rfl)))) (Eq.trans (id_10 rfl) (Eq.trans (mv_2 rfl) (Eq.trans (congrArg (fT _ 74) (show nI (dN + 1) = vi 74 from (by first | with_reducible rfl | with_reducible assumption | (symm; with_reducible assumption) | rfl | assumption | (symm; assumption) | (subst_vars; rfl)))) (Eq.trans (id_9 rfl) (Eq.trans (mv_1 rfl) (Eq.trans (id_8 rfl) (id_7 rfl))))))))
            have hP := wr_Pi e9 hP
            have hD := wr_Di e9 hD
            clear e9
            have e9 : fT (fT (fT (fT (fT (fT (fT (fT (fT (fT (fT (fT (fT vF 29 (upd (vF 29) (nI nd).toNatClampNeg 3)) 30 (upd (vF 30) (nI nd).toNatClampNeg (nI oA))) 31 (upd (vF 31) (nI nd).toNatClampNeg (-1))) 32 (upd (vF 32) (nI nd).toNatClampNeg (-1))) 33 (upd (vF 33) (nI nd).toNatClampNeg (nI fn))) 34 (upd (vF 34) (nI nd).toNatClampNeg 0)) 35 (upd (vF 35) (nI nd).toNatClampNeg 0)) 41 (upd (vF 41) ((nI dN)).toNatClampNeg (nI nd))) 40 (vF 40)) 39 (vF 39)) 42 (vF 42)) 47 (vF 47)) 48 (vF 48) = fT (fT (fT (fT (fT (fT (fT (fT vF 29 (upd (vF 29) (nI nd).toNatClampNeg 3)) 30 (upd (vF 30) (nI nd).toNatClampNeg (nI oA))) 31 (upd (vF 31) (nI nd).toNatClampNeg (-1))) 32 (upd (vF 32) (nI nd).toNatClampNeg (-1))) 33 (upd (vF 33) (nI nd).toNatClampNeg (nI fn))) 34 (upd (vF 34) (nI nd).toNatClampNeg 0)) 35 (upd (vF 35) (nI nd).toNatClampNeg 0)) 41 (upd (vF 41) ((nI dN)).toNatClampNeg (nI nd)) := Eq.trans (mv_4 rfl) (Eq.trans (id_12 rfl) (Eq.trans (mv_3 rfl) (Eq.trans (id_11 rfl) (Eq.trans (mv_2 rfl) (Eq.trans (id_10 rfl) (Eq.trans (mv_1 rfl) (Eq.trans (id_9 rfl) (id_8 rfl))))))))
            have hP := wr_PF e9 hP
            have hD := wr_DF e9 hD
            clear e9
            exact W.vret hx hb hr (fun t9_ ht hW => ⟨⟨(a2102, f2102, sg102, wd102, s2102, p2102, (upd (vF 29) (nI nd).toNatClampNeg 3), (upd (vF 30) (nI nd).toNatClampNeg (nI oA)), (upd (vF 31) (nI nd).toNatClampNeg (-1)), (upd (vF 32) (nI nd).toNatClampNeg (-1)), (upd (vF 33) (nI nd).toNatClampNeg (nI fn)), (upd (vF 34) (nI nd).toNatClampNeg 0), (upd (vF 35) (nI nd).toNatClampNeg 0), (vF 39), (vF 40), (upd (vF 41) ((nI dN)).toNatClampNeg (nI nd)), (vF 42), (vF 47), (vF 48), (dN + 1), wi, (nd + 1), (vi 76), (vi 77), gG), rfl, by (try dsimp only); exact ⟨f102_1, by omega, by omega, Or.inl f102_0, by omega⟩, by rw [ht]; exact hP, hD⟩, hS.F ht⟩) hS.2.2 dX12_beginName_108
        · have t_81 : ((pl : Nat) : Int) = 0 := toI_nne c_81 (nI_toInt (by omega)) (by decide)
          have hKM := hK0.mkName (p := 51 - 2 * (cw + xe)) (kv := 3) (av := nI oA) (bv := -1) (cv := -1) (by omega) (k := 3) (by decide) (by decide) ⟨rfl, hoA⟩ hSm (by omega) (by omega) rfl rfl
          refine lv_aload_n hx hb dX12_beginName_84 rfl (lv_at hl 3 rfl) ?_
          refine lv_iload hx hb dX12_beginName_85 (lv_at hl 0 rfl) ?_
          have hFc := allFree hD hS hA
          refine va_callv (va_runV (As := [.int (nI nd)]) (rest := []) ⟨hx, hb, hml, hown, hts⟩ (r_X12_end1w l dC dI a k h0 (fT (fT (fT (fT (fT vi 52 (nI (nd + 1))) 17 (nI a272)) 19 (nI f272)) 20 sg72) 18 wd72) vj (fT (fT (fT (fT (fT (fT (fT vF 29 (upd (vF 29) (nI nd).toNatClampNeg 3)) 30 (upd (vF 30) (nI nd).toNatClampNeg (nI oA))) 31 (upd (vF 31) (nI nd).toNatClampNeg (-1))) 32 (upd (vF 32) (nI nd).toNatClampNeg (-1))) 33 (upd (vF 33) (nI nd).toNatClampNeg (nI fn))) 34 (upd (vF 34) (nI nd).toNatClampNeg 0)) 35 (upd (vF 35) (nI nd).toNatClampNeg 0)) vG (nI nd) dN wi xe (hdp) (by first | with_reducible assumption | decide | omega | rfl | assumption) hwi (by first | with_reducible assumption | decide | omega | rfl | assumption) (h48) (by first | with_reducible assumption | decide | omega | rfl | assumption) H.size) (cwV 1 hts gwsRX12_beginName_7 rfl rfl rfl hd_yX12_end1_RX12 (by decide +kernel)) (fz_pre (va_recv hK hP (ci := 12) (q0 := 0) rfl rfl) hP hK hD) rfl rfl hl.1 rfl (lv_room (Nat.le_of_ble_eq_true rfl)) dX12_beginName_87 (by decide +kernel)) hS (fun q _ h => hFc q h) hFc (fun u t9_ H locs ht hvm hw9 hB9 hz1 hk1 hS => ?_)
          have hP : va_P (dC, dI) vwCl (WR a k h0 (fT (fT (fT (fT (fT (fT (fT (fT (fT vi 52 (nI (nd + 1))) 17 (nI a272)) 19 (nI f272)) 20 sg72) 18 wd72) 74 (nI dN)) 75 (nI (wi - xe))) 76 (nI nd)) 77 ((vF 47) dN)) vj (fT (fT (fT (fT (fT (fT (fT vF 29 (upd (vF 29) (nI nd).toNatClampNeg 3)) 30 (upd (vF 30) (nI nd).toNatClampNeg (nI oA))) 31 (upd (vF 31) (nI nd).toNatClampNeg (-1))) 32 (upd (vF 32) (nI nd).toNatClampNeg (-1))) 33 (upd (vF 33) (nI nd).toNatClampNeg (nI fn))) 34 (upd (vF 34) (nI nd).toNatClampNeg 0)) 35 (upd (vF 35) (nI nd).toNatClampNeg 0)) vG) H := fz_P ht hB9.1
          have hD := fz_sd hP (hB9.2.weaken (fun _ q _ h => hFc q.1 h)) rfl
          refine W.widen (k := 0) (n := 0) (by decide +kernel) (by decide +kernel) ?_
          have e9 : fT (fT (fT (fT (fT (fT (fT (fT (fT (fT (fT vi 52 (nI (nd + 1))) 17 (nI a272)) 19 (nI f272)) 20 sg72) 18 wd72) 21 (vi 21)) 22 (vi 22)) 75 (nI (wi - xe))) 74 (nI dN)) 76 (nI nd)) 77 ((vF 47) dN) = fT (fT (fT (fT (fT (fT (fT (fT (fT vi 52 (nI (nd + 1))) 17 (nI a272)) 19 (nI f272)) 20 sg72) 18 wd72) 74 (nI dN)) 75 (nI (wi - xe))) 76 (nI nd)) 77 ((vF 47) dN) := Eq.trans (mv_5 rfl) (Eq.trans (id_10 rfl) (Eq.trans (mv_4 rfl) (Eq.trans (id_9 rfl) (Eq.trans (mv_2 rfl) (Eq.trans (mv_3 rfl) (Eq.trans (mv_3 rfl) (mv_3 rfl)))))))
          have hP := wr_Pi e9 hP
          have hD := wr_Di e9 hD
          clear e9
          have e9 : fT (fT (fT (fT (fT (fT (fT (fT (fT (fT (fT (fT (fT vF 29 (upd (vF 29) (nI nd).toNatClampNeg 3)) 30 (upd (vF 30) (nI nd).toNatClampNeg (nI oA))) 31 (upd (vF 31) (nI nd).toNatClampNeg (-1))) 32 (upd (vF 32) (nI nd).toNatClampNeg (-1))) 33 (upd (vF 33) (nI nd).toNatClampNeg (nI fn))) 34 (upd (vF 34) (nI nd).toNatClampNeg 0)) 35 (upd (vF 35) (nI nd).toNatClampNeg 0)) 41 (vF 41)) 40 (vF 40)) 39 (vF 39)) 42 (vF 42)) 47 (vF 47)) 48 (vF 48) = fT (fT (fT (fT (fT (fT (fT vF 29 (upd (vF 29) (nI nd).toNatClampNeg 3)) 30 (upd (vF 30) (nI nd).toNatClampNeg (nI oA))) 31 (upd (vF 31) (nI nd).toNatClampNeg (-1))) 32 (upd (vF 32) (nI nd).toNatClampNeg (-1))) 33 (upd (vF 33) (nI nd).toNatClampNeg (nI fn))) 34 (upd (vF 34) (nI nd).toNatClampNeg 0)) 35 (upd (vF 35) (nI nd).toNatClampNeg 0) := Eq.trans (mv_5 rfl) (Eq.trans (id_12 rfl) (Eq.trans (mv_4 rfl) (Eq.trans (id_11 rfl) (Eq.trans (mv_3 rfl) (Eq.trans (id_10 rfl) (Eq.trans (mv_2 rfl) (Eq.trans (id_9 rfl) (Eq.trans (mv_1 rfl) (Eq.trans (id_8 rfl) (id_7 rfl))))))))))
          have hP := wr_PF e9 hP
          have hD := wr_DF e9 hD
          clear e9
          exact W.vret hx hb hr (fun t9_ ht hW => ⟨⟨(a272, f272, sg72, wd72, (vi 21), (vi 22), (upd (vF 29) (nI nd).toNatClampNeg 3), (upd (vF 30) (nI nd).toNatClampNeg (nI oA)), (upd (vF 31) (nI nd).toNatClampNeg (-1)), (upd (vF 32) (nI nd).toNatClampNeg (-1)), (upd (vF 33) (nI nd).toNatClampNeg (nI fn)), (upd (vF 34) (nI nd).toNatClampNeg 0), (upd (vF 35) (nI nd).toNatClampNeg 0), (vF 39), (vF 40), (vF 41), (vF 42), (vF 47), (vF 48), dN, (wi - xe), (nd + 1), (nI nd), ((vF 47) dN), (gG.add nd 0 (51 - 2 * (cw + xe)) 0)), rfl, by (try dsimp only); exact ⟨f72_0, by omega, hst0, Or.inr ⟨by (have e9 : wi - xe = cw := by omega); rw [e9]; exact RdS.pop (ex := xe) hKM.1.1 hBel hKM.1.2.1 (Nat.le_refl _) (fun q hq => ⟨rfl, rfl, rfl, rfl, rfl⟩) (by omega) (fun h8 => by omega) (by decide) (Or.inl ⟨by decide, hKM.2⟩) (by omega) (by show gG.vN + 1 + un ≤ nd + 1; omega) (by omega) (by omega) hKM.1.2.2.2 (by omega), hKM.1.2.1.less (Nat.zero_le _)⟩, by omega⟩, by rw [ht]; exact hP, hD⟩, hS.F ht⟩) hS.2.2 dX12_beginName_90
      · have t_46 : (((vF 10) kx34)).toInt = 2 := toI_nne c_46 rfl (by decide)
        refine lv_iconst (v := 2) hx hb dX12_beginName_49 (by decide) ?_
        refine lv_goto (tgt := 54) hx hb dX12_beginName_50 (by decide) ?_
        obtain ⟨pl, o1, o2, aT, hSm⟩ := hDc.1 oA (hoP c_46)
        have hpl2 := hSm.2.2.2.1.1
        have hKN := hK0.node (kv := 2) (av := nI oA) (bv := -1) (cv := -1) (by omega)
        refine lv_aload_n hx hb dX12_beginName_54 rfl (lv_at hl 2 rfl) ?_
        refine va_get (D := (dC, dI)) (ci := 12) (v := .ref (a 13)) (C := RX12) (T := TX12) (N := 163) (fs := fM (vS a vi vj)) hx hb hts iwsRX12_beginName_in12 hown hK hP 0 rfl rfl 29 (by decide) (hts _ hm_r_X12_beginName_0) (fun _ h9 => h9) rfl dX12_beginName_55 ?_
        refine lv_iload_n hx hb dX12_beginName_58 rfl (lv_at hl 0 rfl) ?_
        refine va_iald (cA := k 13) (n := 44) (f := (vF 13)) hx hb hK hP 14 13 (WR_get 13 (by decide)) (TR_get 13 (by decide)) (vp_in_nI (show kx34 < 44 by omega) (by omega)) dX12_beginName_59 ?_
        refine lv_topi (fun y5 hy5 => ?_)
        obtain rfl : ((vF 13) kx34) = y5 := (hy5.trans (by rw [nI_clamp (by omega)])).symm
        refine lv_topi (fun y6 hy6 => ?_)
        obtain rfl : (nI oA) = y6 := (hy6.trans (eoA)).symm
        refine lv_iconst (v := (-1)) hx hb dX12_beginName_60 (by decide) ?_
        refine lv_iconst (v := (-1)) hx hb dX12_beginName_61 (by decide) ?_
        refine lv_aload_n hx hb dX12_beginName_62 rfl (lv_at hl 2 rfl) ?_
        refine va_get (D := (dC, dI)) (ci := 12) (v := .int (vi 19)) (C := RX12) (T := TX12) (N := 163) (fs := fM (vS a vi vj)) hx hb hts iwsRX12_beginName_in12 hown hK hP 0 rfl rfl 19 (by decide) (hts _ hm_r_X12_beginName_1) (fun _ h9 => h9) rfl dX12_beginName_63 ?_
        refine lv_topi (fun y7 hy7 => ?_)
        obtain rfl : (nI fn) = y7 := (hy7.trans (hfr)).symm
        have hFc := allFree hD hS hA
        refine va_calli (va_runV (As := [.int 2, .int (nI oA), .int (-1), .int (-1), .int (nI fn)]) (rest := []) ⟨hx, hb, hml, hown, hts⟩ (r_X12_node l dC dI a k h0 vi vj vF vG nd 2 (nI oA) (-1) (-1) (nI fn) hnd (by first | with_reducible assumption | decide | omega | rfl | assumption) H.size) (cwV 5 hts gwsRX12_beginName_2 rfl rfl rfl hd_yX12_node_RX12 (by decide +kernel)) (fz_pre (va_recv hK hP (ci := 12) (q0 := 0) rfl rfl) hP hK hD) rfl rfl hl.1 rfl (lv_room (Nat.le_of_ble_eq_true rfl)) dX12_beginName_66 (by decide +kernel)) hS (fun q _ h => hFc q h) hFc (fun r66_1 u t9_ H locs ht hvm hw9 hB9 hz1 hk1 hS => ?_)
        have hP : va_P (dC, dI) vwCl (WR a k h0 (fT vi 52 (nI (nd + 1))) vj (fT (fT (fT (fT (fT (fT (fT vF 29 (upd (vF 29) (nI nd).toNatClampNeg 2)) 30 (upd (vF 30) (nI nd).toNatClampNeg (nI oA))) 31 (upd (vF 31) (nI nd).toNatClampNeg (-1))) 32 (upd (vF 32) (nI nd).toNatClampNeg (-1))) 33 (upd (vF 33) (nI nd).toNatClampNeg (nI fn))) 34 (upd (vF 34) (nI nd).toNatClampNeg 0)) 35 (upd (vF 35) (nI nd).toNatClampNeg 0)) vG) H := fz_P ht hB9.1
        have hD := fz_sd hP (hB9.2.weaken (fun _ q _ h => hFc q.1 h)) rfl
        obtain rfl := hw9
        refine lv_istore hx hb dX12_beginName_69 hl (by decide) rfl (fun ls (hl : lv_has ls _ ([(4, .int (nI nd)), (3, .int (nI kx34)), (2, .int (-1)), (0, .ref h0), (1, .int (nI dN))])) => ?_)
        refine lv_aload_n hx hb dX12_beginName_71 rfl (lv_at hl 3 rfl) ?_
        have hFc := allFree hD hS hA
        refine va_callv (va_runV (As := []) (rest := []) ⟨hx, hb, hml, hown, hts⟩ (r_X12_next l dC dI a k h0 (fT vi 52 (nI (nd + 1))) vj (fT (fT (fT (fT (fT (fT (fT vF 29 (upd (vF 29) (nI nd).toNatClampNeg 2)) 30 (upd (vF 30) (nI nd).toNatClampNeg (nI oA))) 31 (upd (vF 31) (nI nd).toNatClampNeg (-1))) 32 (upd (vF 32) (nI nd).toNatClampNeg (-1))) 33 (upd (vF 33) (nI nd).toNatClampNeg (nI fn))) 34 (upd (vF 34) (nI nd).toNatClampNeg 0)) 35 (upd (vF 35) (nI nd).toNatClampNeg 0)) vG tp an hTp (by first | with_reducible assumption | decide | omega | rfl | assumption) ha0 (by first | with_reducible assumption | decide | omega | rfl | assumption) H.size) (cwV 0 hts gwsRX12_beginName_3 rfl rfl rfl hd_yX12_next_RX12 (by decide +kernel)) (fz_preE (va_recv hK hP (ci := 12) (q0 := 0) rfl rfl) hP hK hD (fun a U g mk qE => qE.same rfl) (fun U hU9 hW => by rw [hU9]; exact (((hE : StrA A s s.heap).kept hS.2.1).narrow (fun q h => hFc q h)).warm hW)) rfl rfl hl.1 rfl (lv_room (Nat.le_of_ble_eq_true rfl)) dX12_beginName_72 (by decide +kernel)) hS (fun q _ h => hFc q h) hFc (fun u t9_ H locs ht hvm hw9 hB9 hz1 hk1 hS => ?_)
        revert u hw9 hB9
        refine fz_p4 ?_
        intro a272_1 f272_1 sg72_1 wd72_1 hw9 hB9
        try dsimp only at hw9 hB9
        have hP : va_P (dC, dI) vwCl (WR a k h0 (fT (fT (fT (fT (fT vi 52 (nI (nd + 1))) 17 (nI a272_1)) 19 (nI f272_1)) 20 sg72_1) 18 wd72_1) vj (fT (fT (fT (fT (fT (fT (fT vF 29 (upd (vF 29) (nI nd).toNatClampNeg 2)) 30 (upd (vF 30) (nI nd).toNatClampNeg (nI oA))) 31 (upd (vF 31) (nI nd).toNatClampNeg (-1))) 32 (upd (vF 32) (nI nd).toNatClampNeg (-1))) 33 (upd (vF 33) (nI nd).toNatClampNeg (nI fn))) 34 (upd (vF 34) (nI nd).toNatClampNeg 0)) 35 (upd (vF 35) (nI nd).toNatClampNeg 0)) vG) H := fz_P ht hB9.1
        have hD := fz_sd hP (hB9.2.weaken (fun _ q _ h => hFc q.1 h)) rfl
        revert hw9
        refine fz_a2 ?_
        intro f72_1_0 f72_1_1
        have hl1 := f72_1_0.1
        have hl2 := f72_1_0.2.1
        refine lv_aload_n hx hb dX12_beginName_75 rfl (lv_at hl 3 rfl) ?_
        refine lv_iload hx hb dX12_beginName_76 (lv_at hl 0 rfl) ?_
        have hFc := allFree hD hS hA
        refine va_calli (va_runV (As := [.int (nI nd)]) (rest := []) ⟨hx, hb, hml, hown, hts⟩ (r_X12_placesOf l dC dI a k h0 (fT (fT (fT (fT (fT vi 52 (nI (nd + 1))) 17 (nI a272_1)) 19 (nI f272_1)) 20 sg72_1) 18 wd72_1) vj (fT (fT (fT (fT (fT (fT (fT vF 29 (upd (vF 29) (nI nd).toNatClampNeg 2)) 30 (upd (vF 30) (nI nd).toNatClampNeg (nI oA))) 31 (upd (vF 31) (nI nd).toNatClampNeg (-1))) 32 (upd (vF 32) (nI nd).toNatClampNeg (-1))) 33 (upd (vF 33) (nI nd).toNatClampNeg (nI fn))) 34 (upd (vF 34) (nI nd).toNatClampNeg 0)) 35 (upd (vF 35) (nI nd).toNatClampNeg 0)) vG nd 2 oA pl ((by omega)) (u_at (by omega) (by decide)) (u_at (by omega) rfl) (by first | with_reducible assumption | decide | omega | rfl | assumption) ((show Kd23 2 from by unfold Kd23; decide)) ((by decide)) ((fun h9 => (congrFun ht18 oA).trans (hSm.1.1 h9))) ((fun h9 => (congrFun ht24 oA).trans (hSm.1.2 h9))) H.size) (cwV 1 hts gwsRX12_beginName_4 rfl rfl rfl hd_yX12_placesOf_RX12 (by decide +kernel)) (fz_pre (va_recv hK hP (ci := 12) (q0 := 0) rfl rfl) hP hK hD) rfl rfl hl.1 rfl (lv_room (Nat.le_of_ble_eq_true rfl)) dX12_beginName_78 (by decide +kernel)) hS (fun q _ h => hFc q h) hFc (fun r78_1 u t9_ H locs ht hvm hw9 hB9 hz1 hk1 hS => ?_)
        have hP : va_P (dC, dI) vwCl (WR a k h0 (fT (fT (fT (fT (fT vi 52 (nI (nd + 1))) 17 (nI a272_1)) 19 (nI f272_1)) 20 sg72_1) 18 wd72_1) vj (fT (fT (fT (fT (fT (fT (fT vF 29 (upd (vF 29) (nI nd).toNatClampNeg 2)) 30 (upd (vF 30) (nI nd).toNatClampNeg (nI oA))) 31 (upd (vF 31) (nI nd).toNatClampNeg (-1))) 32 (upd (vF 32) (nI nd).toNatClampNeg (-1))) 33 (upd (vF 33) (nI nd).toNatClampNeg (nI fn))) 34 (upd (vF 34) (nI nd).toNatClampNeg 0)) 35 (upd (vF 35) (nI nd).toNatClampNeg 0)) vG) H := fz_P ht hB9.1
        have hD := fz_sd hP (hB9.2.weaken (fun _ q _ h => hFc q.1 h)) rfl
        obtain rfl := hw9
        refine lv_if_ne (tgt := 91) hx hb dX12_beginName_81 (by decide) (fun c_81 => ?_) (fun c_81 => ?_)
        · have t_81 : ((pl : Nat) : Int) ≠ 0 := toI_ne c_81 (nI_toInt (by omega)) (by decide)
          refine lv_aload_n hx hb dX12_beginName_91 rfl (lv_at hl 3 rfl) ?_
          refine va_get (D := (dC, dI)) (ci := 12) (v := .ref (a 41)) (C := RX12) (T := TX12) (N := 163) (fs := fM (vS a (fT (fT (fT (fT (fT vi 52 (nI (nd + 1))) 17 (nI a272_1)) 19 (nI f272_1)) 20 sg72_1) 18 wd72_1) vj)) hx hb hts iwsRX12_beginName_in12 hown hK hP 0 rfl rfl 66 (by decide) (hts _ hm_r_X12_beginName_2) (fun _ h9 => h9) rfl dX12_beginName_92 ?_
          refine lv_iload_n hx hb dX12_beginName_95 rfl (lv_at hl 4 rfl) ?_
          refine lv_iload hx hb dX12_beginName_96 (lv_at hl 0 rfl) ?_
          refine va_iast (cA := k 41) (n := 120) (f := (vF 41)) hx hb hK hP hD hS 42 41 (WR_get 41 (by decide)) (TR_get 41 (by decide)) (vp_in_nI (show dN < 120 by omega) (by omega)) dX12_beginName_98 (fun H locs hP hD hS => ?_)
          have hP : va_P (dC, dI) vwCl (WR a k h0 (fT (fT (fT (fT (fT vi 52 (nI (nd + 1))) 17 (nI a272_1)) 19 (nI f272_1)) 20 sg72_1) 18 wd72_1) vj (fT (fT (fT (fT (fT (fT (fT (fT vF 29 (upd (vF 29) (nI nd).toNatClampNeg 2)) 30 (upd (vF 30) (nI nd).toNatClampNeg (nI oA))) 31 (upd (vF 31) (nI nd).toNatClampNeg (-1))) 32 (upd (vF 32) (nI nd).toNatClampNeg (-1))) 33 (upd (vF 33) (nI nd).toNatClampNeg (nI fn))) 34 (upd (vF 34) (nI nd).toNatClampNeg 0)) 35 (upd (vF 35) (nI nd).toNatClampNeg 0)) 41 (upd (vF 41) ((nI dN)).toNatClampNeg (nI nd))) vG) H := fz_w (WR_F 41 (by decide) _ rfl) hP
          have hD : va_D A (WR a k h0 (fT (fT (fT (fT (fT vi 52 (nI (nd + 1))) 17 (nI a272_1)) 19 (nI f272_1)) 20 sg72_1) 18 wd72_1) vj (fT (fT (fT (fT (fT (fT (fT (fT vF 29 (upd (vF 29) (nI nd).toNatClampNeg 2)) 30 (upd (vF 30) (nI nd).toNatClampNeg (nI oA))) 31 (upd (vF 31) (nI nd).toNatClampNeg (-1))) 32 (upd (vF 32) (nI nd).toNatClampNeg (-1))) 33 (upd (vF 33) (nI nd).toNatClampNeg (nI fn))) 34 (upd (vF 34) (nI nd).toNatClampNeg 0)) 35 (upd (vF 35) (nI nd).toNatClampNeg 0)) 41 (upd (vF 41) ((nI dN)).toNatClampNeg (nI nd))) vG) := fz_wD (WR_F 41 (by decide) _ rfl) hD
          refine lv_aload_n hx hb dX12_beginName_99 rfl (lv_at hl 3 rfl) ?_
          refine lv_bipush (v := 91) hx hb dX12_beginName_100 (by decide) ?_
          have hFc := allFree hD hS hA
          refine va_calli (va_runV (As := [.int 91]) (rest := []) ⟨hx, hb, hml, hown, hts⟩ (r_X12_needSign l dC dI a k h0 (fT (fT (fT (fT (fT vi 52 (nI (nd + 1))) 17 (nI a272_1)) 19 (nI f272_1)) 20 sg72_1) 18 wd72_1) vj (fT (fT (fT (fT (fT (fT (fT (fT vF 29 (upd (vF 29) (nI nd).toNatClampNeg 2)) 30 (upd (vF 30) (nI nd).toNatClampNeg (nI oA))) 31 (upd (vF 31) (nI nd).toNatClampNeg (-1))) 32 (upd (vF 32) (nI nd).toNatClampNeg (-1))) 33 (upd (vF 33) (nI nd).toNatClampNeg (nI fn))) 34 (upd (vF 34) (nI nd).toNatClampNeg 0)) 35 (upd (vF 35) (nI nd).toNatClampNeg 0)) 41 (upd (vF 41) ((nI dN)).toNatClampNeg (nI nd))) vG 91 tp a272_1 f272_1 hTp (by first | with_reducible assumption | decide | omega | rfl | assumption) rfl rfl (f72_1_0) (by first | with_reducible assumption | decide | omega | rfl | assumption) H.size) (cwV 1 hts gwsRX12_beginName_5 rfl rfl rfl hd_yX12_needSign_RX12 (by decide +kernel)) (fz_preE (va_recv hK hP (ci := 12) (q0 := 0) rfl rfl) hP hK hD (fun a U g mk qE => qE.same rfl) (fun U hU9 hW => by rw [hU9]; exact (((hE : StrA A s s.heap).kept hS.2.1).narrow (fun q h => hFc q h)).warm hW)) rfl rfl hl.1 rfl (lv_room (Nat.le_of_ble_eq_true rfl)) dX12_beginName_102 (by decide +kernel)) hS (fun q _ h => hFc q h) hFc (fun r102_1 u t9_ H locs ht hvm hw9 hB9 hz1 hk1 hS => ?_)
          revert u hw9 hB9
          refine fz_p6 ?_
          intro a2102_1 f2102_1 sg102_1 wd102_1 s2102_1 p2102_1 hw9 hB9
          try dsimp only at hw9 hB9
          have e9i : fT (fT (fT (fT (fT (fT (fT vi 52 (nI (nd + 1))) 17 (nI a2102_1)) 19 (nI f2102_1)) 20 sg102_1) 18 wd102_1) 21 s2102_1) 22 p2102_1 = fT (fT (fT (fT (fT (fT (fT (fT (fT (fT (fT vi 52 (nI (nd + 1))) 17 (nI a272_1)) 19 (nI f272_1)) 20 sg72_1) 18 wd72_1) 17 (nI a2102_1)) 19 (nI f2102_1)) 20 sg102_1) 18 wd102_1) 21 s2102_1) 22 p2102_1 := Eq.symm (congrArg (fun g9 => fT (fT g9 21 s2102_1) 22 p2102_1) (Eq.trans (congrArg (fun g9 => fT g9 18 wd102_1) (Eq.trans (congrArg (fun g9 => fT g9 20 sg102_1) (Eq.trans (congrArg (fun g9 => fT g9 19 (nI f2102_1)) (up_3 rfl)) (up_2 rfl))) (up_1 rfl))) (up_0 rfl)))
          have hP := wr_Pi e9i (fz_P ht hB9.1)
          have hD := wr_Di e9i (hB9.2.weaken (fun _ q _ h => hFc q.1 h))
          clear e9i
          rcases hw9 with ⟨rfl, f102_1_0, f102_1_1, f102_1_2, f102_1_3⟩ | ⟨rfl, f102_1_0, f102_1_1, f102_1_2⟩
          · have f102_1_3 : (vi 21) = 0 := f102_1_3
            refine lv_if_ne (tgt := 109) hx hb dX12_beginName_105 (by decide) (fun _ => ?_) (fun c9 => absurd c9 (by decide))
            refine lv_aload_n hx hb dX12_beginName_109 rfl (lv_at hl 3 rfl) ?_
            refine va_get (D := (dC, dI)) (ci := 12) (v := .ref (a 40)) (C := RX12) (T := TX12) (N := 163) (fs := fM (vS a (fT (fT (fT (fT (fT (fT (fT vi 52 (nI (nd + 1))) 17 (nI a2102_1)) 19 (nI f2102_1)) 20 sg102_1) 18 wd102_1) 21 s2102_1) 22 p2102_1) vj)) hx hb hts iwsRX12_beginName_in12 hown hK hP 0 rfl rfl 65 (by decide) (hts _ hm_r_X12_beginName_3) (fun _ h9 => h9) rfl dX12_beginName_110 ?_
            refine lv_iload_n hx hb dX12_beginName_113 rfl (lv_at hl 4 rfl) ?_
            refine lv_iconst (v := 3) hx hb dX12_beginName_114 (by decide) ?_
            refine va_iast (cA := k 40) (n := 120) (f := (vF 40)) hx hb hK hP hD hS 41 40 (WR_get 40 (by decide)) (TR_get 40 (by decide)) (vp_in_nI (show dN < 120 by omega) (by omega)) dX12_beginName_115 (fun H locs hP hD hS => ?_)
            have hP : va_P (dC, dI) vwCl (WR a k h0 (fT (fT (fT (fT (fT (fT (fT vi 52 (nI (nd + 1))) 17 (nI a2102_1)) 19 (nI f2102_1)) 20 sg102_1) 18 wd102_1) 21 s2102_1) 22 p2102_1) vj (fT (fT (fT (fT (fT (fT (fT (fT (fT vF 29 (upd (vF 29) (nI nd).toNatClampNeg 2)) 30 (upd (vF 30) (nI nd).toNatClampNeg (nI oA))) 31 (upd (vF 31) (nI nd).toNatClampNeg (-1))) 32 (upd (vF 32) (nI nd).toNatClampNeg (-1))) 33 (upd (vF 33) (nI nd).toNatClampNeg (nI fn))) 34 (upd (vF 34) (nI nd).toNatClampNeg 0)) 35 (upd (vF 35) (nI nd).toNatClampNeg 0)) 41 (upd (vF 41) ((nI dN)).toNatClampNeg (nI nd))) 40 (upd (vF 40) ((nI dN)).toNatClampNeg 3)) vG) H := fz_w (WR_F 40 (by decide) _ rfl) hP
            have hD : va_D A (WR a k h0 (fT (fT (fT (fT (fT (fT (fT vi 52 (nI (nd + 1))) 17 (nI a2102_1)) 19 (nI f2102_1)) 20 sg102_1) 18 wd102_1) 21 s2102_1) 22 p2102_1) vj (fT (fT (fT (fT (fT (fT (fT (fT (fT vF 29 (upd (vF 29) (nI nd).toNatClampNeg 2)) 30 (upd (vF 30) (nI nd).toNatClampNeg (nI oA))) 31 (upd (vF 31) (nI nd).toNatClampNeg (-1))) 32 (upd (vF 32) (nI nd).toNatClampNeg (-1))) 33 (upd (vF 33) (nI nd).toNatClampNeg (nI fn))) 34 (upd (vF 34) (nI nd).toNatClampNeg 0)) 35 (upd (vF 35) (nI nd).toNatClampNeg 0)) 41 (upd (vF 41) ((nI dN)).toNatClampNeg (nI nd))) 40 (upd (vF 40) ((nI dN)).toNatClampNeg 3)) vG) := fz_wD (WR_F 40 (by decide) _ rfl) hD
            refine lv_aload_n hx hb dX12_beginName_116 rfl (lv_at hl 3 rfl) ?_
            refine lv_iconst (v := 0) hx hb dX12_beginName_117 (by decide) ?_
            have hFc := allFree hD hS hA
            refine va_callv (va_runV (As := [.int 0]) (rest := []) ⟨hx, hb, hml, hown, hts⟩ (r_X12_begin1 l dC dI a k h0 (fT (fT (fT (fT (fT (fT (fT vi 52 (nI (nd + 1))) 17 (nI a2102_1)) 19 (nI f2102_1)) 20 sg102_1) 18 wd102_1) 21 s2102_1) 22 p2102_1) vj (fT (fT (fT (fT (fT (fT (fT (fT (fT vF 29 (upd (vF 29) (nI nd).toNatClampNeg 2)) 30 (upd (vF 30) (nI nd).toNatClampNeg (nI oA))) 31 (upd (vF 31) (nI nd).toNatClampNeg (-1))) 32 (upd (vF 32) (nI nd).toNatClampNeg (-1))) 33 (upd (vF 33) (nI nd).toNatClampNeg (nI fn))) 34 (upd (vF 34) (nI nd).toNatClampNeg 0)) 35 (upd (vF 35) (nI nd).toNatClampNeg 0)) 41 (upd (vF 41) ((nI dN)).toNatClampNeg (nI nd))) 40 (upd (vF 40) ((nI dN)).toNatClampNeg 3)) vG 0 tp a2102_1 f2102_1 nm se pa va bd (dN + 1) wi hTp (by first | with_reducible assumption | decide | omega | rfl | assumption) rfl rfl (f102_1_1) ((show 0 ≤ (s2102_1).toInt by rw [f102_1_0]; decide)) hnm (by first | with_reducible assumption | decide | omega | rfl | assumption) (by first | with_reducible assumption | decide | omega | rfl | assumption) (by first | with_reducible assumption | decide | omega | rfl | assumption) hbd (by first | with_reducible assumption | decide | omega | rfl | assumption) (by first | with_reducible assumption | decide | omega | rfl | assumption) (hdp) (by first | with_reducible assumption | decide | omega | rfl | assumption) hwi (by first | with_reducible assumption | decide | omega | rfl | assumption) H.size) (cwV 1 hts gwsRX12_beginName_6 rfl rfl rfl hd_yX12_begin1_RX12 (by decide +kernel)) (fz_pre (va_recv hK hP (ci := 12) (q0 := 0) rfl rfl) hP hK hD) rfl rfl hl.1 rfl (lv_room (Nat.le_of_ble_eq_true rfl)) dX12_beginName_118 (by decide +kernel)) hS (fun q _ h => hFc q h) hFc (fun u t9_ H locs ht hvm hw9 hB9 hz1 hk1 hS => ?_)
            revert u hw9 hB9
            refine fz_p10 ?_
            intro s2118_1 p2118_1 g39118_1 g40118_1 g41118_1 g42118_1 g47118_1 g48118_1 d2118_1 w2118_1 hw9 hB9
            try dsimp only at hw9 hB9
            have e9i : fT (fT (fT (fT (fT (fT (fT (fT (fT vi 52 (nI (nd + 1))) 17 (nI a2102_1)) 19 (nI f2102_1)) 20 sg102_1) 18 wd102_1) 21 s2118_1) 22 p2118_1) 75 (nI w2118_1)) 74 (nI d2118_1) = fT (fT (fT (fT (fT (fT (fT (fT (fT (fT (fT vi 52 (nI (nd + 1))) 17 (nI a2102_1)) 19 (nI f2102_1)) 20 sg102_1) 18 wd102_1) 21 s2102_1) 22 p2102_1) 75 (nI w2118_1)) 74 (nI d2118_1)) 21 s2118_1) 22 p2118_1 := Eq.symm (Eq.trans (congrArg (fun g9 => fT g9 22 p2118_1) (up_3 rfl)) (up_2 rfl))
            have e9F : fT (fT (fT (fT (fT (fT (fT (fT (fT (fT (fT (fT (fT vF 29 (upd (vF 29) (nI nd).toNatClampNeg 2)) 30 (upd (vF 30) (nI nd).toNatClampNeg (nI oA))) 31 (upd (vF 31) (nI nd).toNatClampNeg (-1))) 32 (upd (vF 32) (nI nd).toNatClampNeg (-1))) 33 (upd (vF 33) (nI nd).toNatClampNeg (nI fn))) 34 (upd (vF 34) (nI nd).toNatClampNeg 0)) 35 (upd (vF 35) (nI nd).toNatClampNeg 0)) 41 g41118_1) 40 g40118_1) 39 g39118_1) 42 g42118_1) 47 g47118_1) 48 g48118_1 = fT (fT (fT (fT (fT (fT (fT (fT (fT (fT (fT (fT (fT (fT (fT vF 29 (upd (vF 29) (nI nd).toNatClampNeg 2)) 30 (upd (vF 30) (nI nd).toNatClampNeg (nI oA))) 31 (upd (vF 31) (nI nd).toNatClampNeg (-1))) 32 (upd (vF 32) (nI nd).toNatClampNeg (-1))) 33 (upd (vF 33) (nI nd).toNatClampNeg (nI fn))) 34 (upd (vF 34) (nI nd).toNatClampNeg 0)) 35 (upd (vF 35) (nI nd).toNatClampNeg 0)) 41 (upd (vF 41) ((nI dN)).toNatClampNeg (nI nd))) 40 (upd (vF 40) ((nI dN)).toNatClampNeg 3)) 39 g39118_1) 40 g40118_1) 41 g41118_1) 42 g42118_1) 47 g47118_1) 48 g48118_1 := ((congrArg (fun g9 => fT (fT (fT (fT g9 41 g41118_1) 42 g42118_1) 47 g47118_1) 48 g48118_1) ((fT_sw _ _ _ (Nat.ne_of_beq_eq_false rfl)).trans (congrArg (fun g9 => fT g9 39 g39118_1) (fT_sm _ _ _ _)))).trans (congrArg (fun g9 => fT (fT (fT g9 42 g42118_1) 47 g47118_1) 48 g48118_1) ((fT_sw _ _ _ (Nat.ne_of_beq_eq_false rfl)).trans (congrArg (fun g9 => fT g9 39 g39118_1) ((fT_sw _ _ _ (Nat.ne_of_beq_eq_false rfl)).trans (congrArg (fun g9 => fT g9 40 g40118_1) (fT_sm _ _ _ _))))))).symm
            have hP := wr_PF e9F (wr_Pi e9i (fz_P ht hB9.1))
            have hD := wr_DF e9F (wr_Di e9i (hB9.2.weaken (fun _ q _ h => hFc q.1 h)))
            clear e9i e9F
            revert hw9
            refine fz_a4 ?_
            intro f118_1_0 f118_1_1 f118_1_2 f118_1_3
            have f118_1_1 : 0 < (s2118_1).toInt ∨ (s2118_1 = s2102_1 ∧ BgO 0 wd102_1 sg102_1 g39118_1 g40118_1 g41118_1 g42118_1 g48118_1 (dN + 1) wi d2118_1 w2118_1) := f118_1_1
            have f118_1_2 : FrmO (dN + 1) (vF 39) (upd (vF 40) ((nI dN)).toNatClampNeg 3) (upd (vF 41) ((nI dN)).toNatClampNeg (nI nd)) (vF 42) (vF 48) g39118_1 g40118_1 g41118_1 g42118_1 g48118_1 := f118_1_2
            refine W.widen (k := 0) (n := 0) (by decide +kernel) (by decide +kernel) ?_
            have e9 : fT (fT (fT (fT (fT (fT (fT (fT (fT (fT (fT vi 52 (nI (nd + 1))) 17 (nI a2102_1)) 19 (nI f2102_1)) 20 sg102_1) 18 wd102_1) 21 s2118_1) 22 p2118_1) 75 (nI w2118_1)) 74 (nI d2118_1)) 76 (vi 76)) 77 (vi 77) = fT (fT (fT (fT (fT (fT (fT (fT (fT vi 52 (nI (nd + 1))) 17 (nI a2102_1)) 19 (nI f2102_1)) 20 sg102_1) 18 wd102_1) 21 s2118_1) 22 p2118_1) 75 (nI w2118_1)) 74 (nI d2118_1) := Eq.trans (mv_1 rfl) (Eq.trans (id_10 rfl) (id_9 rfl))
            have hP := wr_Pi e9 hP
            have hD := wr_Di e9 hD
            clear e9
            exact W.vret hx hb hr (fun t9_ ht hW => ⟨⟨(a2102_1, f2102_1, sg102_1, wd102_1, s2118_1, p2118_1, (upd (vF 29) (nI nd).toNatClampNeg 2), (upd (vF 30) (nI nd).toNatClampNeg (nI oA)), (upd (vF 31) (nI nd).toNatClampNeg (-1)), (upd (vF 32) (nI nd).toNatClampNeg (-1)), (upd (vF 33) (nI nd).toNatClampNeg (nI fn)), (upd (vF 34) (nI nd).toNatClampNeg 0), (upd (vF 35) (nI nd).toNatClampNeg 0), g39118_1, g40118_1, g41118_1, g42118_1, g47118_1, g48118_1, d2118_1, w2118_1, (nd + 1), (vi 76), (vi 77), gG), rfl, by (try dsimp only); exact ⟨f102_1_1, by omega, f118_1_0, by rcases f118_1_1 with h9 | h9; (exact Or.inl h9); (exact Or.inr ⟨RdS.push (gm := (nd + 1)) hKN.1 hBel hKN.2.1 (Nat.le_refl _) (fun q hq => ⟨rfl, by rw [upd_at (by omega), if_neg (by omega)], by rw [upd_at (by omega), if_neg (by omega)], rfl, rfl⟩) h39 (by decide) h48 (by omega) ⟨⟨by omega, fun _ => by omega, fun h8 => absurd h8 (by decide), by omega⟩, Or.inr (Or.inr (Or.inr (Or.inl ⟨rfl, rfl, by rw [upd_at (by omega), if_pos rfl], rfl, rfl, rfl, nd, pl, by rw [upd_at (by omega), if_pos rfl], by omega, by omega, hK0.nv, ⟨2, oA, o1, o2, aT, by decide, u_at (by omega) (by decide), ⟨u_at (by omega) rfl, hoA⟩, hSm, by omega⟩, u_at (by omega) rfl, u_at (by omega) rfl⟩)))⟩ f118_1_2 (by rw [← hwc]; exact h9.2) (show (0 : Int32) = nI 0 by decide) (by decide) (by omega) (by omega) (by omega) (by omega) (by omega) (by show 10 * (4000 - _) + dN + 1 + 3 ≤ mM - 1; omega), hKN.2.1.less (Nat.zero_le _)⟩), by omega⟩, by rw [ht]; exact hP, hD⟩, hS.F ht⟩) hS.2.2 dX12_beginName_121
          · refine lv_if_ne (tgt := 109) hx hb dX12_beginName_105 (by decide) (fun c9 => absurd c9 (by decide)) (fun _ => ?_)
            refine W.widen (k := 0) (n := 0) (by decide +kernel) (by decide +kernel) ?_
            have e9 : fT (fT (fT (fT (fT (fT (fT (fT (fT (fT (fT vi 52 (nI (nd + 1))) 17 (nI a2102_1)) 19 (nI f2102_1)) 20 sg102_1) 18 wd102_1) 21 s2102_1) 22 p2102_1) 75 (nI wi)) 74 (nI (dN + 1))) 76 (vi 76)) 77 (vi 77) = fT (fT (fT (fT (fT (fT (fT vi 52 (nI (nd + 1))) 17 (nI a2102_1)) 19 (nI f2102_1)) 20 sg102_1) 18 wd102_1) 21 s2102_1) 22 p2102_1 := Eq.trans (mv_3 rfl) (Eq.trans (congrArg (fT _ 75) (show nI wi = vi 75 from (by first | with_reducible rfl | with_reducible assumption | (symm; with_reducible assumption) | rfl | assumption | (symm; assumption) | (subst_vars; rfl)))) (Eq.trans (id_10 rfl) (Eq.trans (mv_2 rfl) (Eq.trans (congrArg (fT _ 74) (show nI (dN + 1) = vi 74 from (by first | with_reducible rfl | with_reducible assumption | (symm; with_reducible assumption) | rfl | assumption | (symm; assumption) | (subst_vars; rfl)))) (Eq.trans (id_9 rfl) (Eq.trans (mv_1 rfl) (Eq.trans (id_8 rfl) (id_7 rfl))))))))
            have hP := wr_Pi e9 hP
            have hD := wr_Di e9 hD
            clear e9
            have e9 : fT (fT (fT (fT (fT (fT (fT (fT (fT (fT (fT (fT (fT vF 29 (upd (vF 29) (nI nd).toNatClampNeg 2)) 30 (upd (vF 30) (nI nd).toNatClampNeg (nI oA))) 31 (upd (vF 31) (nI nd).toNatClampNeg (-1))) 32 (upd (vF 32) (nI nd).toNatClampNeg (-1))) 33 (upd (vF 33) (nI nd).toNatClampNeg (nI fn))) 34 (upd (vF 34) (nI nd).toNatClampNeg 0)) 35 (upd (vF 35) (nI nd).toNatClampNeg 0)) 41 (upd (vF 41) ((nI dN)).toNatClampNeg (nI nd))) 40 (vF 40)) 39 (vF 39)) 42 (vF 42)) 47 (vF 47)) 48 (vF 48) = fT (fT (fT (fT (fT (fT (fT (fT vF 29 (upd (vF 29) (nI nd).toNatClampNeg 2)) 30 (upd (vF 30) (nI nd).toNatClampNeg (nI oA))) 31 (upd (vF 31) (nI nd).toNatClampNeg (-1))) 32 (upd (vF 32) (nI nd).toNatClampNeg (-1))) 33 (upd (vF 33) (nI nd).toNatClampNeg (nI fn))) 34 (upd (vF 34) (nI nd).toNatClampNeg 0)) 35 (upd (vF 35) (nI nd).toNatClampNeg 0)) 41 (upd (vF 41) ((nI dN)).toNatClampNeg (nI nd)) := Eq.trans (mv_4 rfl) (Eq.trans (id_12 rfl) (Eq.trans (mv_3 rfl) (Eq.trans (id_11 rfl) (Eq.trans (mv_2 rfl) (Eq.trans (id_10 rfl) (Eq.trans (mv_1 rfl) (Eq.trans (id_9 rfl) (id_8 rfl))))))))
            have hP := wr_PF e9 hP
            have hD := wr_DF e9 hD
            clear e9
            exact W.vret hx hb hr (fun t9_ ht hW => ⟨⟨(a2102_1, f2102_1, sg102_1, wd102_1, s2102_1, p2102_1, (upd (vF 29) (nI nd).toNatClampNeg 2), (upd (vF 30) (nI nd).toNatClampNeg (nI oA)), (upd (vF 31) (nI nd).toNatClampNeg (-1)), (upd (vF 32) (nI nd).toNatClampNeg (-1)), (upd (vF 33) (nI nd).toNatClampNeg (nI fn)), (upd (vF 34) (nI nd).toNatClampNeg 0), (upd (vF 35) (nI nd).toNatClampNeg 0), (vF 39), (vF 40), (upd (vF 41) ((nI dN)).toNatClampNeg (nI nd)), (vF 42), (vF 47), (vF 48), (dN + 1), wi, (nd + 1), (vi 76), (vi 77), gG), rfl, by (try dsimp only); exact ⟨f102_1_1, by omega, by omega, Or.inl f102_1_0, by omega⟩, by rw [ht]; exact hP, hD⟩, hS.F ht⟩) hS.2.2 dX12_beginName_108
        · have t_81 : ((pl : Nat) : Int) = 0 := toI_nne c_81 (nI_toInt (by omega)) (by decide)
          have hKM := hK0.mkName (p := 51 - 2 * (cw + xe)) (kv := 2) (av := nI oA) (bv := -1) (cv := -1) (by omega) (k := 2) (by decide) (by decide) ⟨rfl, hoA⟩ hSm (by omega) (by omega) rfl rfl
          refine lv_aload_n hx hb dX12_beginName_84 rfl (lv_at hl 3 rfl) ?_
          refine lv_iload hx hb dX12_beginName_85 (lv_at hl 0 rfl) ?_
          have hFc := allFree hD hS hA
          refine va_callv (va_runV (As := [.int (nI nd)]) (rest := []) ⟨hx, hb, hml, hown, hts⟩ (r_X12_end1w l dC dI a k h0 (fT (fT (fT (fT (fT vi 52 (nI (nd + 1))) 17 (nI a272_1)) 19 (nI f272_1)) 20 sg72_1) 18 wd72_1) vj (fT (fT (fT (fT (fT (fT (fT vF 29 (upd (vF 29) (nI nd).toNatClampNeg 2)) 30 (upd (vF 30) (nI nd).toNatClampNeg (nI oA))) 31 (upd (vF 31) (nI nd).toNatClampNeg (-1))) 32 (upd (vF 32) (nI nd).toNatClampNeg (-1))) 33 (upd (vF 33) (nI nd).toNatClampNeg (nI fn))) 34 (upd (vF 34) (nI nd).toNatClampNeg 0)) 35 (upd (vF 35) (nI nd).toNatClampNeg 0)) vG (nI nd) dN wi xe (hdp) (by first | with_reducible assumption | decide | omega | rfl | assumption) hwi (by first | with_reducible assumption | decide | omega | rfl | assumption) (h48) (by first | with_reducible assumption | decide | omega | rfl | assumption) H.size) (cwV 1 hts gwsRX12_beginName_7 rfl rfl rfl hd_yX12_end1_RX12 (by decide +kernel)) (fz_pre (va_recv hK hP (ci := 12) (q0 := 0) rfl rfl) hP hK hD) rfl rfl hl.1 rfl (lv_room (Nat.le_of_ble_eq_true rfl)) dX12_beginName_87 (by decide +kernel)) hS (fun q _ h => hFc q h) hFc (fun u t9_ H locs ht hvm hw9 hB9 hz1 hk1 hS => ?_)
          have hP : va_P (dC, dI) vwCl (WR a k h0 (fT (fT (fT (fT (fT (fT (fT (fT (fT vi 52 (nI (nd + 1))) 17 (nI a272_1)) 19 (nI f272_1)) 20 sg72_1) 18 wd72_1) 74 (nI dN)) 75 (nI (wi - xe))) 76 (nI nd)) 77 ((vF 47) dN)) vj (fT (fT (fT (fT (fT (fT (fT vF 29 (upd (vF 29) (nI nd).toNatClampNeg 2)) 30 (upd (vF 30) (nI nd).toNatClampNeg (nI oA))) 31 (upd (vF 31) (nI nd).toNatClampNeg (-1))) 32 (upd (vF 32) (nI nd).toNatClampNeg (-1))) 33 (upd (vF 33) (nI nd).toNatClampNeg (nI fn))) 34 (upd (vF 34) (nI nd).toNatClampNeg 0)) 35 (upd (vF 35) (nI nd).toNatClampNeg 0)) vG) H := fz_P ht hB9.1
          have hD := fz_sd hP (hB9.2.weaken (fun _ q _ h => hFc q.1 h)) rfl
          refine W.widen (k := 0) (n := 0) (by decide +kernel) (by decide +kernel) ?_
          have e9 : fT (fT (fT (fT (fT (fT (fT (fT (fT (fT (fT vi 52 (nI (nd + 1))) 17 (nI a272_1)) 19 (nI f272_1)) 20 sg72_1) 18 wd72_1) 21 (vi 21)) 22 (vi 22)) 75 (nI (wi - xe))) 74 (nI dN)) 76 (nI nd)) 77 ((vF 47) dN) = fT (fT (fT (fT (fT (fT (fT (fT (fT vi 52 (nI (nd + 1))) 17 (nI a272_1)) 19 (nI f272_1)) 20 sg72_1) 18 wd72_1) 74 (nI dN)) 75 (nI (wi - xe))) 76 (nI nd)) 77 ((vF 47) dN) := Eq.trans (mv_5 rfl) (Eq.trans (id_10 rfl) (Eq.trans (mv_4 rfl) (Eq.trans (id_9 rfl) (Eq.trans (mv_2 rfl) (Eq.trans (mv_3 rfl) (Eq.trans (mv_3 rfl) (mv_3 rfl)))))))
          have hP := wr_Pi e9 hP
          have hD := wr_Di e9 hD
          clear e9
          have e9 : fT (fT (fT (fT (fT (fT (fT (fT (fT (fT (fT (fT (fT vF 29 (upd (vF 29) (nI nd).toNatClampNeg 2)) 30 (upd (vF 30) (nI nd).toNatClampNeg (nI oA))) 31 (upd (vF 31) (nI nd).toNatClampNeg (-1))) 32 (upd (vF 32) (nI nd).toNatClampNeg (-1))) 33 (upd (vF 33) (nI nd).toNatClampNeg (nI fn))) 34 (upd (vF 34) (nI nd).toNatClampNeg 0)) 35 (upd (vF 35) (nI nd).toNatClampNeg 0)) 41 (vF 41)) 40 (vF 40)) 39 (vF 39)) 42 (vF 42)) 47 (vF 47)) 48 (vF 48) = fT (fT (fT (fT (fT (fT (fT vF 29 (upd (vF 29) (nI nd).toNatClampNeg 2)) 30 (upd (vF 30) (nI nd).toNatClampNeg (nI oA))) 31 (upd (vF 31) (nI nd).toNatClampNeg (-1))) 32 (upd (vF 32) (nI nd).toNatClampNeg (-1))) 33 (upd (vF 33) (nI nd).toNatClampNeg (nI fn))) 34 (upd (vF 34) (nI nd).toNatClampNeg 0)) 35 (upd (vF 35) (nI nd).toNatClampNeg 0) := Eq.trans (mv_5 rfl) (Eq.trans (id_12 rfl) (Eq.trans (mv_4 rfl) (Eq.trans (id_11 rfl) (Eq.trans (mv_3 rfl) (Eq.trans (id_10 rfl) (Eq.trans (mv_2 rfl) (Eq.trans (id_9 rfl) (Eq.trans (mv_1 rfl) (Eq.trans (id_8 rfl) (id_7 rfl))))))))))
          have hP := wr_PF e9 hP
          have hD := wr_DF e9 hD
          clear e9
          exact W.vret hx hb hr (fun t9_ ht hW => ⟨⟨(a272_1, f272_1, sg72_1, wd72_1, (vi 21), (vi 22), (upd (vF 29) (nI nd).toNatClampNeg 2), (upd (vF 30) (nI nd).toNatClampNeg (nI oA)), (upd (vF 31) (nI nd).toNatClampNeg (-1)), (upd (vF 32) (nI nd).toNatClampNeg (-1)), (upd (vF 33) (nI nd).toNatClampNeg (nI fn)), (upd (vF 34) (nI nd).toNatClampNeg 0), (upd (vF 35) (nI nd).toNatClampNeg 0), (vF 39), (vF 40), (vF 41), (vF 42), (vF 47), (vF 48), dN, (wi - xe), (nd + 1), (nI nd), ((vF 47) dN), (gG.add nd 0 (51 - 2 * (cw + xe)) 0)), rfl, by (try dsimp only); exact ⟨f72_1_0, by omega, hst0, Or.inr ⟨by (have e9 : wi - xe = cw := by omega); rw [e9]; exact RdS.pop (ex := xe) hKM.1.1 hBel hKM.1.2.1 (Nat.le_refl _) (fun q hq => ⟨rfl, rfl, rfl, rfl, rfl⟩) (by omega) (fun h8 => by omega) (by decide) (Or.inl ⟨by decide, hKM.2⟩) (by omega) (by show gG.vN + 1 + un ≤ nd + 1; omega) (by omega) (by omega) hKM.1.2.2.2 (by omega), hKM.1.2.1.less (Nat.zero_le _)⟩, by omega⟩, by rw [ht]; exact hP, hD⟩, hS.F ht⟩) hS.2.2 dX12_beginName_90
  · have f1_1 : SmW (vF 9) (vF 14) (vF 15) fn an kx1 := f1_1
    refine lv_istore_n hx hb dX12_beginName_4 rfl hl (by decide) rfl (fun ls (hl : lv_has ls _ ([(2, .int (nI kx1)), (0, .ref h0), (1, .int (nI dN))])) => ?_)
    refine lv_iload_n hx hb dX12_beginName_5 rfl (lv_at hl 0 rfl) ?_
    refine lv_iconst (v := (-1)) hx hb dX12_beginName_6 (by decide) ?_
    refine lv_icmp_eq (tgt := 33) hx hb dX12_beginName_7 (by decide) (fun c9 => False.elim (nI_nm1 (by omega) c9)) (fun c_7 => ?_)
    have t_7 : ¬ ((kx1 : Nat) : Int) = -1 := toI_neq c_7 (nI_toInt (by omega)) (by decide)
    have hKK := hK0.mkBnd (p := 51 - 2 * (cw + xe)) (kv := 1) (av := nI kx1) (bv := 0) (cv := 0) (by omega) (by decide) (by omega) (show kx1 < 60 by omega) rfl
    have hKN := hKK.1
    have hLN := hKK.2
    refine lv_aload_n hx hb dX12_beginName_10 rfl (lv_at hl 1 rfl) ?_
    refine lv_iconst (v := 1) hx hb dX12_beginName_11 (by decide) ?_
    refine lv_iload_n hx hb dX12_beginName_12 rfl (lv_at hl 0 rfl) ?_
    refine lv_iconst (v := 0) hx hb dX12_beginName_13 (by decide) ?_
    refine lv_iconst (v := 0) hx hb dX12_beginName_14 (by decide) ?_
    refine lv_aload_n hx hb dX12_beginName_15 rfl (lv_at hl 1 rfl) ?_
    refine va_get (D := (dC, dI)) (ci := 12) (v := .int (vi 19)) (C := RX12) (T := TX12) (N := 163) (fs := fM (vS a vi vj)) hx hb hts iwsRX12_beginName_in12 hown hK hP 0 rfl rfl 19 (by decide) (hts _ hm_r_X12_beginName_1) (fun _ h9 => h9) rfl dX12_beginName_16 ?_
    refine lv_topi (fun y8 hy8 => ?_)
    obtain rfl : (nI fn) = y8 := (hy8.trans (hfr)).symm
    have hFc := allFree hD hS hA
    refine va_calli (va_runV (As := [.int 1, .int (nI kx1), .int 0, .int 0, .int (nI fn)]) (rest := []) ⟨hx, hb, hml, hown, hts⟩ (r_X12_node l dC dI a k h0 vi vj vF vG nd 1 (nI kx1) 0 0 (nI fn) hnd (by first | with_reducible assumption | decide | omega | rfl | assumption) H.size) (cwV 5 hts gwsRX12_beginName_2 rfl rfl rfl hd_yX12_node_RX12 (by decide +kernel)) (fz_pre (va_recv hK hP (ci := 12) (q0 := 0) rfl rfl) hP hK hD) rfl rfl hl.1 rfl (lv_room (Nat.le_of_ble_eq_true rfl)) dX12_beginName_19 (by decide +kernel)) hS (fun q _ h => hFc q h) hFc (fun r19 u t9_ H locs ht hvm hw9 hB9 hz1 hk1 hS => ?_)
    have hP : va_P (dC, dI) vwCl (WR a k h0 (fT vi 52 (nI (nd + 1))) vj (fT (fT (fT (fT (fT (fT (fT vF 29 (upd (vF 29) (nI nd).toNatClampNeg 1)) 30 (upd (vF 30) (nI nd).toNatClampNeg (nI kx1))) 31 (upd (vF 31) (nI nd).toNatClampNeg 0)) 32 (upd (vF 32) (nI nd).toNatClampNeg 0)) 33 (upd (vF 33) (nI nd).toNatClampNeg (nI fn))) 34 (upd (vF 34) (nI nd).toNatClampNeg 0)) 35 (upd (vF 35) (nI nd).toNatClampNeg 0)) vG) H := fz_P ht hB9.1
    have hD := fz_sd hP (hB9.2.weaken (fun _ q _ h => hFc q.1 h)) rfl
    obtain rfl := hw9
    refine lv_istore_n hx hb dX12_beginName_22 rfl hl (by decide) rfl (fun ls (hl : lv_has ls _ ([(3, .int (nI nd)), (2, .int (nI kx1)), (0, .ref h0), (1, .int (nI dN))])) => ?_)
    refine lv_aload_n hx hb dX12_beginName_23 rfl (lv_at hl 2 rfl) ?_
    have hFc := allFree hD hS hA
    refine va_callv (va_runV (As := []) (rest := []) ⟨hx, hb, hml, hown, hts⟩ (r_X12_next l dC dI a k h0 (fT vi 52 (nI (nd + 1))) vj (fT (fT (fT (fT (fT (fT (fT vF 29 (upd (vF 29) (nI nd).toNatClampNeg 1)) 30 (upd (vF 30) (nI nd).toNatClampNeg (nI kx1))) 31 (upd (vF 31) (nI nd).toNatClampNeg 0)) 32 (upd (vF 32) (nI nd).toNatClampNeg 0)) 33 (upd (vF 33) (nI nd).toNatClampNeg (nI fn))) 34 (upd (vF 34) (nI nd).toNatClampNeg 0)) 35 (upd (vF 35) (nI nd).toNatClampNeg 0)) vG tp an hTp (by first | with_reducible assumption | decide | omega | rfl | assumption) ha0 (by first | with_reducible assumption | decide | omega | rfl | assumption) H.size) (cwV 0 hts gwsRX12_beginName_3 rfl rfl rfl hd_yX12_next_RX12 (by decide +kernel)) (fz_preE (va_recv hK hP (ci := 12) (q0 := 0) rfl rfl) hP hK hD (fun a U g mk qE => qE.same rfl) (fun U hU9 hW => by rw [hU9]; exact (((hE : StrA A s s.heap).kept hS.2.1).narrow (fun q h => hFc q h)).warm hW)) rfl rfl hl.1 rfl (lv_room (Nat.le_of_ble_eq_true rfl)) dX12_beginName_24 (by decide +kernel)) hS (fun q _ h => hFc q h) hFc (fun u t9_ H locs ht hvm hw9 hB9 hz1 hk1 hS => ?_)
    revert u hw9 hB9
    refine fz_p4 ?_
    intro a224 f224 sg24 wd24 hw9 hB9
    try dsimp only at hw9 hB9
    have hP : va_P (dC, dI) vwCl (WR a k h0 (fT (fT (fT (fT (fT vi 52 (nI (nd + 1))) 17 (nI a224)) 19 (nI f224)) 20 sg24) 18 wd24) vj (fT (fT (fT (fT (fT (fT (fT vF 29 (upd (vF 29) (nI nd).toNatClampNeg 1)) 30 (upd (vF 30) (nI nd).toNatClampNeg (nI kx1))) 31 (upd (vF 31) (nI nd).toNatClampNeg 0)) 32 (upd (vF 32) (nI nd).toNatClampNeg 0)) 33 (upd (vF 33) (nI nd).toNatClampNeg (nI fn))) 34 (upd (vF 34) (nI nd).toNatClampNeg 0)) 35 (upd (vF 35) (nI nd).toNatClampNeg 0)) vG) H := fz_P ht hB9.1
    have hD := fz_sd hP (hB9.2.weaken (fun _ q _ h => hFc q.1 h)) rfl
    revert hw9
    refine fz_a2 ?_
    intro f24_0 f24_1
    have hl1 := f24_0.1
    have hl2 := f24_0.2.1
    refine lv_aload_n hx hb dX12_beginName_27 rfl (lv_at hl 2 rfl) ?_
    refine lv_iload_n hx hb dX12_beginName_28 rfl (lv_at hl 0 rfl) ?_
    have hFc := allFree hD hS hA
    refine va_callv (va_runV (As := [.int (nI nd)]) (rest := []) ⟨hx, hb, hml, hown, hts⟩ (r_X12_end1w l dC dI a k h0 (fT (fT (fT (fT (fT vi 52 (nI (nd + 1))) 17 (nI a224)) 19 (nI f224)) 20 sg24) 18 wd24) vj (fT (fT (fT (fT (fT (fT (fT vF 29 (upd (vF 29) (nI nd).toNatClampNeg 1)) 30 (upd (vF 30) (nI nd).toNatClampNeg (nI kx1))) 31 (upd (vF 31) (nI nd).toNatClampNeg 0)) 32 (upd (vF 32) (nI nd).toNatClampNeg 0)) 33 (upd (vF 33) (nI nd).toNatClampNeg (nI fn))) 34 (upd (vF 34) (nI nd).toNatClampNeg 0)) 35 (upd (vF 35) (nI nd).toNatClampNeg 0)) vG (nI nd) dN wi xe (hdp) (by first | with_reducible assumption | decide | omega | rfl | assumption) hwi (by first | with_reducible assumption | decide | omega | rfl | assumption) (h48) (by first | with_reducible assumption | decide | omega | rfl | assumption) H.size) (cwV 1 hts gwsRX12_beginName_7 rfl rfl rfl hd_yX12_end1_RX12 (by decide +kernel)) (fz_pre (va_recv hK hP (ci := 12) (q0 := 0) rfl rfl) hP hK hD) rfl rfl hl.1 rfl (lv_room (Nat.le_of_ble_eq_true rfl)) dX12_beginName_29 (by decide +kernel)) hS (fun q _ h => hFc q h) hFc (fun u t9_ H locs ht hvm hw9 hB9 hz1 hk1 hS => ?_)
    have hP : va_P (dC, dI) vwCl (WR a k h0 (fT (fT (fT (fT (fT (fT (fT (fT (fT vi 52 (nI (nd + 1))) 17 (nI a224)) 19 (nI f224)) 20 sg24) 18 wd24) 74 (nI dN)) 75 (nI (wi - xe))) 76 (nI nd)) 77 ((vF 47) dN)) vj (fT (fT (fT (fT (fT (fT (fT vF 29 (upd (vF 29) (nI nd).toNatClampNeg 1)) 30 (upd (vF 30) (nI nd).toNatClampNeg (nI kx1))) 31 (upd (vF 31) (nI nd).toNatClampNeg 0)) 32 (upd (vF 32) (nI nd).toNatClampNeg 0)) 33 (upd (vF 33) (nI nd).toNatClampNeg (nI fn))) 34 (upd (vF 34) (nI nd).toNatClampNeg 0)) 35 (upd (vF 35) (nI nd).toNatClampNeg 0)) vG) H := fz_P ht hB9.1
    have hD := fz_sd hP (hB9.2.weaken (fun _ q _ h => hFc q.1 h)) rfl
    refine W.widen (k := 0) (n := 0) (by decide +kernel) (by decide +kernel) ?_
    have e9 : fT (fT (fT (fT (fT (fT (fT (fT (fT (fT (fT vi 52 (nI (nd + 1))) 17 (nI a224)) 19 (nI f224)) 20 sg24) 18 wd24) 21 (vi 21)) 22 (vi 22)) 75 (nI (wi - xe))) 74 (nI dN)) 76 (nI nd)) 77 ((vF 47) dN) = fT (fT (fT (fT (fT (fT (fT (fT (fT vi 52 (nI (nd + 1))) 17 (nI a224)) 19 (nI f224)) 20 sg24) 18 wd24) 74 (nI dN)) 75 (nI (wi - xe))) 76 (nI nd)) 77 ((vF 47) dN) := Eq.trans (mv_5 rfl) (Eq.trans (id_10 rfl) (Eq.trans (mv_4 rfl) (Eq.trans (id_9 rfl) (Eq.trans (mv_2 rfl) (Eq.trans (mv_3 rfl) (Eq.trans (mv_3 rfl) (mv_3 rfl)))))))
    have hP := wr_Pi e9 hP
    have hD := wr_Di e9 hD
    clear e9
    have e9 : fT (fT (fT (fT (fT (fT (fT (fT (fT (fT (fT (fT (fT vF 29 (upd (vF 29) (nI nd).toNatClampNeg 1)) 30 (upd (vF 30) (nI nd).toNatClampNeg (nI kx1))) 31 (upd (vF 31) (nI nd).toNatClampNeg 0)) 32 (upd (vF 32) (nI nd).toNatClampNeg 0)) 33 (upd (vF 33) (nI nd).toNatClampNeg (nI fn))) 34 (upd (vF 34) (nI nd).toNatClampNeg 0)) 35 (upd (vF 35) (nI nd).toNatClampNeg 0)) 41 (vF 41)) 40 (vF 40)) 39 (vF 39)) 42 (vF 42)) 47 (vF 47)) 48 (vF 48) = fT (fT (fT (fT (fT (fT (fT vF 29 (upd (vF 29) (nI nd).toNatClampNeg 1)) 30 (upd (vF 30) (nI nd).toNatClampNeg (nI kx1))) 31 (upd (vF 31) (nI nd).toNatClampNeg 0)) 32 (upd (vF 32) (nI nd).toNatClampNeg 0)) 33 (upd (vF 33) (nI nd).toNatClampNeg (nI fn))) 34 (upd (vF 34) (nI nd).toNatClampNeg 0)) 35 (upd (vF 35) (nI nd).toNatClampNeg 0) := Eq.trans (mv_5 rfl) (Eq.trans (id_12 rfl) (Eq.trans (mv_4 rfl) (Eq.trans (id_11 rfl) (Eq.trans (mv_3 rfl) (Eq.trans (id_10 rfl) (Eq.trans (mv_2 rfl) (Eq.trans (id_9 rfl) (Eq.trans (mv_1 rfl) (Eq.trans (id_8 rfl) (id_7 rfl))))))))))
    have hP := wr_PF e9 hP
    have hD := wr_DF e9 hD
    clear e9
    exact W.vret hx hb hr (fun t9_ ht hW => ⟨⟨(a224, f224, sg24, wd24, (vi 21), (vi 22), (upd (vF 29) (nI nd).toNatClampNeg 1), (upd (vF 30) (nI nd).toNatClampNeg (nI kx1)), (upd (vF 31) (nI nd).toNatClampNeg 0), (upd (vF 32) (nI nd).toNatClampNeg 0), (upd (vF 33) (nI nd).toNatClampNeg (nI fn)), (upd (vF 34) (nI nd).toNatClampNeg 0), (upd (vF 35) (nI nd).toNatClampNeg 0), (vF 39), (vF 40), (vF 41), (vF 42), (vF 47), (vF 48), dN, (wi - xe), (nd + 1), (nI nd), ((vF 47) dN), (gG.add nd 0 (51 - 2 * (cw + xe)) 0)), rfl, by (try dsimp only); exact ⟨f24_0, by omega, hst0, Or.inr ⟨by (have e9 : wi - xe = cw := by omega); rw [e9]; exact RdS.pop (ex := xe) hKN.1 hBel hKN.2.1 (Nat.le_refl _) (fun q hq => ⟨rfl, rfl, rfl, rfl, rfl⟩) (by omega) (fun h8 => by omega) (by decide) (Or.inl ⟨by decide, hLN⟩) (by omega) (by show gG.vN + 1 + un ≤ nd + 1; omega) (by omega) (by omega) hKN.2.2.2 (by omega), hKN.2.1.less (Nat.zero_le _)⟩, by omega⟩, by rw [ht]; exact hP, hD⟩, hS.F ht⟩) hS.2.2 dX12_beginName_32
end
section
theorem hd_yX12_readBinding_RX12 : yX12_readBinding.cls = RX12 ∧ yX12_readBinding.cls ≠ "java/lang/invoke/MethodHandle" ∧ yX12_readBinding.cls ≠ "java/lang/invoke/VarHandle" ∧ (parseMethodDescriptor yX12_readBinding.desc).map (fun d => d.parameters.length) = some 0 := by decide +kernel
theorem hd_yX12_closeSum_RX12 : yX12_closeSum.cls = RX12 ∧ yX12_closeSum.cls ≠ "java/lang/invoke/MethodHandle" ∧ yX12_closeSum.cls ≠ "java/lang/invoke/VarHandle" ∧ (parseMethodDescriptor yX12_closeSum.desc).map (fun d => d.parameters.length) = some 1 := by decide +kernel
theorem hd_yX12_beginName_RX12 : yX12_beginName.cls = RX12 ∧ yX12_beginName.cls ≠ "java/lang/invoke/MethodHandle" ∧ yX12_beginName.cls ≠ "java/lang/invoke/VarHandle" ∧ (parseMethodDescriptor yX12_beginName.desc).map (fun d => d.parameters.length) = some 1 := by decide +kernel
theorem dX12_beginFactor_0 : decode cX12_beginFactor 0 = .ok (.aload_n 0, 1) := dk_42 (by decide +kernel)
theorem dX12_beginFactor_1 : decode cX12_beginFactor 1 = .ok (.getfield 158, 3) := dk_180 (by decide +kernel)
theorem dX12_beginFactor_4 : decode cX12_beginFactor 4 = .ok (.iload_n 1, 1) := dk_27 (by decide +kernel)
theorem dX12_beginFactor_5 : decode cX12_beginFactor 5 = .ok (.aload_n 0, 1) := dk_42 (by decide +kernel)
theorem dX12_beginFactor_6 : decode cX12_beginFactor 6 = .ok (.getfield 488, 3) := dk_180 (by decide +kernel)
theorem dX12_beginFactor_9 : decode cX12_beginFactor 9 = .ok (.iastore, 1) := dk_79 (by decide +kernel)
theorem dX12_beginFactor_10 : decode cX12_beginFactor 10 = .ok (.aload_n 0, 1) := dk_42 (by decide +kernel)
theorem dX12_beginFactor_11 : decode cX12_beginFactor 11 = .ok (.invokevirtual 573, 3) := dk_182 (by decide +kernel)
theorem dX12_beginFactor_14 : decode cX12_beginFactor 14 = .ok (.ifCond .ne 4, 3) := dk_154 (by decide +kernel)
theorem dX12_beginFactor_17 : decode cX12_beginFactor 17 = .ok (.return_, 1) := dk_177 (by decide +kernel)
theorem dX12_beginFactor_18 : decode cX12_beginFactor 18 = .ok (.aload_n 0, 1) := dk_42 (by decide +kernel)
theorem dX12_beginFactor_19 : decode cX12_beginFactor 19 = .ok (.bipush 45, 2) := dk_16 (by decide +kernel)
theorem dX12_beginFactor_21 : decode cX12_beginFactor 21 = .ok (.invokevirtual 521, 3) := dk_182 (by decide +kernel)
theorem dX12_beginFactor_24 : decode cX12_beginFactor 24 = .ok (.ifCond .eq 22, 3) := dk_153 (by decide +kernel)
theorem dX12_beginFactor_27 : decode cX12_beginFactor 27 = .ok (.aload_n 0, 1) := dk_42 (by decide +kernel)
theorem dX12_beginFactor_28 : decode cX12_beginFactor 28 = .ok (.getfield 143, 3) := dk_180 (by decide +kernel)
theorem dX12_beginFactor_31 : decode cX12_beginFactor 31 = .ok (.iload_n 1, 1) := dk_27 (by decide +kernel)
theorem dX12_beginFactor_32 : decode cX12_beginFactor 32 = .ok (.iconst 1, 1) := dk_4 (by decide +kernel)
theorem dX12_beginFactor_33 : decode cX12_beginFactor 33 = .ok (.iastore, 1) := dk_79 (by decide +kernel)
theorem dX12_beginFactor_34 : decode cX12_beginFactor 34 = .ok (.aload_n 0, 1) := dk_42 (by decide +kernel)
theorem dX12_beginFactor_35 : decode cX12_beginFactor 35 = .ok (.invokevirtual 524, 3) := dk_182 (by decide +kernel)
theorem dX12_beginFactor_38 : decode cX12_beginFactor 38 = .ok (.aload_n 0, 1) := dk_42 (by decide +kernel)
theorem dX12_beginFactor_39 : decode cX12_beginFactor 39 = .ok (.iconst 1, 1) := dk_4 (by decide +kernel)
theorem dX12_beginFactor_40 : decode cX12_beginFactor 40 = .ok (.invokevirtual 586, 3) := dk_182 (by decide +kernel)
theorem dX12_beginFactor_43 : decode cX12_beginFactor 43 = .ok (.goto 175, 3) := dk_167 (by decide +kernel)
theorem dX12_beginFactor_46 : decode cX12_beginFactor 46 = .ok (.aload_n 0, 1) := dk_42 (by decide +kernel)
theorem dX12_beginFactor_47 : decode cX12_beginFactor 47 = .ok (.bipush 40, 2) := dk_16 (by decide +kernel)
theorem dX12_beginFactor_49 : decode cX12_beginFactor 49 = .ok (.invokevirtual 521, 3) := dk_182 (by decide +kernel)
theorem dX12_beginFactor_52 : decode cX12_beginFactor 52 = .ok (.ifCond .eq 22, 3) := dk_153 (by decide +kernel)
theorem dX12_beginFactor_55 : decode cX12_beginFactor 55 = .ok (.aload_n 0, 1) := dk_42 (by decide +kernel)
theorem dX12_beginFactor_56 : decode cX12_beginFactor 56 = .ok (.getfield 143, 3) := dk_180 (by decide +kernel)
theorem dX12_beginFactor_59 : decode cX12_beginFactor 59 = .ok (.iload_n 1, 1) := dk_27 (by decide +kernel)
theorem dX12_beginFactor_60 : decode cX12_beginFactor 60 = .ok (.iconst 2, 1) := dk_5 (by decide +kernel)
theorem dX12_beginFactor_61 : decode cX12_beginFactor 61 = .ok (.iastore, 1) := dk_79 (by decide +kernel)
theorem dX12_beginFactor_62 : decode cX12_beginFactor 62 = .ok (.aload_n 0, 1) := dk_42 (by decide +kernel)
theorem dX12_beginFactor_63 : decode cX12_beginFactor 63 = .ok (.invokevirtual 524, 3) := dk_182 (by decide +kernel)
theorem dX12_beginFactor_66 : decode cX12_beginFactor 66 = .ok (.aload_n 0, 1) := dk_42 (by decide +kernel)
theorem dX12_beginFactor_67 : decode cX12_beginFactor 67 = .ok (.iconst 0, 1) := dk_3 (by decide +kernel)
theorem dX12_beginFactor_68 : decode cX12_beginFactor 68 = .ok (.invokevirtual 586, 3) := dk_182 (by decide +kernel)
theorem dX12_beginFactor_71 : decode cX12_beginFactor 71 = .ok (.goto 147, 3) := dk_167 (by decide +kernel)
theorem dX12_beginFactor_74 : decode cX12_beginFactor 74 = .ok (.aload_n 0, 1) := dk_42 (by decide +kernel)
theorem dX12_beginFactor_75 : decode cX12_beginFactor 75 = .ok (.getfield 494, 3) := dk_180 (by decide +kernel)
theorem dX12_beginFactor_78 : decode cX12_beginFactor 78 = .ok (.iconst 3, 1) := dk_6 (by decide +kernel)
theorem dX12_beginFactor_79 : decode cX12_beginFactor 79 = .ok (.if_icmp .ne 31, 3) := dk_160 (by decide +kernel)
theorem dX12_beginFactor_82 : decode cX12_beginFactor 82 = .ok (.aload_n 0, 1) := dk_42 (by decide +kernel)
theorem dX12_beginFactor_83 : decode cX12_beginFactor 83 = .ok (.iconst 0, 1) := dk_3 (by decide +kernel)
theorem dX12_beginFactor_84 : decode cX12_beginFactor 84 = .ok (.aload_n 0, 1) := dk_42 (by decide +kernel)
theorem dX12_beginFactor_85 : decode cX12_beginFactor 85 = .ok (.getfield 491, 3) := dk_180 (by decide +kernel)
theorem dX12_beginFactor_88 : decode cX12_beginFactor 88 = .ok (.iconst 0, 1) := dk_3 (by decide +kernel)
theorem dX12_beginFactor_89 : decode cX12_beginFactor 89 = .ok (.iconst 0, 1) := dk_3 (by decide +kernel)
theorem dX12_beginFactor_90 : decode cX12_beginFactor 90 = .ok (.aload_n 0, 1) := dk_42 (by decide +kernel)
theorem dX12_beginFactor_91 : decode cX12_beginFactor 91 = .ok (.getfield 488, 3) := dk_180 (by decide +kernel)
theorem dX12_beginFactor_94 : decode cX12_beginFactor 94 = .ok (.invokevirtual 601, 3) := dk_182 (by decide +kernel)
theorem dX12_beginFactor_97 : decode cX12_beginFactor 97 = .ok (.istore_n 2, 1) := dk_61 (by decide +kernel)
theorem dX12_beginFactor_98 : decode cX12_beginFactor 98 = .ok (.aload_n 0, 1) := dk_42 (by decide +kernel)
theorem dX12_beginFactor_99 : decode cX12_beginFactor 99 = .ok (.invokevirtual 524, 3) := dk_182 (by decide +kernel)
theorem dX12_beginFactor_102 : decode cX12_beginFactor 102 = .ok (.aload_n 0, 1) := dk_42 (by decide +kernel)
theorem dX12_beginFactor_103 : decode cX12_beginFactor 103 = .ok (.iload_n 2, 1) := dk_28 (by decide +kernel)
theorem dX12_beginFactor_104 : decode cX12_beginFactor 104 = .ok (.invokevirtual 605, 3) := dk_182 (by decide +kernel)
theorem dX12_beginFactor_107 : decode cX12_beginFactor 107 = .ok (.goto 111, 3) := dk_167 (by decide +kernel)
theorem dX12_beginFactor_110 : decode cX12_beginFactor 110 = .ok (.aload_n 0, 1) := dk_42 (by decide +kernel)
theorem dX12_beginFactor_111 : decode cX12_beginFactor 111 = .ok (.bipush 12, 2) := dk_16 (by decide +kernel)
theorem dX12_beginFactor_113 : decode cX12_beginFactor 113 = .ok (.invokevirtual 530, 3) := dk_182 (by decide +kernel)
theorem dX12_beginFactor_116 : decode cX12_beginFactor 116 = .ok (.ifCond .eq 97, 3) := dk_153 (by decide +kernel)
theorem dX12_beginFactor_119 : decode cX12_beginFactor 119 = .ok (.aload_n 0, 1) := dk_42 (by decide +kernel)
theorem dX12_beginFactor_120 : decode cX12_beginFactor 120 = .ok (.invokevirtual 524, 3) := dk_182 (by decide +kernel)
theorem dX12_beginFactor_123 : decode cX12_beginFactor 123 = .ok (.aload_n 0, 1) := dk_42 (by decide +kernel)
theorem dX12_beginFactor_124 : decode cX12_beginFactor 124 = .ok (.bipush 123, 2) := dk_16 (by decide +kernel)
theorem dX12_beginFactor_126 : decode cX12_beginFactor 126 = .ok (.invokevirtual 611, 3) := dk_182 (by decide +kernel)
theorem dX12_beginFactor_129 : decode cX12_beginFactor 129 = .ok (.ifCond .ne 4, 3) := dk_154 (by decide +kernel)
theorem dX12_beginFactor_132 : decode cX12_beginFactor 132 = .ok (.return_, 1) := dk_177 (by decide +kernel)
theorem dX12_beginFactor_133 : decode cX12_beginFactor 133 = .ok (.aload_n 0, 1) := dk_42 (by decide +kernel)
theorem dX12_beginFactor_134 : decode cX12_beginFactor 134 = .ok (.getfield 146, 3) := dk_180 (by decide +kernel)
theorem dX12_beginFactor_137 : decode cX12_beginFactor 137 = .ok (.iload_n 1, 1) := dk_27 (by decide +kernel)
theorem dX12_beginFactor_138 : decode cX12_beginFactor 138 = .ok (.aload_n 0, 1) := dk_42 (by decide +kernel)
theorem dX12_beginFactor_139 : decode cX12_beginFactor 139 = .ok (.bipush 9, 2) := dk_16 (by decide +kernel)
theorem dX12_beginFactor_141 : decode cX12_beginFactor 141 = .ok (.iconst 0, 1) := dk_3 (by decide +kernel)
theorem dX12_beginFactor_142 : decode cX12_beginFactor 142 = .ok (.iconst (-1), 1) := dk_2 (by decide +kernel)
theorem dX12_beginFactor_143 : decode cX12_beginFactor 143 = .ok (.iconst 0, 1) := dk_3 (by decide +kernel)
theorem dX12_beginFactor_144 : decode cX12_beginFactor 144 = .ok (.aload_n 0, 1) := dk_42 (by decide +kernel)
theorem dX12_beginFactor_145 : decode cX12_beginFactor 145 = .ok (.getfield 158, 3) := dk_180 (by decide +kernel)
theorem dX12_beginFactor_148 : decode cX12_beginFactor 148 = .ok (.iload_n 1, 1) := dk_27 (by decide +kernel)
theorem dX12_beginFactor_149 : decode cX12_beginFactor 149 = .ok (.iaload, 1) := dk_46 (by decide +kernel)
theorem dX12_beginFactor_150 : decode cX12_beginFactor 150 = .ok (.invokevirtual 601, 3) := dk_182 (by decide +kernel)
theorem dX12_beginFactor_153 : decode cX12_beginFactor 153 = .ok (.iastore, 1) := dk_79 (by decide +kernel)
theorem dX12_beginFactor_154 : decode cX12_beginFactor 154 = .ok (.aload_n 0, 1) := dk_42 (by decide +kernel)
theorem dX12_beginFactor_155 : decode cX12_beginFactor 155 = .ok (.getfield 113, 3) := dk_180 (by decide +kernel)
theorem dX12_beginFactor_158 : decode cX12_beginFactor 158 = .ok (.aload_n 0, 1) := dk_42 (by decide +kernel)
theorem dX12_beginFactor_159 : decode cX12_beginFactor 159 = .ok (.getfield 146, 3) := dk_180 (by decide +kernel)
theorem dX12_beginFactor_162 : decode cX12_beginFactor 162 = .ok (.iload_n 1, 1) := dk_27 (by decide +kernel)
theorem dX12_beginFactor_163 : decode cX12_beginFactor 163 = .ok (.iaload, 1) := dk_46 (by decide +kernel)
theorem dX12_beginFactor_164 : decode cX12_beginFactor 164 = .ok (.aload_n 0, 1) := dk_42 (by decide +kernel)
theorem dX12_beginFactor_165 : decode cX12_beginFactor 165 = .ok (.invokevirtual 620, 3) := dk_182 (by decide +kernel)
theorem dX12_beginFactor_168 : decode cX12_beginFactor 168 = .ok (.iastore, 1) := dk_79 (by decide +kernel)
theorem dX12_beginFactor_169 : decode cX12_beginFactor 169 = .ok (.aload_n 0, 1) := dk_42 (by decide +kernel)
theorem dX12_beginFactor_170 : decode cX12_beginFactor 170 = .ok (.getfield 515, 3) := dk_180 (by decide +kernel)
theorem dX12_beginFactor_173 : decode cX12_beginFactor 173 = .ok (.ifCond .le 4, 3) := dk_158 (by decide +kernel)
theorem dX12_beginFactor_176 : decode cX12_beginFactor 176 = .ok (.return_, 1) := dk_177 (by decide +kernel)
theorem dX12_beginFactor_177 : decode cX12_beginFactor 177 = .ok (.aload_n 0, 1) := dk_42 (by decide +kernel)
theorem dX12_beginFactor_178 : decode cX12_beginFactor 178 = .ok (.bipush 8, 2) := dk_16 (by decide +kernel)
theorem dX12_beginFactor_180 : decode cX12_beginFactor 180 = .ok (.invokevirtual 530, 3) := dk_182 (by decide +kernel)
theorem dX12_beginFactor_183 : decode cX12_beginFactor 183 = .ok (.ifCond .eq 22, 3) := dk_153 (by decide +kernel)
theorem dX12_beginFactor_186 : decode cX12_beginFactor 186 = .ok (.aload_n 0, 1) := dk_42 (by decide +kernel)
theorem dX12_beginFactor_187 : decode cX12_beginFactor 187 = .ok (.invokevirtual 524, 3) := dk_182 (by decide +kernel)
theorem dX12_beginFactor_190 : decode cX12_beginFactor 190 = .ok (.aload_n 0, 1) := dk_42 (by decide +kernel)
theorem dX12_beginFactor_191 : decode cX12_beginFactor 191 = .ok (.getfield 143, 3) := dk_180 (by decide +kernel)
theorem dX12_beginFactor_194 : decode cX12_beginFactor 194 = .ok (.iload_n 1, 1) := dk_27 (by decide +kernel)
theorem dX12_beginFactor_195 : decode cX12_beginFactor 195 = .ok (.iconst 5, 1) := dk_8 (by decide +kernel)
theorem dX12_beginFactor_196 : decode cX12_beginFactor 196 = .ok (.iastore, 1) := dk_79 (by decide +kernel)
theorem dX12_beginFactor_197 : decode cX12_beginFactor 197 = .ok (.aload_n 0, 1) := dk_42 (by decide +kernel)
theorem dX12_beginFactor_198 : decode cX12_beginFactor 198 = .ok (.iconst 2, 1) := dk_5 (by decide +kernel)
theorem dX12_beginFactor_199 : decode cX12_beginFactor 199 = .ok (.invokevirtual 586, 3) := dk_182 (by decide +kernel)
theorem dX12_beginFactor_202 : decode cX12_beginFactor 202 = .ok (.goto 16, 3) := dk_167 (by decide +kernel)
theorem dX12_beginFactor_205 : decode cX12_beginFactor 205 = .ok (.aload_n 0, 1) := dk_42 (by decide +kernel)
theorem dX12_beginFactor_206 : decode cX12_beginFactor 206 = .ok (.iload_n 1, 1) := dk_27 (by decide +kernel)
theorem dX12_beginFactor_207 : decode cX12_beginFactor 207 = .ok (.invokevirtual 617, 3) := dk_182 (by decide +kernel)
theorem dX12_beginFactor_210 : decode cX12_beginFactor 210 = .ok (.goto 8, 3) := dk_167 (by decide +kernel)
theorem dX12_beginFactor_213 : decode cX12_beginFactor 213 = .ok (.aload_n 0, 1) := dk_42 (by decide +kernel)
theorem dX12_beginFactor_214 : decode cX12_beginFactor 214 = .ok (.iload_n 1, 1) := dk_27 (by decide +kernel)
theorem dX12_beginFactor_215 : decode cX12_beginFactor 215 = .ok (.invokevirtual 623, 3) := dk_182 (by decide +kernel)
theorem dX12_beginFactor_218 : decode cX12_beginFactor 218 = .ok (.return_, 1) := dk_177 (by decide +kernel)
def wsRX12_beginFactor : List Cond := .code yX12_beginFactor cX12_beginFactor 3 none :: ([.fieldLink RX12 158 "OptimaWorksModel" "at1" "[I", .fieldLink RX12 488 "OptimaWorksModel" "from" "I", .fieldLink RX12 143 "OptimaWorksModel" "step" "[I", .fieldLink RX12 494 "OptimaWorksModel" "word" "I", .fieldLink RX12 146 "OptimaWorksModel" "got1" "[I", .fieldLink RX12 113 "OptimaWorksModel" "partA" "[I", .fieldLink RX12 515 "OptimaWorksModel" "stop" "I", .fieldLink RX12 491 "OptimaWorksModel" "sign0" "I"] ++ wsX120 ++ (wsV RX12 573 RX12 yX12_canBegin wsRX12_canBegin) ++ (wsV RX12 521 RX12 yX12_isSign wsRX12_isSign) ++ (wsV RX12 524 RX12 yX12_next wsRX12_next) ++ (wsV RX12 586 RX12 yX12_begin1 wsRX12_begin1) ++ (wsV RX12 530 RX12 yX12_isKey wsRX12_isKey) ++ (wsV RX12 611 RX12 yX12_needSign wsRX12_needSign) ++ (wsV RX12 601 RX12 yX12_node wsRX12_node) ++ (wsV RX12 620 RX12 yX12_readBinding wsRX12_readBinding) ++ (wsV RX12 617 RX12 yX12_closeSum wsRX12_closeSum) ++ (wsV RX12 623 RX12 yX12_beginName wsRX12_beginName) ++ (wsV RX12 605 RX12 yX12_end1 wsRend1w))
theorem iwsRX12_beginFactor_in12 : ∀ w ∈ wsX120, w ∈ wsRX12_beginFactor := fun _ h => List.mem_cons_of_mem _ (List.mem_append_left _ (List.mem_append_left _ (List.mem_append_left _ (List.mem_append_left _ (List.mem_append_left _ (List.mem_append_left _ (List.mem_append_left _ (List.mem_append_left _ (List.mem_append_left _ (List.mem_append_left _ (List.mem_append_left _ (List.mem_append_right _ h))))))))))))
theorem gwsRX12_beginFactor_0 : GoodIn wsRX12_beginFactor (wsV RX12 573 RX12 yX12_canBegin wsRX12_canBegin) := goodIn_sub (fun _ h => List.mem_cons_of_mem _ (List.mem_append_left _ (List.mem_append_left _ (List.mem_append_left _ (List.mem_append_left _ (List.mem_append_left _ (List.mem_append_left _ (List.mem_append_left _ (List.mem_append_left _ (List.mem_append_left _ (List.mem_append_left _ (List.mem_append_right _ h)))))))))))) (gdV (by decide +kernel) gdwsRX12_canBegin)
theorem gwsRX12_beginFactor_1 : GoodIn wsRX12_beginFactor (wsV RX12 521 RX12 yX12_isSign wsRX12_isSign) := goodIn_sub (fun _ h => List.mem_cons_of_mem _ (List.mem_append_left _ (List.mem_append_left _ (List.mem_append_left _ (List.mem_append_left _ (List.mem_append_left _ (List.mem_append_left _ (List.mem_append_left _ (List.mem_append_left _ (List.mem_append_left _ (List.mem_append_right _ h))))))))))) (gdV (by decide +kernel) gdwsRX12_isSign)
theorem gwsRX12_beginFactor_2 : GoodIn wsRX12_beginFactor (wsV RX12 524 RX12 yX12_next wsRX12_next) := goodIn_sub (fun _ h => List.mem_cons_of_mem _ (List.mem_append_left _ (List.mem_append_left _ (List.mem_append_left _ (List.mem_append_left _ (List.mem_append_left _ (List.mem_append_left _ (List.mem_append_left _ (List.mem_append_left _ (List.mem_append_right _ h)))))))))) (gdV (by decide +kernel) gdwsRX12_next)
theorem gwsRX12_beginFactor_3 : GoodIn wsRX12_beginFactor (wsV RX12 586 RX12 yX12_begin1 wsRX12_begin1) := goodIn_sub (fun _ h => List.mem_cons_of_mem _ (List.mem_append_left _ (List.mem_append_left _ (List.mem_append_left _ (List.mem_append_left _ (List.mem_append_left _ (List.mem_append_left _ (List.mem_append_left _ (List.mem_append_right _ h))))))))) (gdV (by decide +kernel) gdwsRX12_begin1)
theorem gwsRX12_beginFactor_4 : GoodIn wsRX12_beginFactor (wsV RX12 530 RX12 yX12_isKey wsRX12_isKey) := goodIn_sub (fun _ h => List.mem_cons_of_mem _ (List.mem_append_left _ (List.mem_append_left _ (List.mem_append_left _ (List.mem_append_left _ (List.mem_append_left _ (List.mem_append_left _ (List.mem_append_right _ h)))))))) (gdV (by decide +kernel) gdwsRX12_isKey)
theorem gwsRX12_beginFactor_5 : GoodIn wsRX12_beginFactor (wsV RX12 611 RX12 yX12_needSign wsRX12_needSign) := goodIn_sub (fun _ h => List.mem_cons_of_mem _ (List.mem_append_left _ (List.mem_append_left _ (List.mem_append_left _ (List.mem_append_left _ (List.mem_append_left _ (List.mem_append_right _ h))))))) (gdV (by decide +kernel) gdwsRX12_needSign)
theorem gwsRX12_beginFactor_6 : GoodIn wsRX12_beginFactor (wsV RX12 601 RX12 yX12_node wsRX12_node) := goodIn_sub (fun _ h => List.mem_cons_of_mem _ (List.mem_append_left _ (List.mem_append_left _ (List.mem_append_left _ (List.mem_append_left _ (List.mem_append_right _ h)))))) (gdV (by decide +kernel) gdwsRX12_node)
theorem gwsRX12_beginFactor_7 : GoodIn wsRX12_beginFactor (wsV RX12 620 RX12 yX12_readBinding wsRX12_readBinding) := goodIn_sub (fun _ h => List.mem_cons_of_mem _ (List.mem_append_left _ (List.mem_append_left _ (List.mem_append_left _ (List.mem_append_right _ h))))) (gdV (by decide +kernel) gdwsRX12_readBinding)
theorem gwsRX12_beginFactor_8 : GoodIn wsRX12_beginFactor (wsV RX12 617 RX12 yX12_closeSum wsRX12_closeSum) := goodIn_sub (fun _ h => List.mem_cons_of_mem _ (List.mem_append_left _ (List.mem_append_left _ (List.mem_append_right _ h)))) (gdV (by decide +kernel) gdwsRX12_closeSum)
theorem gwsRX12_beginFactor_9 : GoodIn wsRX12_beginFactor (wsV RX12 623 RX12 yX12_beginName wsRX12_beginName) := goodIn_sub (fun _ h => List.mem_cons_of_mem _ (List.mem_append_left _ (List.mem_append_right _ h))) (gdV (by decide +kernel) gdwsRX12_beginName)
theorem gwsRX12_beginFactor_10 : GoodIn wsRX12_beginFactor (wsV RX12 605 RX12 yX12_end1 wsRend1w) := goodIn_sub (fun _ h => List.mem_cons_of_mem _ (List.mem_append_right _ h)) (gdV (by decide +kernel) gdwsRend1w)
theorem gdwsRX12_beginFactor : wsRX12_beginFactor.all goodWord = true := gdC rfl (gdA (gdA (gdA (gdA (gdA (gdA (gdA (gdA (gdA (gdA (gdA (gdA (by decide +kernel : ([.fieldLink RX12 158 "OptimaWorksModel" "at1" "[I", .fieldLink RX12 488 "OptimaWorksModel" "from" "I", .fieldLink RX12 143 "OptimaWorksModel" "step" "[I", .fieldLink RX12 494 "OptimaWorksModel" "word" "I", .fieldLink RX12 146 "OptimaWorksModel" "got1" "[I", .fieldLink RX12 113 "OptimaWorksModel" "partA" "[I", .fieldLink RX12 515 "OptimaWorksModel" "stop" "I", .fieldLink RX12 491 "OptimaWorksModel" "sign0" "I"] : List Cond).all goodWord = true) gdwsX120) (gdV (by decide +kernel) gdwsRX12_canBegin)) (gdV (by decide +kernel) gdwsRX12_isSign)) (gdV (by decide +kernel) gdwsRX12_next)) (gdV (by decide +kernel) gdwsRX12_begin1)) (gdV (by decide +kernel) gdwsRX12_isKey)) (gdV (by decide +kernel) gdwsRX12_needSign)) (gdV (by decide +kernel) gdwsRX12_node)) (gdV (by decide +kernel) gdwsRX12_readBinding)) (gdV (by decide +kernel) gdwsRX12_closeSum)) (gdV (by decide +kernel) gdwsRX12_beginName)) (gdV (by decide +kernel) gdwsRend1w))
theorem hm_r_X12_beginFactor_0 : (.fieldLink RX12 158 "OptimaWorksModel" "at1" "[I" : Cond) ∈ wsRX12_beginFactor := by decide +kernel
theorem hm_r_X12_beginFactor_1 : (.fieldLink RX12 488 "OptimaWorksModel" "from" "I" : Cond) ∈ wsRX12_beginFactor := by decide +kernel
theorem hm_r_X12_beginFactor_2 : (.fieldLink RX12 143 "OptimaWorksModel" "step" "[I" : Cond) ∈ wsRX12_beginFactor := by decide +kernel
theorem hm_r_X12_beginFactor_3 : (.fieldLink RX12 146 "OptimaWorksModel" "got1" "[I" : Cond) ∈ wsRX12_beginFactor := by decide +kernel
set_option maxHeartbeats 4000000 in
set_option maxRecDepth 100000 in
/-- beginFactor(d) -/
theorem r_X12_beginFactor (l : Launch) (dC : Nat → ClassId) (dI : Nat → Nat → Nat) (a : Nat → Nat) (k : Nat → ClassId) (h0 : Nat) (vi : Nat → Int32) (vj : Nat → Int64) (vF : Nat → Nat → Int32) (vG : Nat → Nat → Int64) (tp : Nat) (an : Nat) (fn : Nat) (nm : Nat) (se : Nat) (pa : Nat) (va : Nat) (bd : Nat) (tT : Nat → Nat → Int32) (gG : RG) (bs : Nat) (r0 : Nat) (dN : Nat) (wi : Nat) (nd : Nat) (mM : Nat) (cw : Nat) (uu : Nat) (pe : Nat) (un : Nat) (gl : Nat) (gm : Nat) (xe : Nat) (p1 : Nat) (n1 : Nat) (m1 : Nat) (tw : Nat) (hTp : vi 16 = nI tp) (htp : tp ≤ 4000) (ha0 : vi 17 = nI an) (hfr : vi 19 = nI fn) (hLx : LxO tp fn an (vi 18) (vi 20)) (hst0 : 0 ≤ (vi 21).toInt) (hnm : vi 25 = nI nm) (hnm40 : nm ≤ 40) (hno : NmO (vF 11) (vF 12) nm) (hNk : NkO (vF 10) (vF 13) nm se pa va) (hbd : vi 30 = nI bd) (hbd60 : bd ≤ 60) (hbo : NmO (vF 14) (vF 15) 60) (hse44 : se ≤ 44) (hRV : RdV tT gG (vF 29) (vF 30) (vF 31) (vF 32) (vF 36) (vF 37) (vF 38) se nd bs) (hRT : RdT tT gG (vF 29) (vF 30) (vF 31) (vF 32) (vF 36) (vF 37) (vF 38) (vF 39) (vF 40) (vF 41) (vF 42) (vF 48) (vi 18) (vi 20) (vi 76) se bs r0 dN wi nd bd fn mM 1 cw uu pe un gl gm xe p1 n1 m1 tw) (hdp : vi 74 = nI (dN + 1)) (hwi : vi 75 = nI wi) (hnd : vi 52 = nI nd) (hDc : DcO tT se pa va) (ht18 : vF 18 = tT 18) (ht24 : vF 24 = tT 24) (hOw : OwO (vi 33) (vi 34)) (hbs : vi 60 = nI bs) (hs0 : vF 40 dN = 0) (sz : Nat) : Met l yX12_beginFactor wsRX12_beginFactor ({ frames := 11, cells := 0, slots := 0, locals := 239 }) (va_Pc [.ref h0, .int (nI dN)] (fun U => U.heap.size = sz ∧ va_P (dC, dI) vwCl (WR a k h0 vi vj vF vG) U.heap ∧ va_K (dC, dI) vwCl (tX12 k) U ∧ va_D (fun _ => True) (WR a k h0 vi vj vF vG) ∧ StrA (va_A (WR a k h0 vi vj vF vG) sz) U U.heap)) (va_Qv (fun (u : (Nat) × (Nat) × (Int32) × (Int32) × (Int32) × (Int32) × (Nat → Int32) × (Nat → Int32) × (Nat → Int32) × (Nat → Int32) × (Nat → Int32) × (Nat → Int32) × (Nat → Int32) × (Nat → Int32) × (Nat → Int32) × (Nat → Int32) × (Nat → Int32) × (Nat → Int32) × (Nat → Int32) × (Nat → Int32) × (Nat → Int32) × (Nat → Int32) × (Nat → Int32) × (Nat → Int32) × (Nat → Int32) × (Nat) × (Nat) × (Nat) × (Nat) × (Nat) × (Int32) × (Int32) × (RG)) => (LxO tp (u.2.1) (u.1) (u.2.2.2.1) (u.2.2.1)) ∧ (fn ≤ (u.2.1)) ∧ (0 ≤ ((u.2.2.2.2.1)).toInt) ∧ (0 < ((u.2.2.2.2.1)).toInt ∨ (RdS tT (u.2.2.2.2.2.2.2.2.2.2.2.2.2.2.2.2.2.2.2.2.2.2.2.2.2.2.2.2.2.2.2.2) (u.2.2.2.2.2.2.1) (u.2.2.2.2.2.2.2.1) (u.2.2.2.2.2.2.2.2.1) (u.2.2.2.2.2.2.2.2.2.1) (u.2.2.2.2.2.2.2.2.2.2.2.2.2.2.2.1) (u.2.2.2.2.2.2.2.2.2.2.2.2.2.2.2.2.1) (u.2.2.2.2.2.2.2.2.2.2.2.2.2.2.2.2.2.1) (u.2.2.2.2.2.2.2.2.2.2.2.2.2.2.2.2.2.2.1) (u.2.2.2.2.2.2.2.2.2.2.2.2.2.2.2.2.2.2.2.1) (u.2.2.2.2.2.2.2.2.2.2.2.2.2.2.2.2.2.2.2.2.1) (u.2.2.2.2.2.2.2.2.2.2.2.2.2.2.2.2.2.2.2.2.2.1) (u.2.2.2.2.2.2.2.2.2.2.2.2.2.2.2.2.2.2.2.2.2.2.2.2.1) (u.2.2.2.1) (u.2.2.1) (u.2.2.2.2.2.2.2.2.2.2.2.2.2.2.2.2.2.2.2.2.2.2.2.2.2.2.2.2.2.2.1) se (u.2.2.2.2.2.2.2.2.2.2.2.2.2.2.2.2.2.2.2.2.2.2.2.2.2.2.2.2.2.1) r0 (u.2.2.2.2.2.2.2.2.2.2.2.2.2.2.2.2.2.2.2.2.2.2.2.2.2.1) (u.2.2.2.2.2.2.2.2.2.2.2.2.2.2.2.2.2.2.2.2.2.2.2.2.2.2.1) (u.2.2.2.2.2.2.2.2.2.2.2.2.2.2.2.2.2.2.2.2.2.2.2.2.2.2.2.1) (u.2.2.2.2.2.2.2.2.2.2.2.2.2.2.2.2.2.2.2.2.2.2.2.2.2.2.2.2.1) (u.2.1) (mM - 1) ∧ Ext 0 bs gG (vF 29) (vF 30) (vF 31) (vF 32) (vF 36) (vF 37) (vF 38) (u.2.2.2.2.2.2.2.2.2.2.2.2.2.2.2.2.2.2.2.2.2.2.2.2.2.2.2.2.2.2.2.2) (u.2.2.2.2.2.2.1) (u.2.2.2.2.2.2.2.1) (u.2.2.2.2.2.2.2.2.1) (u.2.2.2.2.2.2.2.2.2.1) (u.2.2.2.2.2.2.2.2.2.2.2.2.2.2.2.1) (u.2.2.2.2.2.2.2.2.2.2.2.2.2.2.2.2.1) (u.2.2.2.2.2.2.2.2.2.2.2.2.2.2.2.2.2.1))) ∧ ((u.2.2.2.2.2.2.2.2.2.2.2.2.2.2.2.2.2.2.2.2.2.2.2.2.2.1) ≤ dN + 2) ∧ (bs ≤ (u.2.2.2.2.2.2.2.2.2.2.2.2.2.2.2.2.2.2.2.2.2.2.2.2.2.2.2.2.2.1)) ∧ (NmO (u.2.2.2.2.2.2.2.2.2.2.2.2.2.1) (u.2.2.2.2.2.2.2.2.2.2.2.2.2.2.1) 60)) (fun (u : (Nat) × (Nat) × (Int32) × (Int32) × (Int32) × (Int32) × (Nat → Int32) × (Nat → Int32) × (Nat → Int32) × (Nat → Int32) × (Nat → Int32) × (Nat → Int32) × (Nat → Int32) × (Nat → Int32) × (Nat → Int32) × (Nat → Int32) × (Nat → Int32) × (Nat → Int32) × (Nat → Int32) × (Nat → Int32) × (Nat → Int32) × (Nat → Int32) × (Nat → Int32) × (Nat → Int32) × (Nat → Int32) × (Nat) × (Nat) × (Nat) × (Nat) × (Nat) × (Int32) × (Int32) × (RG)) t => va_P (dC, dI) vwCl (WR a k h0 (fT (fT (fT (fT (fT (fT (fT (fT (fT (fT (fT (fT (fT vi 21 (u.2.2.2.2.1)) 22 (u.2.2.2.2.2.1)) 17 (nI (u.1))) 19 (nI (u.2.1))) 20 (u.2.2.1)) 18 (u.2.2.2.1)) 52 (nI (u.2.2.2.2.2.2.2.2.2.2.2.2.2.2.2.2.2.2.2.2.2.2.2.2.2.2.2.1))) 60 (nI (u.2.2.2.2.2.2.2.2.2.2.2.2.2.2.2.2.2.2.2.2.2.2.2.2.2.2.2.2.2.1))) 30 (nI (u.2.2.2.2.2.2.2.2.2.2.2.2.2.2.2.2.2.2.2.2.2.2.2.2.2.2.2.2.1))) 75 (nI (u.2.2.2.2.2.2.2.2.2.2.2.2.2.2.2.2.2.2.2.2.2.2.2.2.2.2.1))) 74 (nI (u.2.2.2.2.2.2.2.2.2.2.2.2.2.2.2.2.2.2.2.2.2.2.2.2.2.1))) 76 (u.2.2.2.2.2.2.2.2.2.2.2.2.2.2.2.2.2.2.2.2.2.2.2.2.2.2.2.2.2.2.1)) 77 (u.2.2.2.2.2.2.2.2.2.2.2.2.2.2.2.2.2.2.2.2.2.2.2.2.2.2.2.2.2.2.2.1)) vj (fT (fT (fT (fT (fT (fT (fT (fT (fT (fT (fT (fT (fT (fT (fT (fT (fT (fT (fT vF 45 (u.2.2.2.2.2.2.2.2.2.2.2.2.2.2.2.2.2.2.2.2.2.2.1)) 29 (u.2.2.2.2.2.2.1)) 30 (u.2.2.2.2.2.2.2.1)) 31 (u.2.2.2.2.2.2.2.2.1)) 32 (u.2.2.2.2.2.2.2.2.2.1)) 33 (u.2.2.2.2.2.2.2.2.2.2.1)) 34 (u.2.2.2.2.2.2.2.2.2.2.2.1)) 35 (u.2.2.2.2.2.2.2.2.2.2.2.2.1)) 41 (u.2.2.2.2.2.2.2.2.2.2.2.2.2.2.2.2.2.2.2.2.1)) 38 (u.2.2.2.2.2.2.2.2.2.2.2.2.2.2.2.2.2.1)) 37 (u.2.2.2.2.2.2.2.2.2.2.2.2.2.2.2.2.1)) 14 (u.2.2.2.2.2.2.2.2.2.2.2.2.2.1)) 15 (u.2.2.2.2.2.2.2.2.2.2.2.2.2.2.1)) 36 (u.2.2.2.2.2.2.2.2.2.2.2.2.2.2.2.1)) 40 (u.2.2.2.2.2.2.2.2.2.2.2.2.2.2.2.2.2.2.2.1)) 39 (u.2.2.2.2.2.2.2.2.2.2.2.2.2.2.2.2.2.2.1)) 42 (u.2.2.2.2.2.2.2.2.2.2.2.2.2.2.2.2.2.2.2.2.2.1)) 47 (u.2.2.2.2.2.2.2.2.2.2.2.2.2.2.2.2.2.2.2.2.2.2.2.1)) 48 (u.2.2.2.2.2.2.2.2.2.2.2.2.2.2.2.2.2.2.2.2.2.2.2.2.1)) vG) t.heap ∧ va_D (va_A (WR a k h0 vi vj vF vG) sz) (WR a k h0 (fT (fT (fT (fT (fT (fT (fT (fT (fT (fT (fT (fT (fT vi 21 (u.2.2.2.2.1)) 22 (u.2.2.2.2.2.1)) 17 (nI (u.1))) 19 (nI (u.2.1))) 20 (u.2.2.1)) 18 (u.2.2.2.1)) 52 (nI (u.2.2.2.2.2.2.2.2.2.2.2.2.2.2.2.2.2.2.2.2.2.2.2.2.2.2.2.1))) 60 (nI (u.2.2.2.2.2.2.2.2.2.2.2.2.2.2.2.2.2.2.2.2.2.2.2.2.2.2.2.2.2.1))) 30 (nI (u.2.2.2.2.2.2.2.2.2.2.2.2.2.2.2.2.2.2.2.2.2.2.2.2.2.2.2.2.1))) 75 (nI (u.2.2.2.2.2.2.2.2.2.2.2.2.2.2.2.2.2.2.2.2.2.2.2.2.2.2.1))) 74 (nI (u.2.2.2.2.2.2.2.2.2.2.2.2.2.2.2.2.2.2.2.2.2.2.2.2.2.1))) 76 (u.2.2.2.2.2.2.2.2.2.2.2.2.2.2.2.2.2.2.2.2.2.2.2.2.2.2.2.2.2.2.1)) 77 (u.2.2.2.2.2.2.2.2.2.2.2.2.2.2.2.2.2.2.2.2.2.2.2.2.2.2.2.2.2.2.2.1)) vj (fT (fT (fT (fT (fT (fT (fT (fT (fT (fT (fT (fT (fT (fT (fT (fT (fT (fT (fT vF 45 (u.2.2.2.2.2.2.2.2.2.2.2.2.2.2.2.2.2.2.2.2.2.2.1)) 29 (u.2.2.2.2.2.2.1)) 30 (u.2.2.2.2.2.2.2.1)) 31 (u.2.2.2.2.2.2.2.2.1)) 32 (u.2.2.2.2.2.2.2.2.2.1)) 33 (u.2.2.2.2.2.2.2.2.2.2.1)) 34 (u.2.2.2.2.2.2.2.2.2.2.2.1)) 35 (u.2.2.2.2.2.2.2.2.2.2.2.2.1)) 41 (u.2.2.2.2.2.2.2.2.2.2.2.2.2.2.2.2.2.2.2.2.1)) 38 (u.2.2.2.2.2.2.2.2.2.2.2.2.2.2.2.2.2.1)) 37 (u.2.2.2.2.2.2.2.2.2.2.2.2.2.2.2.2.1)) 14 (u.2.2.2.2.2.2.2.2.2.2.2.2.2.1)) 15 (u.2.2.2.2.2.2.2.2.2.2.2.2.2.2.1)) 36 (u.2.2.2.2.2.2.2.2.2.2.2.2.2.2.2.1)) 40 (u.2.2.2.2.2.2.2.2.2.2.2.2.2.2.2.2.2.2.2.1)) 39 (u.2.2.2.2.2.2.2.2.2.2.2.2.2.2.2.2.2.2.1)) 42 (u.2.2.2.2.2.2.2.2.2.2.2.2.2.2.2.2.2.2.2.2.2.1)) 47 (u.2.2.2.2.2.2.2.2.2.2.2.2.2.2.2.2.2.2.2.2.2.2.2.1)) 48 (u.2.2.2.2.2.2.2.2.2.2.2.2.2.2.2.2.2.2.2.2.2.2.2.2.1)) vG)) (va_A (WR a k h0 vi vj vF vG) sz)) 0 0 (va_A (WR a k h0 vi vj vF vG) sz) := by
  refine Met.ofW (cc := cX12_beginFactor) (maxL := 3) (ret := none) (by decide) rfl ?_
  intro p e s m args below meth c s₁ B hml hv
  obtain ⟨rfl, hsz, hP, hK, hD0, hE⟩ := hv
  have hx := B.exec
  have hb := B.bytes
  have hr := B.returns
  have hts := atoms_spec (ws := wsRX12_beginFactor) B.pre
  have hown : s.vm.findClass RX12 = some m.cls := findClass_of_methodNamed B.named
  have hlocks := B.notSynchronized
  subst hsz
  have hD := hD0.self (sz := s.heap.size)
  generalize hAe : va_A (WR a k h0 vi vj vF vG) s.heap.size = A at hD hE ⊢
  have hA : ∀ q : Nat, s.heap.size ≤ q → A q := fun q h => by rw [← hAe]; exact Or.inr h
  have hS : va_S A s.heap s.heap [] := va_S.rf
  have hl := lv_entry ([.ref h0, .int (nI dN)]) (n := 3) (Nat.le_of_ble_eq_true rfl)
  rw [lg_entry_eq]
  generalize (lg_sl ([.ref h0, .int (nI dN)]) ++ List.replicate (3 - (lg_sl ([.ref h0, .int (nI dN)])).length) Slot.unset).toArray = ls at hl ⊢
  have hl : lv_has ls 3 [(0, .ref h0), (1, .int (nI dN))] := hl
  have hfa := hLx.1
  have han := hLx.2.1
  have han4 : an ≤ 4000 := by omega
  have hRT0 := hRT
  obtain ⟨⟨h39, _, h48⟩, hBel, ⟨h25, hwc⟩, hTq, hc1, hc2, hc3, hc4, hc5, hc6⟩ := hRT
  have hdd := hBel.deep
  have hz := hTq.fac0 hs0
  have hK0 := RdK.first (gl := gl) hRV (by omega)
  refine lv_aload_n hx hb dX12_beginFactor_0 rfl (lv_at hl 0 rfl) ?_
  refine va_get (D := (dC, dI)) (ci := 12) (v := .ref (a 45)) (C := RX12) (T := TX12) (N := 163) (fs := fM (vS a vi vj)) hx hb hts iwsRX12_beginFactor_in12 hown hK hP 0 rfl rfl 70 (by decide) (hts _ hm_r_X12_beginFactor_0) (fun _ h9 => h9) rfl dX12_beginFactor_1 ?_
  refine lv_iload_n hx hb dX12_beginFactor_4 rfl (lv_at hl 1 rfl) ?_
  refine lv_aload_n hx hb dX12_beginFactor_5 rfl (lv_at hl 0 rfl) ?_
  refine va_get (D := (dC, dI)) (ci := 12) (v := .int (vi 19)) (C := RX12) (T := TX12) (N := 163) (fs := fM (vS a vi vj)) hx hb hts iwsRX12_beginFactor_in12 hown hK hP 0 rfl rfl 19 (by decide) (hts _ hm_r_X12_beginFactor_1) (fun _ h9 => h9) rfl dX12_beginFactor_6 ?_
  refine lv_topi (fun y1 hy1 => ?_)
  obtain rfl : (nI fn) = y1 := (hy1.trans (hfr)).symm
  refine va_iast (cA := k 45) (n := 120) (f := (vF 45)) hx hb hK hP hD hS 46 45 (WR_get 45 (by decide)) (TR_get 45 (by decide)) (vp_in_nI (show dN < 120 by omega) (by omega)) dX12_beginFactor_9 (fun H locs hP hD hS => ?_)
  have hP : va_P (dC, dI) vwCl (WR a k h0 vi vj (fT vF 45 (upd (vF 45) ((nI dN)).toNatClampNeg (nI fn))) vG) H := fz_w (WR_F 45 (by decide) _ rfl) hP
  have hD : va_D A (WR a k h0 vi vj (fT vF 45 (upd (vF 45) ((nI dN)).toNatClampNeg (nI fn))) vG) := fz_wD (WR_F 45 (by decide) _ rfl) hD
  refine lv_aload_n hx hb dX12_beginFactor_10 rfl (lv_at hl 0 rfl) ?_
  have hFc := allFree hD hS hA
  refine va_calli (va_runV (As := []) (rest := []) ⟨hx, hb, hml, hown, hts⟩ (r_X12_canBegin l dC dI a k h0 vi vj (fT vF 45 (upd (vF 45) ((nI dN)).toNatClampNeg (nI fn))) vG tp an fn nm se pa va bd hTp (by first | with_reducible assumption | decide | omega | rfl | assumption) ha0 hfr (by first | with_reducible assumption | decide | omega | rfl | assumption) (by first | with_reducible assumption | decide | omega | rfl | assumption) hnm (by first | with_reducible assumption | decide | omega | rfl | assumption) (by first | with_reducible assumption | decide | omega | rfl | assumption) (by first | with_reducible assumption | decide | omega | rfl | assumption) hbd (by first | with_reducible assumption | decide | omega | rfl | assumption) (by first | with_reducible assumption | decide | omega | rfl | assumption) H.size) (cwV 0 hts gwsRX12_beginFactor_0 rfl rfl rfl hd_yX12_canBegin_RX12 (by decide +kernel)) (fz_pre (va_recv hK hP (ci := 12) (q0 := 0) rfl rfl) hP hK hD) rfl rfl hl.1 rfl (lv_room (Nat.le_of_ble_eq_true rfl)) dX12_beginFactor_11 (by decide +kernel)) hS (fun q _ h => hFc q h) hFc (fun r11 u t9_ H locs ht hvm hw9 hB9 hz1 hk1 hS => ?_)
  revert u hw9 hB9
  refine fz_p2 ?_
  intro s211 p211 hw9 hB9
  try dsimp only at hw9 hB9
  have hP : va_P (dC, dI) vwCl (WR a k h0 (fT (fT vi 21 s211) 22 p211) vj (fT vF 45 (upd (vF 45) ((nI dN)).toNatClampNeg (nI fn))) vG) H := fz_P ht hB9.1
  have hD := fz_sd hP (hB9.2.weaken (fun _ q _ h => hFc q.1 h)) rfl
  rcases hw9 with ⟨rfl, f11_0, f11_1, f11_2⟩ | ⟨rfl, f11_0⟩
  · have f11_1 : CbW (vi 18) (vi 20) := f11_1
    have f11_2 : CbQ (vi 18) (vF 9) (vF 10) (vF 11) (vF 12) (vF 14) (vF 15) fn an nm bd := f11_2
    refine lv_if_ne (tgt := 18) hx hb dX12_beginFactor_14 (by decide) (fun _ => ?_) (fun c9 => absurd c9 (by decide))
    refine lv_aload_n hx hb dX12_beginFactor_18 rfl (lv_at hl 0 rfl) ?_
    refine lv_bipush (v := 45) hx hb dX12_beginFactor_19 (by decide) ?_
    have hFc := allFree hD hS hA
    refine va_calli (va_runV (As := [.int 45]) (rest := []) ⟨hx, hb, hml, hown, hts⟩ (r_X12_isSign l dC dI a k h0 (fT (fT vi 21 s211) 22 p211) vj (fT vF 45 (upd (vF 45) ((nI dN)).toNatClampNeg (nI fn))) vG 45 H.size) (cwV 1 hts gwsRX12_beginFactor_1 rfl rfl rfl hd_yX12_isSign_RX12 (by decide +kernel)) (fz_pre (va_recv hK hP (ci := 12) (q0 := 0) rfl rfl) hP hK hD) rfl rfl hl.1 rfl (lv_room (Nat.le_of_ble_eq_true rfl)) dX12_beginFactor_21 (by decide +kernel)) hS (fun q _ h => hFc q h) hFc (fun r21 u t9_ H locs ht hvm hw9 hB9 hz1 hk1 hS => ?_)
    have hP : va_P (dC, dI) vwCl (WR a k h0 (fT (fT vi 21 s211) 22 p211) vj (fT vF 45 (upd (vF 45) ((nI dN)).toNatClampNeg (nI fn))) vG) H := fz_P ht hB9.1
    have hD := fz_sd hP (hB9.2.weaken (fun _ q _ h => hFc q.1 h)) rfl
    rcases hw9 with ⟨rfl, f21_0, f21_1⟩ | ⟨rfl, f21_0⟩
    · have f21_0 : (vi 18).toInt = 4 := f21_0
      have f21_1 : (vi 20) = 45 := f21_1
      refine lv_if_eq (tgt := 46) hx hb dX12_beginFactor_24 (by decide) (fun c9 => absurd c9 (by decide)) (fun _ => ?_)
      have hfl : fn < an := hLx.2.2.1.resolve_left (fun h => by first | (rw [h] at f21_0; exact absurd f21_0 (by decide)))
      refine lv_aload_n hx hb dX12_beginFactor_27 rfl (lv_at hl 0 rfl) ?_
      refine va_get (D := (dC, dI)) (ci := 12) (v := .ref (a 40)) (C := RX12) (T := TX12) (N := 163) (fs := fM (vS a (fT (fT vi 21 s211) 22 p211) vj)) hx hb hts iwsRX12_beginFactor_in12 hown hK hP 0 rfl rfl 65 (by decide) (hts _ hm_r_X12_beginFactor_2) (fun _ h9 => h9) rfl dX12_beginFactor_28 ?_
      refine lv_iload_n hx hb dX12_beginFactor_31 rfl (lv_at hl 1 rfl) ?_
      refine lv_iconst (v := 1) hx hb dX12_beginFactor_32 (by decide) ?_
      refine va_iast (cA := k 40) (n := 120) (f := (vF 40)) hx hb hK hP hD hS 41 40 (WR_get 40 (by decide)) (TR_get 40 (by decide)) (vp_in_nI (show dN < 120 by omega) (by omega)) dX12_beginFactor_33 (fun H locs hP hD hS => ?_)
      have hP : va_P (dC, dI) vwCl (WR a k h0 (fT (fT vi 21 s211) 22 p211) vj (fT (fT vF 45 (upd (vF 45) ((nI dN)).toNatClampNeg (nI fn))) 40 (upd (vF 40) ((nI dN)).toNatClampNeg 1)) vG) H := fz_w (WR_F 40 (by decide) _ rfl) hP
      have hD : va_D A (WR a k h0 (fT (fT vi 21 s211) 22 p211) vj (fT (fT vF 45 (upd (vF 45) ((nI dN)).toNatClampNeg (nI fn))) 40 (upd (vF 40) ((nI dN)).toNatClampNeg 1)) vG) := fz_wD (WR_F 40 (by decide) _ rfl) hD
      refine lv_aload_n hx hb dX12_beginFactor_34 rfl (lv_at hl 0 rfl) ?_
      have hFc := allFree hD hS hA
      refine va_callv (va_runV (As := []) (rest := []) ⟨hx, hb, hml, hown, hts⟩ (r_X12_next l dC dI a k h0 (fT (fT vi 21 s211) 22 p211) vj (fT (fT vF 45 (upd (vF 45) ((nI dN)).toNatClampNeg (nI fn))) 40 (upd (vF 40) ((nI dN)).toNatClampNeg 1)) vG tp an hTp (by first | with_reducible assumption | decide | omega | rfl | assumption) ha0 (by first | with_reducible assumption | decide | omega | rfl | assumption) H.size) (cwV 0 hts gwsRX12_beginFactor_2 rfl rfl rfl hd_yX12_next_RX12 (by decide +kernel)) (fz_preE (va_recv hK hP (ci := 12) (q0 := 0) rfl rfl) hP hK hD (fun a U g mk qE => qE.same rfl) (fun U hU9 hW => by rw [hU9]; exact (((hE : StrA A s s.heap).kept hS.2.1).narrow (fun q h => hFc q h)).warm hW)) rfl rfl hl.1 rfl (lv_room (Nat.le_of_ble_eq_true rfl)) dX12_beginFactor_35 (by decide +kernel)) hS (fun q _ h => hFc q h) hFc (fun u t9_ H locs ht hvm hw9 hB9 hz1 hk1 hS => ?_)
      revert u hw9 hB9
      refine fz_p4 ?_
      intro a235 f235 sg35 wd35 hw9 hB9
      try dsimp only at hw9 hB9
      have hP : va_P (dC, dI) vwCl (WR a k h0 (fT (fT (fT (fT (fT (fT vi 21 s211) 22 p211) 17 (nI a235)) 19 (nI f235)) 20 sg35) 18 wd35) vj (fT (fT vF 45 (upd (vF 45) ((nI dN)).toNatClampNeg (nI fn))) 40 (upd (vF 40) ((nI dN)).toNatClampNeg 1)) vG) H := fz_P ht hB9.1
      have hD := fz_sd hP (hB9.2.weaken (fun _ q _ h => hFc q.1 h)) rfl
      revert hw9
      refine fz_a2 ?_
      intro f35_0 f35_1
      have hl1 := f35_0.1
      have hl2 := f35_0.2.1
      refine lv_aload_n hx hb dX12_beginFactor_38 rfl (lv_at hl 0 rfl) ?_
      refine lv_iconst (v := 1) hx hb dX12_beginFactor_39 (by decide) ?_
      have hFc := allFree hD hS hA
      refine va_callv (va_runV (As := [.int 1]) (rest := []) ⟨hx, hb, hml, hown, hts⟩ (r_X12_begin1 l dC dI a k h0 (fT (fT (fT (fT (fT (fT vi 21 s211) 22 p211) 17 (nI a235)) 19 (nI f235)) 20 sg35) 18 wd35) vj (fT (fT vF 45 (upd (vF 45) ((nI dN)).toNatClampNeg (nI fn))) 40 (upd (vF 40) ((nI dN)).toNatClampNeg 1)) vG 1 tp a235 f235 nm se pa va bd (dN + 1) wi hTp (by first | with_reducible assumption | decide | omega | rfl | assumption) rfl rfl (f35_0) ((show 0 ≤ (s211).toInt by rw [f11_0]; decide)) hnm (by first | with_reducible assumption | decide | omega | rfl | assumption) (by first | with_reducible assumption | decide | omega | rfl | assumption) (by first | with_reducible assumption | decide | omega | rfl | assumption) hbd (by first | with_reducible assumption | decide | omega | rfl | assumption) (by first | with_reducible assumption | decide | omega | rfl | assumption) (hdp) (by first | with_reducible assumption | decide | omega | rfl | assumption) hwi (by first | with_reducible assumption | decide | omega | rfl | assumption) H.size) (cwV 1 hts gwsRX12_beginFactor_3 rfl rfl rfl hd_yX12_begin1_RX12 (by decide +kernel)) (fz_pre (va_recv hK hP (ci := 12) (q0 := 0) rfl rfl) hP hK hD) rfl rfl hl.1 rfl (lv_room (Nat.le_of_ble_eq_true rfl)) dX12_beginFactor_40 (by decide +kernel)) hS (fun q _ h => hFc q h) hFc (fun u t9_ H locs ht hvm hw9 hB9 hz1 hk1 hS => ?_)
      revert u hw9 hB9
      refine fz_p10 ?_
      intro s240 p240 g3940 g4040 g4140 g4240 g4740 g4840 d240 w240 hw9 hB9
      try dsimp only at hw9 hB9
      have e9i : fT (fT (fT (fT (fT (fT (fT (fT vi 21 s240) 22 p240) 17 (nI a235)) 19 (nI f235)) 20 sg35) 18 wd35) 75 (nI w240)) 74 (nI d240) = fT (fT (fT (fT (fT (fT (fT (fT (fT (fT vi 21 s211) 22 p211) 17 (nI a235)) 19 (nI f235)) 20 sg35) 18 wd35) 75 (nI w240)) 74 (nI d240)) 21 s240) 22 p240 := Eq.symm (Eq.trans (congrArg (fun g9 => fT g9 22 p240) (up_7 rfl)) (up_6 rfl))
      have e9F : fT (fT (fT (fT (fT (fT (fT vF 45 (upd (vF 45) ((nI dN)).toNatClampNeg (nI fn))) 40 g4040) 39 g3940) 41 g4140) 42 g4240) 47 g4740) 48 g4840 = fT (fT (fT (fT (fT (fT (fT (fT vF 45 (upd (vF 45) ((nI dN)).toNatClampNeg (nI fn))) 40 (upd (vF 40) ((nI dN)).toNatClampNeg 1)) 39 g3940) 40 g4040) 41 g4140) 42 g4240) 47 g4740) 48 g4840 := (congrArg (fun g9 => fT (fT (fT (fT g9 41 g4140) 42 g4240) 47 g4740) 48 g4840) ((fT_sw _ _ _ (Nat.ne_of_beq_eq_false rfl)).trans (congrArg (fun g9 => fT g9 39 g3940) (fT_sm _ _ _ _)))).symm
      have hP := wr_PF e9F (wr_Pi e9i (fz_P ht hB9.1))
      have hD := wr_DF e9F (wr_Di e9i (hB9.2.weaken (fun _ q _ h => hFc q.1 h)))
      clear e9i e9F
      revert hw9
      refine fz_a4 ?_
      intro f40_0 f40_1 f40_2 f40_3
      have f40_1 : 0 < (s240).toInt ∨ (s240 = s211 ∧ BgO 1 wd35 sg35 g3940 g4040 g4140 g4240 g4840 (dN + 1) wi d240 w240) := f40_1
      have f40_2 : FrmO (dN + 1) (vF 39) (upd (vF 40) ((nI dN)).toNatClampNeg 1) (vF 41) (vF 42) (vF 48) g3940 g4040 g4140 g4240 g4840 := f40_2
      refine lv_goto (tgt := 218) hx hb dX12_beginFactor_43 (by decide) ?_
      refine W.widen (k := 0) (n := 0) (by decide +kernel) (by decide +kernel) ?_
      have e9 : fT (fT (fT (fT (fT (fT (fT (fT (fT (fT (fT (fT (fT vi 21 s240) 22 p240) 17 (nI a235)) 19 (nI f235)) 20 sg35) 18 wd35) 52 (nI nd)) 60 (nI bs)) 30 (nI bd)) 75 (nI w240)) 74 (nI d240)) 76 (vi 76)) 77 (vi 77) = fT (fT (fT (fT (fT (fT (fT (fT vi 21 s240) 22 p240) 17 (nI a235)) 19 (nI f235)) 20 sg35) 18 wd35) 75 (nI w240)) 74 (nI d240) := Eq.trans (mv_6 rfl) (Eq.trans (congrArg (fT _ 52) (show nI nd = vi 52 from (by first | with_reducible rfl | with_reducible assumption | (symm; with_reducible assumption) | rfl | assumption | (symm; assumption) | (subst_vars; rfl)))) (Eq.trans (id_12 rfl) (Eq.trans (mv_5 rfl) (Eq.trans (congrArg (fT _ 60) (show nI bs = vi 60 from (by first | with_reducible rfl | with_reducible assumption | (symm; with_reducible assumption) | rfl | assumption | (symm; assumption) | (subst_vars; rfl)))) (Eq.trans (id_11 rfl) (Eq.trans (mv_4 rfl) (Eq.trans (congrArg (fT _ 30) (show nI bd = vi 30 from (by first | with_reducible rfl | with_reducible assumption | (symm; with_reducible assumption) | rfl | assumption | (symm; assumption) | (subst_vars; rfl)))) (Eq.trans (id_10 rfl) (Eq.trans (mv_1 rfl) (Eq.trans (id_9 rfl) (id_8 rfl)))))))))))
      have hP := wr_Pi e9 hP
      have hD := wr_Di e9 hD
      clear e9
      have e9 : fT (fT (fT (fT (fT (fT (fT (fT (fT (fT (fT (fT (fT (fT (fT (fT (fT (fT (fT vF 45 (upd (vF 45) ((nI dN)).toNatClampNeg (nI fn))) 29 (vF 29)) 30 (vF 30)) 31 (vF 31)) 32 (vF 32)) 33 (vF 33)) 34 (vF 34)) 35 (vF 35)) 41 g4140) 38 (vF 38)) 37 (vF 37)) 14 (vF 14)) 15 (vF 15)) 36 (vF 36)) 40 g4040) 39 g3940) 42 g4240) 47 g4740) 48 g4840 = fT (fT (fT (fT (fT (fT (fT vF 45 (upd (vF 45) ((nI dN)).toNatClampNeg (nI fn))) 40 g4040) 39 g3940) 41 g4140) 42 g4240) 47 g4740) 48 g4840 := Eq.trans (mv_17 rfl) (Eq.trans (id_18 rfl) (Eq.trans (mv_16 rfl) (Eq.trans (id_17 rfl) (Eq.trans (mv_15 rfl) (Eq.trans (id_16 rfl) (Eq.trans (mv_14 rfl) (Eq.trans (id_15 rfl) (Eq.trans (mv_13 rfl) (Eq.trans (id_14 rfl) (Eq.trans (mv_12 rfl) (Eq.trans (id_13 rfl) (Eq.trans (mv_11 rfl) (Eq.trans (id_12 rfl) (Eq.trans (mv_9 rfl) (Eq.trans (id_11 rfl) (Eq.trans (mv_8 rfl) (Eq.trans (id_10 rfl) (Eq.trans (mv_7 rfl) (Eq.trans (id_9 rfl) (Eq.trans (mv_6 rfl) (Eq.trans (id_8 rfl) (Eq.trans (mv_5 rfl) (Eq.trans (id_7 rfl) (Eq.trans (mv_4 rfl) (Eq.trans (mv_4 rfl) (Eq.trans (mv_5 rfl) (Eq.trans (mv_5 rfl) (Eq.trans (mv_5 rfl) (mv_5 rfl)))))))))))))))))))))))))))))
      have hP := wr_PF e9 hP
      have hD := wr_DF e9 hD
      clear e9
      exact W.vret hx hb hr (fun t9_ ht hW => ⟨⟨(a235, f235, sg35, wd35, s240, p240, (vF 29), (vF 30), (vF 31), (vF 32), (vF 33), (vF 34), (vF 35), (vF 14), (vF 15), (vF 36), (vF 37), (vF 38), g3940, g4040, g4140, g4240, (upd (vF 45) ((nI dN)).toNatClampNeg (nI fn)), g4740, g4840, d240, w240, nd, bd, bs, (vi 76), (vi 77), gG), rfl, by (try dsimp only); exact ⟨f35_0, by omega, f40_0, by rcases f40_1 with h9 | h9; (exact Or.inl h9); (exact Or.inr ⟨RdS.push (gm := gl) hK0.1 hBel hK0.2.1 (Nat.le_refl _) (fun q hq => ⟨rfl, by rw [upd_at (by omega), if_neg (by omega)], rfl, rfl, rfl⟩) h39 (by decide) h48 (by omega) ⟨⟨by omega, fun _ => by omega, fun h8 => absurd h8 (by decide), by omega⟩, Or.inr (Or.inl ⟨rfl, rfl, by rw [upd_at (by omega), if_pos rfl], rfl, rfl, rfl⟩)⟩ f40_2 (by rw [← hwc]; exact h9.2) (show (1 : Int32) = nI 1 by decide) (by decide) (by omega) (by omega) (by omega) (by omega) (by omega) (by show 10 * (4000 - _) + dN + 1 + 1 ≤ mM - 1; omega), hK0.2.1.less (Nat.zero_le _)⟩), by omega, by omega, hbo⟩, by rw [ht]; exact hP, hD⟩, hS.F ht⟩) hS.2.2 dX12_beginFactor_218
    · have f21_0 : ¬ ((vi 18).toInt = 4 ∧ (vi 20) = 45) := f21_0
      refine lv_if_eq (tgt := 46) hx hb dX12_beginFactor_24 (by decide) (fun _ => ?_) (fun c9 => absurd (by decide) c9)
      refine lv_aload_n hx hb dX12_beginFactor_46 rfl (lv_at hl 0 rfl) ?_
      refine lv_bipush (v := 40) hx hb dX12_beginFactor_47 (by decide) ?_
      have hFc := allFree hD hS hA
      refine va_calli (va_runV (As := [.int 40]) (rest := []) ⟨hx, hb, hml, hown, hts⟩ (r_X12_isSign l dC dI a k h0 (fT (fT vi 21 s211) 22 p211) vj (fT vF 45 (upd (vF 45) ((nI dN)).toNatClampNeg (nI fn))) vG 40 H.size) (cwV 1 hts gwsRX12_beginFactor_1 rfl rfl rfl hd_yX12_isSign_RX12 (by decide +kernel)) (fz_pre (va_recv hK hP (ci := 12) (q0 := 0) rfl rfl) hP hK hD) rfl rfl hl.1 rfl (lv_room (Nat.le_of_ble_eq_true rfl)) dX12_beginFactor_49 (by decide +kernel)) hS (fun q _ h => hFc q h) hFc (fun r49 u t9_ H locs ht hvm hw9 hB9 hz1 hk1 hS => ?_)
      have hP : va_P (dC, dI) vwCl (WR a k h0 (fT (fT vi 21 s211) 22 p211) vj (fT vF 45 (upd (vF 45) ((nI dN)).toNatClampNeg (nI fn))) vG) H := fz_P ht hB9.1
      have hD := fz_sd hP (hB9.2.weaken (fun _ q _ h => hFc q.1 h)) rfl
      rcases hw9 with ⟨rfl, f49_0, f49_1⟩ | ⟨rfl, f49_0⟩
      · have f49_0 : (vi 18).toInt = 4 := f49_0
        have f49_1 : (vi 20) = 40 := f49_1
        refine lv_if_eq (tgt := 74) hx hb dX12_beginFactor_52 (by decide) (fun c9 => absurd c9 (by decide)) (fun _ => ?_)
        have hfl : fn < an := hLx.2.2.1.resolve_left (fun h => by first | (rw [h] at f49_0; exact absurd f49_0 (by decide)))
        refine lv_aload_n hx hb dX12_beginFactor_55 rfl (lv_at hl 0 rfl) ?_
        refine va_get (D := (dC, dI)) (ci := 12) (v := .ref (a 40)) (C := RX12) (T := TX12) (N := 163) (fs := fM (vS a (fT (fT vi 21 s211) 22 p211) vj)) hx hb hts iwsRX12_beginFactor_in12 hown hK hP 0 rfl rfl 65 (by decide) (hts _ hm_r_X12_beginFactor_2) (fun _ h9 => h9) rfl dX12_beginFactor_56 ?_
        refine lv_iload_n hx hb dX12_beginFactor_59 rfl (lv_at hl 1 rfl) ?_
        refine lv_iconst (v := 2) hx hb dX12_beginFactor_60 (by decide) ?_
        refine va_iast (cA := k 40) (n := 120) (f := (vF 40)) hx hb hK hP hD hS 41 40 (WR_get 40 (by decide)) (TR_get 40 (by decide)) (vp_in_nI (show dN < 120 by omega) (by omega)) dX12_beginFactor_61 (fun H locs hP hD hS => ?_)
        have hP : va_P (dC, dI) vwCl (WR a k h0 (fT (fT vi 21 s211) 22 p211) vj (fT (fT vF 45 (upd (vF 45) ((nI dN)).toNatClampNeg (nI fn))) 40 (upd (vF 40) ((nI dN)).toNatClampNeg 2)) vG) H := fz_w (WR_F 40 (by decide) _ rfl) hP
        have hD : va_D A (WR a k h0 (fT (fT vi 21 s211) 22 p211) vj (fT (fT vF 45 (upd (vF 45) ((nI dN)).toNatClampNeg (nI fn))) 40 (upd (vF 40) ((nI dN)).toNatClampNeg 2)) vG) := fz_wD (WR_F 40 (by decide) _ rfl) hD
        refine lv_aload_n hx hb dX12_beginFactor_62 rfl (lv_at hl 0 rfl) ?_
        have hFc := allFree hD hS hA
        refine va_callv (va_runV (As := []) (rest := []) ⟨hx, hb, hml, hown, hts⟩ (r_X12_next l dC dI a k h0 (fT (fT vi 21 s211) 22 p211) vj (fT (fT vF 45 (upd (vF 45) ((nI dN)).toNatClampNeg (nI fn))) 40 (upd (vF 40) ((nI dN)).toNatClampNeg 2)) vG tp an hTp (by first | with_reducible assumption | decide | omega | rfl | assumption) ha0 (by first | with_reducible assumption | decide | omega | rfl | assumption) H.size) (cwV 0 hts gwsRX12_beginFactor_2 rfl rfl rfl hd_yX12_next_RX12 (by decide +kernel)) (fz_preE (va_recv hK hP (ci := 12) (q0 := 0) rfl rfl) hP hK hD (fun a U g mk qE => qE.same rfl) (fun U hU9 hW => by rw [hU9]; exact (((hE : StrA A s s.heap).kept hS.2.1).narrow (fun q h => hFc q h)).warm hW)) rfl rfl hl.1 rfl (lv_room (Nat.le_of_ble_eq_true rfl)) dX12_beginFactor_63 (by decide +kernel)) hS (fun q _ h => hFc q h) hFc (fun u t9_ H locs ht hvm hw9 hB9 hz1 hk1 hS => ?_)
        revert u hw9 hB9
        refine fz_p4 ?_
        intro a263 f263 sg63 wd63 hw9 hB9
        try dsimp only at hw9 hB9
        have hP : va_P (dC, dI) vwCl (WR a k h0 (fT (fT (fT (fT (fT (fT vi 21 s211) 22 p211) 17 (nI a263)) 19 (nI f263)) 20 sg63) 18 wd63) vj (fT (fT vF 45 (upd (vF 45) ((nI dN)).toNatClampNeg (nI fn))) 40 (upd (vF 40) ((nI dN)).toNatClampNeg 2)) vG) H := fz_P ht hB9.1
        have hD := fz_sd hP (hB9.2.weaken (fun _ q _ h => hFc q.1 h)) rfl
        revert hw9
        refine fz_a2 ?_
        intro f63_0 f63_1
        have hl1 := f63_0.1
        have hl2 := f63_0.2.1
        refine lv_aload_n hx hb dX12_beginFactor_66 rfl (lv_at hl 0 rfl) ?_
        refine lv_iconst (v := 0) hx hb dX12_beginFactor_67 (by decide) ?_
        have hFc := allFree hD hS hA
        refine va_callv (va_runV (As := [.int 0]) (rest := []) ⟨hx, hb, hml, hown, hts⟩ (r_X12_begin1 l dC dI a k h0 (fT (fT (fT (fT (fT (fT vi 21 s211) 22 p211) 17 (nI a263)) 19 (nI f263)) 20 sg63) 18 wd63) vj (fT (fT vF 45 (upd (vF 45) ((nI dN)).toNatClampNeg (nI fn))) 40 (upd (vF 40) ((nI dN)).toNatClampNeg 2)) vG 0 tp a263 f263 nm se pa va bd (dN + 1) wi hTp (by first | with_reducible assumption | decide | omega | rfl | assumption) rfl rfl (f63_0) ((show 0 ≤ (s211).toInt by rw [f11_0]; decide)) hnm (by first | with_reducible assumption | decide | omega | rfl | assumption) (by first | with_reducible assumption | decide | omega | rfl | assumption) (by first | with_reducible assumption | decide | omega | rfl | assumption) hbd (by first | with_reducible assumption | decide | omega | rfl | assumption) (by first | with_reducible assumption | decide | omega | rfl | assumption) (hdp) (by first | with_reducible assumption | decide | omega | rfl | assumption) hwi (by first | with_reducible assumption | decide | omega | rfl | assumption) H.size) (cwV 1 hts gwsRX12_beginFactor_3 rfl rfl rfl hd_yX12_begin1_RX12 (by decide +kernel)) (fz_pre (va_recv hK hP (ci := 12) (q0 := 0) rfl rfl) hP hK hD) rfl rfl hl.1 rfl (lv_room (Nat.le_of_ble_eq_true rfl)) dX12_beginFactor_68 (by decide +kernel)) hS (fun q _ h => hFc q h) hFc (fun u t9_ H locs ht hvm hw9 hB9 hz1 hk1 hS => ?_)
        revert u hw9 hB9
        refine fz_p10 ?_
        intro s268 p268 g3968 g4068 g4168 g4268 g4768 g4868 d268 w268 hw9 hB9
        try dsimp only at hw9 hB9
        have e9i : fT (fT (fT (fT (fT (fT (fT (fT vi 21 s268) 22 p268) 17 (nI a263)) 19 (nI f263)) 20 sg63) 18 wd63) 75 (nI w268)) 74 (nI d268) = fT (fT (fT (fT (fT (fT (fT (fT (fT (fT vi 21 s211) 22 p211) 17 (nI a263)) 19 (nI f263)) 20 sg63) 18 wd63) 75 (nI w268)) 74 (nI d268)) 21 s268) 22 p268 := Eq.symm (Eq.trans (congrArg (fun g9 => fT g9 22 p268) (up_7 rfl)) (up_6 rfl))
        have e9F : fT (fT (fT (fT (fT (fT (fT vF 45 (upd (vF 45) ((nI dN)).toNatClampNeg (nI fn))) 40 g4068) 39 g3968) 41 g4168) 42 g4268) 47 g4768) 48 g4868 = fT (fT (fT (fT (fT (fT (fT (fT vF 45 (upd (vF 45) ((nI dN)).toNatClampNeg (nI fn))) 40 (upd (vF 40) ((nI dN)).toNatClampNeg 2)) 39 g3968) 40 g4068) 41 g4168) 42 g4268) 47 g4768) 48 g4868 := (congrArg (fun g9 => fT (fT (fT (fT g9 41 g4168) 42 g4268) 47 g4768) 48 g4868) ((fT_sw _ _ _ (Nat.ne_of_beq_eq_false rfl)).trans (congrArg (fun g9 => fT g9 39 g3968) (fT_sm _ _ _ _)))).symm
        have hP := wr_PF e9F (wr_Pi e9i (fz_P ht hB9.1))
        have hD := wr_DF e9F (wr_Di e9i (hB9.2.weaken (fun _ q _ h => hFc q.1 h)))
        clear e9i e9F
        revert hw9
        refine fz_a4 ?_
        intro f68_0 f68_1 f68_2 f68_3
        have f68_1 : 0 < (s268).toInt ∨ (s268 = s211 ∧ BgO 0 wd63 sg63 g3968 g4068 g4168 g4268 g4868 (dN + 1) wi d268 w268) := f68_1
        have f68_2 : FrmO (dN + 1) (vF 39) (upd (vF 40) ((nI dN)).toNatClampNeg 2) (vF 41) (vF 42) (vF 48) g3968 g4068 g4168 g4268 g4868 := f68_2
        refine lv_goto (tgt := 218) hx hb dX12_beginFactor_71 (by decide) ?_
        refine W.widen (k := 0) (n := 0) (by decide +kernel) (by decide +kernel) ?_
        have e9 : fT (fT (fT (fT (fT (fT (fT (fT (fT (fT (fT (fT (fT vi 21 s268) 22 p268) 17 (nI a263)) 19 (nI f263)) 20 sg63) 18 wd63) 52 (nI nd)) 60 (nI bs)) 30 (nI bd)) 75 (nI w268)) 74 (nI d268)) 76 (vi 76)) 77 (vi 77) = fT (fT (fT (fT (fT (fT (fT (fT vi 21 s268) 22 p268) 17 (nI a263)) 19 (nI f263)) 20 sg63) 18 wd63) 75 (nI w268)) 74 (nI d268) := Eq.trans (mv_6 rfl) (Eq.trans (congrArg (fT _ 52) (show nI nd = vi 52 from (by first | with_reducible rfl | with_reducible assumption | (symm; with_reducible assumption) | rfl | assumption | (symm; assumption) | (subst_vars; rfl)))) (Eq.trans (id_12 rfl) (Eq.trans (mv_5 rfl) (Eq.trans (congrArg (fT _ 60) (show nI bs = vi 60 from (by first | with_reducible rfl | with_reducible assumption | (symm; with_reducible assumption) | rfl | assumption | (symm; assumption) | (subst_vars; rfl)))) (Eq.trans (id_11 rfl) (Eq.trans (mv_4 rfl) (Eq.trans (congrArg (fT _ 30) (show nI bd = vi 30 from (by first | with_reducible rfl | with_reducible assumption | (symm; with_reducible assumption) | rfl | assumption | (symm; assumption) | (subst_vars; rfl)))) (Eq.trans (id_10 rfl) (Eq.trans (mv_1 rfl) (Eq.trans (id_9 rfl) (id_8 rfl)))))))))))
        have hP := wr_Pi e9 hP
        have hD := wr_Di e9 hD
        clear e9
        have e9 : fT (fT (fT (fT (fT (fT (fT (fT (fT (fT (fT (fT (fT (fT (fT (fT (fT (fT (fT vF 45 (upd (vF 45) ((nI dN)).toNatClampNeg (nI fn))) 29 (vF 29)) 30 (vF 30)) 31 (vF 31)) 32 (vF 32)) 33 (vF 33)) 34 (vF 34)) 35 (vF 35)) 41 g4168) 38 (vF 38)) 37 (vF 37)) 14 (vF 14)) 15 (vF 15)) 36 (vF 36)) 40 g4068) 39 g3968) 42 g4268) 47 g4768) 48 g4868 = fT (fT (fT (fT (fT (fT (fT vF 45 (upd (vF 45) ((nI dN)).toNatClampNeg (nI fn))) 40 g4068) 39 g3968) 41 g4168) 42 g4268) 47 g4768) 48 g4868 := Eq.trans (mv_17 rfl) (Eq.trans (id_18 rfl) (Eq.trans (mv_16 rfl) (Eq.trans (id_17 rfl) (Eq.trans (mv_15 rfl) (Eq.trans (id_16 rfl) (Eq.trans (mv_14 rfl) (Eq.trans (id_15 rfl) (Eq.trans (mv_13 rfl) (Eq.trans (id_14 rfl) (Eq.trans (mv_12 rfl) (Eq.trans (id_13 rfl) (Eq.trans (mv_11 rfl) (Eq.trans (id_12 rfl) (Eq.trans (mv_9 rfl) (Eq.trans (id_11 rfl) (Eq.trans (mv_8 rfl) (Eq.trans (id_10 rfl) (Eq.trans (mv_7 rfl) (Eq.trans (id_9 rfl) (Eq.trans (mv_6 rfl) (Eq.trans (id_8 rfl) (Eq.trans (mv_5 rfl) (Eq.trans (id_7 rfl) (Eq.trans (mv_4 rfl) (Eq.trans (mv_4 rfl) (Eq.trans (mv_5 rfl) (Eq.trans (mv_5 rfl) (Eq.trans (mv_5 rfl) (mv_5 rfl)))))))))))))))))))))))))))))
        have hP := wr_PF e9 hP
        have hD := wr_DF e9 hD
        clear e9
        exact W.vret hx hb hr (fun t9_ ht hW => ⟨⟨(a263, f263, sg63, wd63, s268, p268, (vF 29), (vF 30), (vF 31), (vF 32), (vF 33), (vF 34), (vF 35), (vF 14), (vF 15), (vF 36), (vF 37), (vF 38), g3968, g4068, g4168, g4268, (upd (vF 45) ((nI dN)).toNatClampNeg (nI fn)), g4768, g4868, d268, w268, nd, bd, bs, (vi 76), (vi 77), gG), rfl, by (try dsimp only); exact ⟨f63_0, by omega, f68_0, by rcases f68_1 with h9 | h9; (exact Or.inl h9); (exact Or.inr ⟨RdS.push (gm := gl) hK0.1 hBel hK0.2.1 (Nat.le_refl _) (fun q hq => ⟨rfl, by rw [upd_at (by omega), if_neg (by omega)], rfl, rfl, rfl⟩) h39 (by decide) h48 (by omega) ⟨⟨by omega, fun _ => by omega, fun h8 => absurd h8 (by decide), by omega⟩, Or.inr (Or.inr (Or.inl ⟨rfl, rfl, by rw [upd_at (by omega), if_pos rfl], rfl, rfl, rfl⟩))⟩ f68_2 (by rw [← hwc]; exact h9.2) (show (0 : Int32) = nI 0 by decide) (by decide) (by omega) (by omega) (by omega) (by omega) (by omega) (by show 10 * (4000 - _) + dN + 1 + 3 ≤ mM - 1; omega), hK0.2.1.less (Nat.zero_le _)⟩), by omega, by omega, hbo⟩, by rw [ht]; exact hP, hD⟩, hS.F ht⟩) hS.2.2 dX12_beginFactor_218
      · have f49_0 : ¬ ((vi 18).toInt = 4 ∧ (vi 20) = 40) := f49_0
        refine lv_if_eq (tgt := 74) hx hb dX12_beginFactor_52 (by decide) (fun _ => ?_) (fun c9 => absurd (by decide) c9)
        refine lv_aload_n hx hb dX12_beginFactor_74 rfl (lv_at hl 0 rfl) ?_
        refine va_get (D := (dC, dI)) (ci := 12) (v := .int (vi 18)) (C := RX12) (T := TX12) (N := 163) (fs := fM (vS a (fT (fT vi 21 s211) 22 p211) vj)) hx hb hts iwsRX12_beginFactor_in12 hown hK hP 0 rfl rfl 18 (by decide) (hts (.fieldLink RX12 494 "OptimaWorksModel" "word" "I") (by decide +kernel)) (fun _ h9 => h9) rfl dX12_beginFactor_75 ?_
        refine lv_iconst (v := 3) hx hb dX12_beginFactor_78 (by decide) ?_
        refine lv_icmp_ne (tgt := 110) hx hb dX12_beginFactor_79 (by decide) (fun c_79 => ?_) (fun c_79 => ?_)
        · have t_79 : ((vi 18)).toInt ≠ 3 := toI_ne c_79 rfl (by decide)
          refine lv_aload_n hx hb dX12_beginFactor_110 rfl (lv_at hl 0 rfl) ?_
          refine lv_bipush (v := 12) hx hb dX12_beginFactor_111 (by decide) ?_
          have hFc := allFree hD hS hA
          refine va_calli (va_runV (As := [.int 12]) (rest := []) ⟨hx, hb, hml, hown, hts⟩ (r_X12_isKey l dC dI a k h0 (fT (fT vi 21 s211) 22 p211) vj (fT vF 45 (upd (vF 45) ((nI dN)).toNatClampNeg (nI fn))) vG 12 H.size) (cwV 1 hts gwsRX12_beginFactor_4 rfl rfl rfl hd_yX12_isKey_RX12 (by decide +kernel)) (fz_pre (va_recv hK hP (ci := 12) (q0 := 0) rfl rfl) hP hK hD) rfl rfl hl.1 rfl (lv_room (Nat.le_of_ble_eq_true rfl)) dX12_beginFactor_113 (by decide +kernel)) hS (fun q _ h => hFc q h) hFc (fun r113 u t9_ H locs ht hvm hw9 hB9 hz1 hk1 hS => ?_)
          have hP : va_P (dC, dI) vwCl (WR a k h0 (fT (fT vi 21 s211) 22 p211) vj (fT vF 45 (upd (vF 45) ((nI dN)).toNatClampNeg (nI fn))) vG) H := fz_P ht hB9.1
          have hD := fz_sd hP (hB9.2.weaken (fun _ q _ h => hFc q.1 h)) rfl
          rcases hw9 with ⟨rfl, f113_0, f113_1⟩ | ⟨rfl, f113_0⟩
          · have f113_0 : (vi 18).toInt = 2 := f113_0
            have f113_1 : (vi 20) = 12 := f113_1
            refine lv_if_eq (tgt := 213) hx hb dX12_beginFactor_116 (by decide) (fun c9 => absurd c9 (by decide)) (fun _ => ?_)
            have hfl : fn < an := hLx.2.2.1.resolve_left (fun h => by first | (rw [h] at f113_0; exact absurd f113_0 (by decide)))
            refine lv_aload_n hx hb dX12_beginFactor_119 rfl (lv_at hl 0 rfl) ?_
            have hFc := allFree hD hS hA
            refine va_callv (va_runV (As := []) (rest := []) ⟨hx, hb, hml, hown, hts⟩ (r_X12_next l dC dI a k h0 (fT (fT vi 21 s211) 22 p211) vj (fT vF 45 (upd (vF 45) ((nI dN)).toNatClampNeg (nI fn))) vG tp an hTp (by first | with_reducible assumption | decide | omega | rfl | assumption) ha0 (by first | with_reducible assumption | decide | omega | rfl | assumption) H.size) (cwV 0 hts gwsRX12_beginFactor_2 rfl rfl rfl hd_yX12_next_RX12 (by decide +kernel)) (fz_preE (va_recv hK hP (ci := 12) (q0 := 0) rfl rfl) hP hK hD (fun a U g mk qE => qE.same rfl) (fun U hU9 hW => by rw [hU9]; exact (((hE : StrA A s s.heap).kept hS.2.1).narrow (fun q h => hFc q h)).warm hW)) rfl rfl hl.1 rfl (lv_room (Nat.le_of_ble_eq_true rfl)) dX12_beginFactor_120 (by decide +kernel)) hS (fun q _ h => hFc q h) hFc (fun u t9_ H locs ht hvm hw9 hB9 hz1 hk1 hS => ?_)
            revert u hw9 hB9
            refine fz_p4 ?_
            intro a2120 f2120 sg120 wd120 hw9 hB9
            try dsimp only at hw9 hB9
            have hP : va_P (dC, dI) vwCl (WR a k h0 (fT (fT (fT (fT (fT (fT vi 21 s211) 22 p211) 17 (nI a2120)) 19 (nI f2120)) 20 sg120) 18 wd120) vj (fT vF 45 (upd (vF 45) ((nI dN)).toNatClampNeg (nI fn))) vG) H := fz_P ht hB9.1
            have hD := fz_sd hP (hB9.2.weaken (fun _ q _ h => hFc q.1 h)) rfl
            revert hw9
            refine fz_a2 ?_
            intro f120_0 f120_1
            have hl1 := f120_0.1
            have hl2 := f120_0.2.1
            refine lv_aload_n hx hb dX12_beginFactor_123 rfl (lv_at hl 0 rfl) ?_
            refine lv_bipush (v := 123) hx hb dX12_beginFactor_124 (by decide) ?_
            have hFc := allFree hD hS hA
            refine va_calli (va_runV (As := [.int 123]) (rest := []) ⟨hx, hb, hml, hown, hts⟩ (r_X12_needSign l dC dI a k h0 (fT (fT (fT (fT (fT (fT vi 21 s211) 22 p211) 17 (nI a2120)) 19 (nI f2120)) 20 sg120) 18 wd120) vj (fT vF 45 (upd (vF 45) ((nI dN)).toNatClampNeg (nI fn))) vG 123 tp a2120 f2120 hTp (by first | with_reducible assumption | decide | omega | rfl | assumption) rfl rfl (f120_0) ((show 0 ≤ (s211).toInt by rw [f11_0]; decide)) H.size) (cwV 1 hts gwsRX12_beginFactor_5 rfl rfl rfl hd_yX12_needSign_RX12 (by decide +kernel)) (fz_preE (va_recv hK hP (ci := 12) (q0 := 0) rfl rfl) hP hK hD (fun a U g mk qE => qE.same rfl) (fun U hU9 hW => by rw [hU9]; exact (((hE : StrA A s s.heap).kept hS.2.1).narrow (fun q h => hFc q h)).warm hW)) rfl rfl hl.1 rfl (lv_room (Nat.le_of_ble_eq_true rfl)) dX12_beginFactor_126 (by decide +kernel)) hS (fun q _ h => hFc q h) hFc (fun r126 u t9_ H locs ht hvm hw9 hB9 hz1 hk1 hS => ?_)
            revert u hw9 hB9
            refine fz_p6 ?_
            intro a2126 f2126 sg126 wd126 s2126 p2126 hw9 hB9
            try dsimp only at hw9 hB9
            have e9i : fT (fT (fT (fT (fT (fT vi 21 s2126) 22 p2126) 17 (nI a2126)) 19 (nI f2126)) 20 sg126) 18 wd126 = fT (fT (fT (fT (fT (fT (fT (fT (fT (fT (fT (fT vi 21 s211) 22 p211) 17 (nI a2120)) 19 (nI f2120)) 20 sg120) 18 wd120) 17 (nI a2126)) 19 (nI f2126)) 20 sg126) 18 wd126) 21 s2126) 22 p2126 := Eq.symm (Eq.trans (congrArg (fun g9 => fT g9 22 p2126) (Eq.trans (congrArg (fun g9 => fT g9 21 s2126) (Eq.trans (congrArg (fun g9 => fT g9 18 wd126) (Eq.trans (congrArg (fun g9 => fT g9 20 sg126) (Eq.trans (congrArg (fun g9 => fT g9 19 (nI f2126)) (up_3 rfl)) (up_2 rfl))) (up_1 rfl))) (up_0 rfl))) (up_5 rfl))) (up_4 rfl))
            have hP := wr_Pi e9i (fz_P ht hB9.1)
            have hD := wr_Di e9i (hB9.2.weaken (fun _ q _ h => hFc q.1 h))
            clear e9i
            rcases hw9 with ⟨rfl, f126_0, f126_1, f126_2, f126_3⟩ | ⟨rfl, f126_0, f126_1, f126_2⟩
            · have f126_3 : s211 = 0 := f126_3
              refine lv_if_ne (tgt := 133) hx hb dX12_beginFactor_129 (by decide) (fun _ => ?_) (fun c9 => absurd c9 (by decide))
              have hl3 := f126_1.1
              have hl4 := f126_1.2.1
              have hKN := hK0.node (kv := 9) (av := 0) (bv := -1) (cv := 0) (by omega)
              refine lv_aload_n hx hb dX12_beginFactor_133 rfl (lv_at hl 0 rfl) ?_
              refine va_get (D := (dC, dI)) (ci := 12) (v := .ref (a 41)) (C := RX12) (T := TX12) (N := 163) (fs := fM (vS a (fT (fT (fT (fT (fT (fT vi 21 s2126) 22 p2126) 17 (nI a2126)) 19 (nI f2126)) 20 sg126) 18 wd126) vj)) hx hb hts iwsRX12_beginFactor_in12 hown hK hP 0 rfl rfl 66 (by decide) (hts _ hm_r_X12_beginFactor_3) (fun _ h9 => h9) rfl dX12_beginFactor_134 ?_
              refine lv_iload_n hx hb dX12_beginFactor_137 rfl (lv_at hl 1 rfl) ?_
              refine lv_aload_n hx hb dX12_beginFactor_138 rfl (lv_at hl 0 rfl) ?_
              refine lv_bipush (v := 9) hx hb dX12_beginFactor_139 (by decide) ?_
              refine lv_iconst (v := 0) hx hb dX12_beginFactor_141 (by decide) ?_
              refine lv_iconst (v := (-1)) hx hb dX12_beginFactor_142 (by decide) ?_
              refine lv_iconst (v := 0) hx hb dX12_beginFactor_143 (by decide) ?_
              refine lv_aload_n hx hb dX12_beginFactor_144 rfl (lv_at hl 0 rfl) ?_
              refine va_get (D := (dC, dI)) (ci := 12) (v := .ref (a 45)) (C := RX12) (T := TX12) (N := 163) (fs := fM (vS a (fT (fT (fT (fT (fT (fT vi 21 s2126) 22 p2126) 17 (nI a2126)) 19 (nI f2126)) 20 sg126) 18 wd126) vj)) hx hb hts iwsRX12_beginFactor_in12 hown hK hP 0 rfl rfl 70 (by decide) (hts _ hm_r_X12_beginFactor_0) (fun _ h9 => h9) rfl dX12_beginFactor_145 ?_
              refine lv_iload_n hx hb dX12_beginFactor_148 rfl (lv_at hl 1 rfl) ?_
              refine va_iald (cA := k 45) (n := 120) (f := (upd (vF 45) ((nI dN)).toNatClampNeg (nI fn))) hx hb hK hP 46 45 (WR_get 45 (by decide)) (TR_get 45 (by decide)) (vp_in_nI (show dN < 120 by omega) (by omega)) dX12_beginFactor_149 ?_
              refine lv_topi (fun y2 hy2 => ?_)
              obtain rfl : ((upd (vF 45) ((nI dN)).toNatClampNeg (nI fn)) dN) = y2 := (hy2.trans (by rw [nI_clamp (by omega)])).symm
              have hFc := allFree hD hS hA
              refine va_calli (va_runV (As := [.int 9, .int 0, .int (-1), .int 0, .int ((upd (vF 45) ((nI dN)).toNatClampNeg (nI fn)) dN)]) (rest := [.int (nI dN), .ref (a 41)]) ⟨hx, hb, hml, hown, hts⟩ (r_X12_node l dC dI a k h0 (fT (fT (fT (fT (fT (fT vi 21 s2126) 22 p2126) 17 (nI a2126)) 19 (nI f2126)) 20 sg126) 18 wd126) vj (fT vF 45 (upd (vF 45) ((nI dN)).toNatClampNeg (nI fn))) vG nd 9 0 (-1) 0 ((upd (vF 45) ((nI dN)).toNatClampNeg (nI fn)) dN) hnd (by first | with_reducible assumption | decide | omega | rfl | assumption) H.size) (cwV 5 hts gwsRX12_beginFactor_6 rfl rfl rfl hd_yX12_node_RX12 (by decide +kernel)) (fz_pre (va_recv hK hP (ci := 12) (q0 := 0) rfl rfl) hP hK hD) rfl rfl hl.1 rfl (lv_room (Nat.le_of_ble_eq_true rfl)) dX12_beginFactor_150 (by decide +kernel)) hS (fun q _ h => hFc q h) hFc (fun r150 u t9_ H locs ht hvm hw9 hB9 hz1 hk1 hS => ?_)
              have hP : va_P (dC, dI) vwCl (WR a k h0 (fT (fT (fT (fT (fT (fT (fT vi 21 s2126) 22 p2126) 17 (nI a2126)) 19 (nI f2126)) 20 sg126) 18 wd126) 52 (nI (nd + 1))) vj (fT (fT (fT (fT (fT (fT (fT (fT vF 45 (upd (vF 45) ((nI dN)).toNatClampNeg (nI fn))) 29 (upd (vF 29) (nI nd).toNatClampNeg 9)) 30 (upd (vF 30) (nI nd).toNatClampNeg 0)) 31 (upd (vF 31) (nI nd).toNatClampNeg (-1))) 32 (upd (vF 32) (nI nd).toNatClampNeg 0)) 33 (upd (vF 33) (nI nd).toNatClampNeg ((upd (vF 45) ((nI dN)).toNatClampNeg (nI fn)) dN))) 34 (upd (vF 34) (nI nd).toNatClampNeg 0)) 35 (upd (vF 35) (nI nd).toNatClampNeg 0)) vG) H := fz_P ht hB9.1
              have hD := fz_sd hP (hB9.2.weaken (fun _ q _ h => hFc q.1 h)) rfl
              obtain rfl := hw9
              refine va_iast (cA := k 41) (n := 120) (f := (vF 41)) hx hb hK hP hD hS 42 41 (WR_get 41 (by decide)) (TR_get 41 (by decide)) (vp_in_nI (show dN < 120 by omega) (by omega)) dX12_beginFactor_153 (fun H locs hP hD hS => ?_)
              have hP : va_P (dC, dI) vwCl (WR a k h0 (fT (fT (fT (fT (fT (fT (fT vi 21 s2126) 22 p2126) 17 (nI a2126)) 19 (nI f2126)) 20 sg126) 18 wd126) 52 (nI (nd + 1))) vj (fT (fT (fT (fT (fT (fT (fT (fT (fT vF 45 (upd (vF 45) ((nI dN)).toNatClampNeg (nI fn))) 29 (upd (vF 29) (nI nd).toNatClampNeg 9)) 30 (upd (vF 30) (nI nd).toNatClampNeg 0)) 31 (upd (vF 31) (nI nd).toNatClampNeg (-1))) 32 (upd (vF 32) (nI nd).toNatClampNeg 0)) 33 (upd (vF 33) (nI nd).toNatClampNeg ((upd (vF 45) ((nI dN)).toNatClampNeg (nI fn)) dN))) 34 (upd (vF 34) (nI nd).toNatClampNeg 0)) 35 (upd (vF 35) (nI nd).toNatClampNeg 0)) 41 (upd (vF 41) ((nI dN)).toNatClampNeg (nI nd))) vG) H := fz_w (WR_F 41 (by decide) _ rfl) hP
              have hD : va_D A (WR a k h0 (fT (fT (fT (fT (fT (fT (fT vi 21 s2126) 22 p2126) 17 (nI a2126)) 19 (nI f2126)) 20 sg126) 18 wd126) 52 (nI (nd + 1))) vj (fT (fT (fT (fT (fT (fT (fT (fT (fT vF 45 (upd (vF 45) ((nI dN)).toNatClampNeg (nI fn))) 29 (upd (vF 29) (nI nd).toNatClampNeg 9)) 30 (upd (vF 30) (nI nd).toNatClampNeg 0)) 31 (upd (vF 31) (nI nd).toNatClampNeg (-1))) 32 (upd (vF 32) (nI nd).toNatClampNeg 0)) 33 (upd (vF 33) (nI nd).toNatClampNeg ((upd (vF 45) ((nI dN)).toNatClampNeg (nI fn)) dN))) 34 (upd (vF 34) (nI nd).toNatClampNeg 0)) 35 (upd (vF 35) (nI nd).toNatClampNeg 0)) 41 (upd (vF 41) ((nI dN)).toNatClampNeg (nI nd))) vG) := fz_wD (WR_F 41 (by decide) _ rfl) hD
              refine lv_aload_n hx hb dX12_beginFactor_154 rfl (lv_at hl 0 rfl) ?_
              refine va_get (D := (dC, dI)) (ci := 12) (v := .ref (a 30)) (C := RX12) (T := TX12) (N := 163) (fs := fM (vS a (fT (fT (fT (fT (fT (fT (fT vi 21 s2126) 22 p2126) 17 (nI a2126)) 19 (nI f2126)) 20 sg126) 18 wd126) 52 (nI (nd + 1))) vj)) hx hb hts iwsRX12_beginFactor_in12 hown hK hP 0 rfl rfl 54 (by decide) (hts (.fieldLink RX12 113 "OptimaWorksModel" "partA" "[I") (by decide +kernel)) (fun _ h9 => h9) rfl dX12_beginFactor_155 ?_
              refine lv_aload_n hx hb dX12_beginFactor_158 rfl (lv_at hl 0 rfl) ?_
              refine va_get (D := (dC, dI)) (ci := 12) (v := .ref (a 41)) (C := RX12) (T := TX12) (N := 163) (fs := fM (vS a (fT (fT (fT (fT (fT (fT (fT vi 21 s2126) 22 p2126) 17 (nI a2126)) 19 (nI f2126)) 20 sg126) 18 wd126) 52 (nI (nd + 1))) vj)) hx hb hts iwsRX12_beginFactor_in12 hown hK hP 0 rfl rfl 66 (by decide) (hts _ hm_r_X12_beginFactor_3) (fun _ h9 => h9) rfl dX12_beginFactor_159 ?_
              refine lv_iload_n hx hb dX12_beginFactor_162 rfl (lv_at hl 1 rfl) ?_
              refine va_iald (cA := k 41) (n := 120) (f := (upd (vF 41) ((nI dN)).toNatClampNeg (nI nd))) hx hb hK hP 42 41 (WR_get 41 (by decide)) (TR_get 41 (by decide)) (vp_in_nI (show dN < 120 by omega) (by omega)) dX12_beginFactor_163 ?_
              refine lv_topi (fun y3 hy3 => ?_)
              obtain rfl : ((upd (vF 41) ((nI dN)).toNatClampNeg (nI nd)) dN) = y3 := (hy3.trans (by rw [nI_clamp (by omega)])).symm
              refine lv_topi (fun y4 hy4 => ?_)
              obtain rfl : (nI nd) = y4 := (hy4.trans (by rw [upd_at (by omega), if_pos rfl])).symm
              refine lv_aload_n hx hb dX12_beginFactor_164 rfl (lv_at hl 0 rfl) ?_
              have hFc := allFree hD hS hA
              refine va_calli (va_runV (As := []) (rest := [.int (nI nd), .ref (a 30)]) ⟨hx, hb, hml, hown, hts⟩ (r_X12_readBinding l dC dI a k h0 (fT (fT (fT (fT (fT (fT (fT vi 21 s2126) 22 p2126) 17 (nI a2126)) 19 (nI f2126)) 20 sg126) 18 wd126) 52 (nI (nd + 1))) vj (fT (fT (fT (fT (fT (fT (fT (fT (fT vF 45 (upd (vF 45) ((nI dN)).toNatClampNeg (nI fn))) 29 (upd (vF 29) (nI nd).toNatClampNeg 9)) 30 (upd (vF 30) (nI nd).toNatClampNeg 0)) 31 (upd (vF 31) (nI nd).toNatClampNeg (-1))) 32 (upd (vF 32) (nI nd).toNatClampNeg 0)) 33 (upd (vF 33) (nI nd).toNatClampNeg ((upd (vF 45) ((nI dN)).toNatClampNeg (nI fn)) dN))) 34 (upd (vF 34) (nI nd).toNatClampNeg 0)) 35 (upd (vF 35) (nI nd).toNatClampNeg 0)) 41 (upd (vF 41) ((nI dN)).toNatClampNeg (nI nd))) vG tp a2126 f2126 nm se pa va bd bs hTp (by first | with_reducible assumption | decide | omega | rfl | assumption) rfl rfl (f126_1) ((show 0 ≤ (s2126).toInt by rw [f126_0]; decide)) hnm (by first | with_reducible assumption | decide | omega | rfl | assumption) (by first | with_reducible assumption | decide | omega | rfl | assumption) (by first | with_reducible assumption | decide | omega | rfl | assumption) hbd ((by omega)) (by first | with_reducible assumption | decide | omega | rfl | assumption) (by first | with_reducible assumption | decide | omega | rfl | assumption) hbs (by first | with_reducible assumption | decide | omega | rfl | assumption) H.size) (cwV 0 hts gwsRX12_beginFactor_7 rfl rfl rfl hd_yX12_readBinding_RX12 (by decide +kernel)) (fz_preE (va_recv hK hP (ci := 12) (q0 := 0) rfl rfl) hP hK hD (fun a U g mk qE => qE.same rfl) (fun U hU9 hW => by rw [hU9]; exact (((hE : StrA A s s.heap).kept hS.2.1).narrow (fun q h => hFc q h)).warm hW)) rfl rfl hl.1 rfl (lv_room (Nat.le_of_ble_eq_true rfl)) dX12_beginFactor_165 (by decide +kernel)) hS (fun q _ h => hFc q h) hFc (fun r165 u t9_ H locs ht hvm hw9 hB9 hz1 hk1 hS => ?_)
              revert u hw9 hB9
              refine fz_p12 ?_
              intro a2165 f2165 sg165 wd165 s2165 p2165 b2165 g14165 g15165 g36165 g37165 g38165 hw9 hB9
              try dsimp only at hw9 hB9
              have e9i : fT (fT (fT (fT (fT (fT (fT (fT (fT vi 21 s2165) 22 p2165) 17 (nI a2165)) 19 (nI f2165)) 20 sg165) 18 wd165) 52 (nI (nd + 1))) 60 (nI (bs + 1))) 30 (nI b2165) = fT (fT (fT (fT (fT (fT (fT (fT (fT (fT (fT (fT (fT (fT (fT vi 21 s2126) 22 p2126) 17 (nI a2126)) 19 (nI f2126)) 20 sg126) 18 wd126) 52 (nI (nd + 1))) 60 (nI (bs + 1))) 21 s2165) 22 p2165) 17 (nI a2165)) 19 (nI f2165)) 20 sg165) 18 wd165) 30 (nI b2165) := Eq.symm (congrArg (fun g9 => fT g9 30 (nI b2165)) (Eq.trans (congrArg (fun g9 => fT g9 18 wd165) (Eq.trans (congrArg (fun g9 => fT g9 20 sg165) (Eq.trans (congrArg (fun g9 => fT g9 19 (nI f2165)) (Eq.trans (congrArg (fun g9 => fT g9 17 (nI a2165)) (Eq.trans (congrArg (fun g9 => fT g9 22 p2165) (up_7 rfl)) (up_6 rfl))) (up_5 rfl))) (up_4 rfl))) (up_3 rfl))) (up_2 rfl)))
              have hP := wr_Pi e9i (fz_P ht hB9.1)
              have hD := wr_Di e9i (hB9.2.weaken (fun _ q _ h => hFc q.1 h))
              clear e9i
              obtain ⟨rfl, f165_0, f165_1, f165_2, f165_3, f165_4, f165_5, f165_6⟩ := hw9
              have f165_5 : ∀ b, b ≠ bs → g36165 b = (vF 36) b ∧ g37165 b = (vF 37) b ∧ g38165 b = (vF 38) b := f165_5
              refine va_iast (cA := k 30) (n := 4200) (f := (upd (vF 30) (nI nd).toNatClampNeg 0)) hx hb hK hP hD hS 31 30 (WR_get 30 (by decide)) (TR_get 30 (by decide)) (vp_in_nI (show nd < 4200 by omega) (by omega)) dX12_beginFactor_168 (fun H locs hP hD hS => ?_)
              have e9 : fT (fT (fT (fT (fT (fT (fT (fT (fT (fT (fT (fT (fT (fT vF 45 (upd (vF 45) ((nI dN)).toNatClampNeg (nI fn))) 29 (upd (vF 29) (nI nd).toNatClampNeg 9)) 30 (upd (upd (vF 30) (nI nd).toNatClampNeg 0) ((nI nd)).toNatClampNeg (nI bs))) 31 (upd (vF 31) (nI nd).toNatClampNeg (-1))) 32 (upd (vF 32) (nI nd).toNatClampNeg 0)) 33 (upd (vF 33) (nI nd).toNatClampNeg ((upd (vF 45) ((nI dN)).toNatClampNeg (nI fn)) dN))) 34 (upd (vF 34) (nI nd).toNatClampNeg 0)) 35 (upd (vF 35) (nI nd).toNatClampNeg 0)) 41 (upd (vF 41) ((nI dN)).toNatClampNeg (nI nd))) 38 g38165) 37 g37165) 14 g14165) 15 g15165) 36 g36165 = fT (fT (fT (fT (fT (fT (fT (fT (fT (fT (fT (fT (fT (fT (fT vF 45 (upd (vF 45) ((nI dN)).toNatClampNeg (nI fn))) 29 (upd (vF 29) (nI nd).toNatClampNeg 9)) 30 (upd (vF 30) (nI nd).toNatClampNeg 0)) 31 (upd (vF 31) (nI nd).toNatClampNeg (-1))) 32 (upd (vF 32) (nI nd).toNatClampNeg 0)) 33 (upd (vF 33) (nI nd).toNatClampNeg ((upd (vF 45) ((nI dN)).toNatClampNeg (nI fn)) dN))) 34 (upd (vF 34) (nI nd).toNatClampNeg 0)) 35 (upd (vF 35) (nI nd).toNatClampNeg 0)) 41 (upd (vF 41) ((nI dN)).toNatClampNeg (nI nd))) 38 g38165) 37 g37165) 14 g14165) 15 g15165) 36 g36165) 30 (upd (upd (vF 30) (nI nd).toNatClampNeg 0) ((nI nd)).toNatClampNeg (nI bs)) := Eq.symm (up_11 rfl)
              have hP := wr_PF e9 (fz_w (WR_F 30 (by decide) _ rfl) hP)
              have hD := wr_DF e9 (fz_wD (WR_F 30 (by decide) _ rfl) hD)
              clear e9
              refine lv_aload_n hx hb dX12_beginFactor_169 rfl (lv_at hl 0 rfl) ?_
              refine va_get (D := (dC, dI)) (ci := 12) (v := .int s2165) (C := RX12) (T := TX12) (N := 163) (fs := fM (vS a (fT (fT (fT (fT (fT (fT (fT (fT (fT vi 21 s2165) 22 p2165) 17 (nI a2165)) 19 (nI f2165)) 20 sg165) 18 wd165) 52 (nI (nd + 1))) 60 (nI (bs + 1))) 30 (nI b2165)) vj)) hx hb hts iwsRX12_beginFactor_in12 hown hK hP 0 rfl rfl 21 (by decide) (hts (.fieldLink RX12 515 "OptimaWorksModel" "stop" "I") (by decide +kernel)) (fun _ h9 => h9) rfl dX12_beginFactor_170 ?_
              refine lv_if_le (tgt := 177) hx hb dX12_beginFactor_173 (by decide) (fun c_173 => ?_) (fun c_173 => ?_)
              · have t_173 : (s2165).toInt ≤ 0 := toI_le c_173 rfl (by decide)
                have hbn6 := f165_6.resolve_left (by omega)
                have hKB := hKN.1.b30 (n := nd) (v := nI bs) hK0.nv (by omega)
                have hEB := hKN.2.1.b30 (n := nd) (v := nI bs) hK0.2.2.2 (by omega)
                have hV5 := hKB.keep (g36 := g36165) (g37 := g37165) (g38 := g38165) (fun _ _ => ⟨rfl, rfl, rfl, rfl⟩) (fun b hb => f165_5 b (by omega)) (Nat.le_refl _) (Nat.le_succ bs)
                have hE5 : Ext gl bs gG (vF 29) (vF 30) (vF 31) (vF 32) (vF 36) (vF 37) (vF 38) gG _ _ _ _ g36165 g37165 g38165 := ⟨hEB.1, hEB.2.1, hEB.2.2.1, fun b hb => f165_5 b (by omega)⟩
                have hlg := f165_0.1
                have hlh := f165_0.2.1
                refine lv_aload_n hx hb dX12_beginFactor_177 rfl (lv_at hl 0 rfl) ?_
                refine lv_bipush (v := 8) hx hb dX12_beginFactor_178 (by decide) ?_
                have hFc := allFree hD hS hA
                refine va_calli (va_runV (As := [.int 8]) (rest := []) ⟨hx, hb, hml, hown, hts⟩ (r_X12_isKey l dC dI a k h0 (fT (fT (fT (fT (fT (fT (fT (fT (fT vi 21 s2165) 22 p2165) 17 (nI a2165)) 19 (nI f2165)) 20 sg165) 18 wd165) 52 (nI (nd + 1))) 60 (nI (bs + 1))) 30 (nI b2165)) vj (fT (fT (fT (fT (fT (fT (fT (fT (fT (fT (fT (fT (fT (fT vF 45 (upd (vF 45) ((nI dN)).toNatClampNeg (nI fn))) 29 (upd (vF 29) (nI nd).toNatClampNeg 9)) 30 (upd (upd (vF 30) (nI nd).toNatClampNeg 0) ((nI nd)).toNatClampNeg (nI bs))) 31 (upd (vF 31) (nI nd).toNatClampNeg (-1))) 32 (upd (vF 32) (nI nd).toNatClampNeg 0)) 33 (upd (vF 33) (nI nd).toNatClampNeg ((upd (vF 45) ((nI dN)).toNatClampNeg (nI fn)) dN))) 34 (upd (vF 34) (nI nd).toNatClampNeg 0)) 35 (upd (vF 35) (nI nd).toNatClampNeg 0)) 41 (upd (vF 41) ((nI dN)).toNatClampNeg (nI nd))) 38 g38165) 37 g37165) 14 g14165) 15 g15165) 36 g36165) vG 8 H.size) (cwV 1 hts gwsRX12_beginFactor_4 rfl rfl rfl hd_yX12_isKey_RX12 (by decide +kernel)) (fz_pre (va_recv hK hP (ci := 12) (q0 := 0) rfl rfl) hP hK hD) rfl rfl hl.1 rfl (lv_room (Nat.le_of_ble_eq_true rfl)) dX12_beginFactor_180 (by decide +kernel)) hS (fun q _ h => hFc q h) hFc (fun r180 u t9_ H locs ht hvm hw9 hB9 hz1 hk1 hS => ?_)
                have hP : va_P (dC, dI) vwCl (WR a k h0 (fT (fT (fT (fT (fT (fT (fT (fT (fT vi 21 s2165) 22 p2165) 17 (nI a2165)) 19 (nI f2165)) 20 sg165) 18 wd165) 52 (nI (nd + 1))) 60 (nI (bs + 1))) 30 (nI b2165)) vj (fT (fT (fT (fT (fT (fT (fT (fT (fT (fT (fT (fT (fT (fT vF 45 (upd (vF 45) ((nI dN)).toNatClampNeg (nI fn))) 29 (upd (vF 29) (nI nd).toNatClampNeg 9)) 30 (upd (upd (vF 30) (nI nd).toNatClampNeg 0) ((nI nd)).toNatClampNeg (nI bs))) 31 (upd (vF 31) (nI nd).toNatClampNeg (-1))) 32 (upd (vF 32) (nI nd).toNatClampNeg 0)) 33 (upd (vF 33) (nI nd).toNatClampNeg ((upd (vF 45) ((nI dN)).toNatClampNeg (nI fn)) dN))) 34 (upd (vF 34) (nI nd).toNatClampNeg 0)) 35 (upd (vF 35) (nI nd).toNatClampNeg 0)) 41 (upd (vF 41) ((nI dN)).toNatClampNeg (nI nd))) 38 g38165) 37 g37165) 14 g14165) 15 g15165) 36 g36165) vG) H := fz_P ht hB9.1
                have hD := fz_sd hP (hB9.2.weaken (fun _ q _ h => hFc q.1 h)) rfl
                rcases hw9 with ⟨rfl, f180_0, f180_1⟩ | ⟨rfl, f180_0⟩
                · have f180_0 : wd165.toInt = 2 := f180_0
                  have f180_1 : sg165 = 8 := f180_1
                  refine lv_if_eq (tgt := 205) hx hb dX12_beginFactor_183 (by decide) (fun c9 => absurd c9 (by decide)) (fun _ => ?_)
                  have hfl9 : f2165 < a2165 := f165_0.2.2.1.resolve_left (fun h => by rw [h] at f180_0; exact absurd f180_0 (by decide))
                  refine lv_aload_n hx hb dX12_beginFactor_186 rfl (lv_at hl 0 rfl) ?_
                  have hFc := allFree hD hS hA
                  refine va_callv (va_runV (As := []) (rest := []) ⟨hx, hb, hml, hown, hts⟩ (r_X12_next l dC dI a k h0 (fT (fT (fT (fT (fT (fT (fT (fT (fT vi 21 s2165) 22 p2165) 17 (nI a2165)) 19 (nI f2165)) 20 sg165) 18 wd165) 52 (nI (nd + 1))) 60 (nI (bs + 1))) 30 (nI b2165)) vj (fT (fT (fT (fT (fT (fT (fT (fT (fT (fT (fT (fT (fT (fT vF 45 (upd (vF 45) ((nI dN)).toNatClampNeg (nI fn))) 29 (upd (vF 29) (nI nd).toNatClampNeg 9)) 30 (upd (upd (vF 30) (nI nd).toNatClampNeg 0) ((nI nd)).toNatClampNeg (nI bs))) 31 (upd (vF 31) (nI nd).toNatClampNeg (-1))) 32 (upd (vF 32) (nI nd).toNatClampNeg 0)) 33 (upd (vF 33) (nI nd).toNatClampNeg ((upd (vF 45) ((nI dN)).toNatClampNeg (nI fn)) dN))) 34 (upd (vF 34) (nI nd).toNatClampNeg 0)) 35 (upd (vF 35) (nI nd).toNatClampNeg 0)) 41 (upd (vF 41) ((nI dN)).toNatClampNeg (nI nd))) 38 g38165) 37 g37165) 14 g14165) 15 g15165) 36 g36165) vG tp a2165 hTp (by first | with_reducible assumption | decide | omega | rfl | assumption) rfl (f165_0.2.1) H.size) (cwV 0 hts gwsRX12_beginFactor_2 rfl rfl rfl hd_yX12_next_RX12 (by decide +kernel)) (fz_preE (va_recv hK hP (ci := 12) (q0 := 0) rfl rfl) hP hK hD (fun a U g mk qE => qE.same rfl) (fun U hU9 hW => by rw [hU9]; exact (((hE : StrA A s s.heap).kept hS.2.1).narrow (fun q h => hFc q h)).warm hW)) rfl rfl hl.1 rfl (lv_room (Nat.le_of_ble_eq_true rfl)) dX12_beginFactor_187 (by decide +kernel)) hS (fun q _ h => hFc q h) hFc (fun u t9_ H locs ht hvm hw9 hB9 hz1 hk1 hS => ?_)
                  revert u hw9 hB9
                  refine fz_p4 ?_
                  intro a2187 f2187 sg187 wd187 hw9 hB9
                  try dsimp only at hw9 hB9
                  have e9i : fT (fT (fT (fT (fT (fT (fT (fT (fT vi 21 s2165) 22 p2165) 17 (nI a2187)) 19 (nI f2187)) 20 sg187) 18 wd187) 52 (nI (nd + 1))) 60 (nI (bs + 1))) 30 (nI b2165) = fT (fT (fT (fT (fT (fT (fT (fT (fT (fT (fT (fT (fT vi 21 s2165) 22 p2165) 17 (nI a2165)) 19 (nI f2165)) 20 sg165) 18 wd165) 52 (nI (nd + 1))) 60 (nI (bs + 1))) 30 (nI b2165)) 17 (nI a2187)) 19 (nI f2187)) 20 sg187) 18 wd187 := Eq.symm (Eq.trans (congrArg (fun g9 => fT g9 18 wd187) (Eq.trans (congrArg (fun g9 => fT g9 20 sg187) (Eq.trans (congrArg (fun g9 => fT g9 19 (nI f2187)) (up_6 rfl)) (up_5 rfl))) (up_4 rfl))) (up_3 rfl))
                  have hP := wr_Pi e9i (fz_P ht hB9.1)
                  have hD := wr_Di e9i (hB9.2.weaken (fun _ q _ h => hFc q.1 h))
                  clear e9i
                  revert hw9
                  refine fz_a2 ?_
                  intro f187_0 f187_1
                  have hl5 := f187_0.1
                  have hl6 := f187_0.2.1
                  refine lv_aload_n hx hb dX12_beginFactor_190 rfl (lv_at hl 0 rfl) ?_
                  refine va_get (D := (dC, dI)) (ci := 12) (v := .ref (a 40)) (C := RX12) (T := TX12) (N := 163) (fs := fM (vS a (fT (fT (fT (fT (fT (fT (fT (fT (fT vi 21 s2165) 22 p2165) 17 (nI a2187)) 19 (nI f2187)) 20 sg187) 18 wd187) 52 (nI (nd + 1))) 60 (nI (bs + 1))) 30 (nI b2165)) vj)) hx hb hts iwsRX12_beginFactor_in12 hown hK hP 0 rfl rfl 65 (by decide) (hts _ hm_r_X12_beginFactor_2) (fun _ h9 => h9) rfl dX12_beginFactor_191 ?_
                  refine lv_iload_n hx hb dX12_beginFactor_194 rfl (lv_at hl 1 rfl) ?_
                  refine lv_iconst (v := 5) hx hb dX12_beginFactor_195 (by decide) ?_
                  refine va_iast (cA := k 40) (n := 120) (f := (vF 40)) hx hb hK hP hD hS 41 40 (WR_get 40 (by decide)) (TR_get 40 (by decide)) (vp_in_nI (show dN < 120 by omega) (by omega)) dX12_beginFactor_196 (fun H locs hP hD hS => ?_)
                  have hP : va_P (dC, dI) vwCl (WR a k h0 (fT (fT (fT (fT (fT (fT (fT (fT (fT vi 21 s2165) 22 p2165) 17 (nI a2187)) 19 (nI f2187)) 20 sg187) 18 wd187) 52 (nI (nd + 1))) 60 (nI (bs + 1))) 30 (nI b2165)) vj (fT (fT (fT (fT (fT (fT (fT (fT (fT (fT (fT (fT (fT (fT (fT vF 45 (upd (vF 45) ((nI dN)).toNatClampNeg (nI fn))) 29 (upd (vF 29) (nI nd).toNatClampNeg 9)) 30 (upd (upd (vF 30) (nI nd).toNatClampNeg 0) ((nI nd)).toNatClampNeg (nI bs))) 31 (upd (vF 31) (nI nd).toNatClampNeg (-1))) 32 (upd (vF 32) (nI nd).toNatClampNeg 0)) 33 (upd (vF 33) (nI nd).toNatClampNeg ((upd (vF 45) ((nI dN)).toNatClampNeg (nI fn)) dN))) 34 (upd (vF 34) (nI nd).toNatClampNeg 0)) 35 (upd (vF 35) (nI nd).toNatClampNeg 0)) 41 (upd (vF 41) ((nI dN)).toNatClampNeg (nI nd))) 38 g38165) 37 g37165) 14 g14165) 15 g15165) 36 g36165) 40 (upd (vF 40) ((nI dN)).toNatClampNeg 5)) vG) H := fz_w (WR_F 40 (by decide) _ rfl) hP
                  have hD : va_D A (WR a k h0 (fT (fT (fT (fT (fT (fT (fT (fT (fT vi 21 s2165) 22 p2165) 17 (nI a2187)) 19 (nI f2187)) 20 sg187) 18 wd187) 52 (nI (nd + 1))) 60 (nI (bs + 1))) 30 (nI b2165)) vj (fT (fT (fT (fT (fT (fT (fT (fT (fT (fT (fT (fT (fT (fT (fT vF 45 (upd (vF 45) ((nI dN)).toNatClampNeg (nI fn))) 29 (upd (vF 29) (nI nd).toNatClampNeg 9)) 30 (upd (upd (vF 30) (nI nd).toNatClampNeg 0) ((nI nd)).toNatClampNeg (nI bs))) 31 (upd (vF 31) (nI nd).toNatClampNeg (-1))) 32 (upd (vF 32) (nI nd).toNatClampNeg 0)) 33 (upd (vF 33) (nI nd).toNatClampNeg ((upd (vF 45) ((nI dN)).toNatClampNeg (nI fn)) dN))) 34 (upd (vF 34) (nI nd).toNatClampNeg 0)) 35 (upd (vF 35) (nI nd).toNatClampNeg 0)) 41 (upd (vF 41) ((nI dN)).toNatClampNeg (nI nd))) 38 g38165) 37 g37165) 14 g14165) 15 g15165) 36 g36165) 40 (upd (vF 40) ((nI dN)).toNatClampNeg 5)) vG) := fz_wD (WR_F 40 (by decide) _ rfl) hD
                  refine lv_aload_n hx hb dX12_beginFactor_197 rfl (lv_at hl 0 rfl) ?_
                  refine lv_iconst (v := 2) hx hb dX12_beginFactor_198 (by decide) ?_
                  have hFc := allFree hD hS hA
                  refine va_callv (va_runV (As := [.int 2]) (rest := []) ⟨hx, hb, hml, hown, hts⟩ (r_X12_begin1 l dC dI a k h0 (fT (fT (fT (fT (fT (fT (fT (fT (fT vi 21 s2165) 22 p2165) 17 (nI a2187)) 19 (nI f2187)) 20 sg187) 18 wd187) 52 (nI (nd + 1))) 60 (nI (bs + 1))) 30 (nI b2165)) vj (fT (fT (fT (fT (fT (fT (fT (fT (fT (fT (fT (fT (fT (fT (fT vF 45 (upd (vF 45) ((nI dN)).toNatClampNeg (nI fn))) 29 (upd (vF 29) (nI nd).toNatClampNeg 9)) 30 (upd (upd (vF 30) (nI nd).toNatClampNeg 0) ((nI nd)).toNatClampNeg (nI bs))) 31 (upd (vF 31) (nI nd).toNatClampNeg (-1))) 32 (upd (vF 32) (nI nd).toNatClampNeg 0)) 33 (upd (vF 33) (nI nd).toNatClampNeg ((upd (vF 45) ((nI dN)).toNatClampNeg (nI fn)) dN))) 34 (upd (vF 34) (nI nd).toNatClampNeg 0)) 35 (upd (vF 35) (nI nd).toNatClampNeg 0)) 41 (upd (vF 41) ((nI dN)).toNatClampNeg (nI nd))) 38 g38165) 37 g37165) 14 g14165) 15 g15165) 36 g36165) 40 (upd (vF 40) ((nI dN)).toNatClampNeg 5)) vG 2 tp a2187 f2187 nm se pa va b2165 (dN + 1) wi hTp (by first | with_reducible assumption | decide | omega | rfl | assumption) rfl rfl (f187_0) (f165_2) hnm (by first | with_reducible assumption | decide | omega | rfl | assumption) (by first | with_reducible assumption | decide | omega | rfl | assumption) (by first | with_reducible assumption | decide | omega | rfl | assumption) rfl (by first | with_reducible assumption | decide | omega | rfl | assumption) (f165_4) (hdp) (by first | with_reducible assumption | decide | omega | rfl | assumption) hwi (by first | with_reducible assumption | decide | omega | rfl | assumption) H.size) (cwV 1 hts gwsRX12_beginFactor_3 rfl rfl rfl hd_yX12_begin1_RX12 (by decide +kernel)) (fz_pre (va_recv hK hP (ci := 12) (q0 := 0) rfl rfl) hP hK hD) rfl rfl hl.1 rfl (lv_room (Nat.le_of_ble_eq_true rfl)) dX12_beginFactor_199 (by decide +kernel)) hS (fun q _ h => hFc q h) hFc (fun u t9_ H locs ht hvm hw9 hB9 hz1 hk1 hS => ?_)
                  revert u hw9 hB9
                  refine fz_p10 ?_
                  intro s2199 p2199 g39199 g40199 g41199 g42199 g47199 g48199 d2199 w2199 hw9 hB9
                  try dsimp only at hw9 hB9
                  have e9i : fT (fT (fT (fT (fT (fT (fT (fT (fT (fT (fT vi 21 s2199) 22 p2199) 17 (nI a2187)) 19 (nI f2187)) 20 sg187) 18 wd187) 52 (nI (nd + 1))) 60 (nI (bs + 1))) 30 (nI b2165)) 75 (nI w2199)) 74 (nI d2199) = fT (fT (fT (fT (fT (fT (fT (fT (fT (fT (fT (fT (fT vi 21 s2165) 22 p2165) 17 (nI a2187)) 19 (nI f2187)) 20 sg187) 18 wd187) 52 (nI (nd + 1))) 60 (nI (bs + 1))) 30 (nI b2165)) 75 (nI w2199)) 74 (nI d2199)) 21 s2199) 22 p2199 := Eq.symm (Eq.trans (congrArg (fun g9 => fT g9 22 p2199) (up_10 rfl)) (up_9 rfl))
                  have e9F : fT (fT (fT (fT (fT (fT (fT (fT (fT (fT (fT (fT (fT (fT (fT (fT (fT (fT (fT vF 45 (upd (vF 45) ((nI dN)).toNatClampNeg (nI fn))) 29 (upd (vF 29) (nI nd).toNatClampNeg 9)) 30 (upd (upd (vF 30) (nI nd).toNatClampNeg 0) ((nI nd)).toNatClampNeg (nI bs))) 31 (upd (vF 31) (nI nd).toNatClampNeg (-1))) 32 (upd (vF 32) (nI nd).toNatClampNeg 0)) 33 (upd (vF 33) (nI nd).toNatClampNeg ((upd (vF 45) ((nI dN)).toNatClampNeg (nI fn)) dN))) 34 (upd (vF 34) (nI nd).toNatClampNeg 0)) 35 (upd (vF 35) (nI nd).toNatClampNeg 0)) 41 g41199) 38 g38165) 37 g37165) 14 g14165) 15 g15165) 36 g36165) 40 g40199) 39 g39199) 42 g42199) 47 g47199) 48 g48199 = fT (fT (fT (fT (fT (fT (fT (fT (fT (fT (fT (fT (fT (fT (fT (fT (fT (fT (fT (fT (fT vF 45 (upd (vF 45) ((nI dN)).toNatClampNeg (nI fn))) 29 (upd (vF 29) (nI nd).toNatClampNeg 9)) 30 (upd (upd (vF 30) (nI nd).toNatClampNeg 0) ((nI nd)).toNatClampNeg (nI bs))) 31 (upd (vF 31) (nI nd).toNatClampNeg (-1))) 32 (upd (vF 32) (nI nd).toNatClampNeg 0)) 33 (upd (vF 33) (nI nd).toNatClampNeg ((upd (vF 45) ((nI dN)).toNatClampNeg (nI fn)) dN))) 34 (upd (vF 34) (nI nd).toNatClampNeg 0)) 35 (upd (vF 35) (nI nd).toNatClampNeg 0)) 41 (upd (vF 41) ((nI dN)).toNatClampNeg (nI nd))) 38 g38165) 37 g37165) 14 g14165) 15 g15165) 36 g36165) 40 (upd (vF 40) ((nI dN)).toNatClampNeg 5)) 39 g39199) 40 g40199) 41 g41199) 42 g42199) 47 g47199) 48 g48199 := Eq.symm (congrArg (fun g9 => fT (fT (fT g9 42 g42199) 47 g47199) 48 g48199) (Eq.trans (congrArg (fun g9 => fT g9 41 g41199) (up_1 rfl)) (up_7 rfl)))
                  have hP := wr_PF e9F (wr_Pi e9i (fz_P ht hB9.1))
                  have hD := wr_DF e9F (wr_Di e9i (hB9.2.weaken (fun _ q _ h => hFc q.1 h)))
                  clear e9i e9F
                  revert hw9
                  refine fz_a4 ?_
                  intro f199_0 f199_1 f199_2 f199_3
                  have f199_1 : 0 < (s2199).toInt ∨ (s2199 = s2165 ∧ BgO 2 wd187 sg187 g39199 g40199 g41199 g42199 g48199 (dN + 1) wi d2199 w2199) := f199_1
                  have f199_2 : FrmO (dN + 1) (vF 39) (upd (vF 40) ((nI dN)).toNatClampNeg 5) (upd (vF 41) ((nI dN)).toNatClampNeg (nI nd)) (vF 42) (vF 48) g39199 g40199 g41199 g42199 g48199 := f199_2
                  refine lv_goto (tgt := 218) hx hb dX12_beginFactor_202 (by decide) ?_
                  refine W.widen (k := 0) (n := 0) (by decide +kernel) (by decide +kernel) ?_
                  have e9 : fT (fT (fT (fT (fT (fT (fT (fT (fT (fT (fT (fT (fT vi 21 s2199) 22 p2199) 17 (nI a2187)) 19 (nI f2187)) 20 sg187) 18 wd187) 52 (nI (nd + 1))) 60 (nI (bs + 1))) 30 (nI b2165)) 75 (nI w2199)) 74 (nI d2199)) 76 (vi 76)) 77 (vi 77) = fT (fT (fT (fT (fT (fT (fT (fT (fT (fT (fT vi 21 s2199) 22 p2199) 17 (nI a2187)) 19 (nI f2187)) 20 sg187) 18 wd187) 52 (nI (nd + 1))) 60 (nI (bs + 1))) 30 (nI b2165)) 75 (nI w2199)) 74 (nI d2199) := Eq.trans (mv_1 rfl) (Eq.trans (id_12 rfl) (id_11 rfl))
                  have hP := wr_Pi e9 hP
                  have hD := wr_Di e9 hD
                  clear e9
                  exact W.vret hx hb hr (fun t9_ ht hW => ⟨⟨(a2187, f2187, sg187, wd187, s2199, p2199, (upd (vF 29) (nI nd).toNatClampNeg 9), (upd (upd (vF 30) (nI nd).toNatClampNeg 0) ((nI nd)).toNatClampNeg (nI bs)), (upd (vF 31) (nI nd).toNatClampNeg (-1)), (upd (vF 32) (nI nd).toNatClampNeg 0), (upd (vF 33) (nI nd).toNatClampNeg ((upd (vF 45) ((nI dN)).toNatClampNeg (nI fn)) dN)), (upd (vF 34) (nI nd).toNatClampNeg 0), (upd (vF 35) (nI nd).toNatClampNeg 0), g14165, g15165, g36165, g37165, g38165, g39199, g40199, g41199, g42199, (upd (vF 45) ((nI dN)).toNatClampNeg (nI fn)), g47199, g48199, d2199, w2199, (nd + 1), b2165, (bs + 1), (vi 76), (vi 77), gG), rfl, by (try dsimp only); exact ⟨f187_0, by omega, f199_0, by rcases f199_1 with h9 | h9; (exact Or.inl h9); (exact Or.inr ⟨RdS.push (gm := (nd + 1)) hV5 hBel hE5 (Nat.le_succ _) (fun q hq => ⟨rfl, by rw [upd_at (by omega), if_neg (by omega)], by rw [upd_at (by omega), if_neg (by omega)], rfl, rfl⟩) h39 (by decide) h48 (by omega) ⟨⟨by omega, fun _ => by omega, fun h8 => absurd h8 (by decide), by omega⟩, Or.inr (Or.inr (Or.inr (Or.inr (Or.inr (Or.inl ⟨rfl, rfl, by rw [upd_at (by omega), if_pos rfl], rfl, rfl, rfl, nd, by rw [upd_at (by omega), if_pos rfl], by omega, by omega, hK0.nv, ⟨u_at (by omega) (by decide), bs, by rw [upd_at (by omega), if_pos rfl], by omega, by omega, hbn6.2.2.2.1, bd, hbn6.2.2.2.2, by omega⟩, u_at (by omega) rfl⟩)))))⟩ f199_2 (by rw [← hwc]; exact h9.2) (show (2 : Int32) = nI 2 by decide) (by decide) (by omega) (by omega) (by omega) (by omega) (by omega) (by show 10 * (4000 - _) + dN + 1 + 7 ≤ mM - 1; omega), hE5.less (Nat.zero_le _)⟩), by omega, by omega, f165_4⟩, by rw [ht]; exact hP, hD⟩, hS.F ht⟩) hS.2.2 dX12_beginFactor_218
                · have f180_0 : ¬ (wd165.toInt = 2 ∧ sg165 = 8) := f180_0
                  refine lv_if_eq (tgt := 205) hx hb dX12_beginFactor_183 (by decide) (fun _ => ?_) (fun c9 => absurd (by decide) c9)
                  refine lv_aload_n hx hb dX12_beginFactor_205 rfl (lv_at hl 0 rfl) ?_
                  refine lv_iload_n hx hb dX12_beginFactor_206 rfl (lv_at hl 1 rfl) ?_
                  have hFc := allFree hD hS hA
                  refine va_callv (va_runV (As := [.int (nI dN)]) (rest := []) ⟨hx, hb, hml, hown, hts⟩ (r_X12_closeSum l dC dI a k h0 (fT (fT (fT (fT (fT (fT (fT (fT (fT vi 21 s2165) 22 p2165) 17 (nI a2165)) 19 (nI f2165)) 20 sg165) 18 wd165) 52 (nI (nd + 1))) 60 (nI (bs + 1))) 30 (nI b2165)) vj (fT (fT (fT (fT (fT (fT (fT (fT (fT (fT (fT (fT (fT (fT vF 45 (upd (vF 45) ((nI dN)).toNatClampNeg (nI fn))) 29 (upd (vF 29) (nI nd).toNatClampNeg 9)) 30 (upd (upd (vF 30) (nI nd).toNatClampNeg 0) ((nI nd)).toNatClampNeg (nI bs))) 31 (upd (vF 31) (nI nd).toNatClampNeg (-1))) 32 (upd (vF 32) (nI nd).toNatClampNeg 0)) 33 (upd (vF 33) (nI nd).toNatClampNeg ((upd (vF 45) ((nI dN)).toNatClampNeg (nI fn)) dN))) 34 (upd (vF 34) (nI nd).toNatClampNeg 0)) 35 (upd (vF 35) (nI nd).toNatClampNeg 0)) 41 (upd (vF 41) ((nI dN)).toNatClampNeg (nI nd))) 38 g38165) 37 g37165) 14 g14165) 15 g15165) 36 g36165) vG dN tp a2165 f2165 nm se pa va b2165 wi (by first | with_reducible assumption | decide | omega | rfl | assumption) hTp (by first | with_reducible assumption | decide | omega | rfl | assumption) rfl rfl (f165_0) (f165_2) hnm (by first | with_reducible assumption | decide | omega | rfl | assumption) (by first | with_reducible assumption | decide | omega | rfl | assumption) (by first | with_reducible assumption | decide | omega | rfl | assumption) rfl (by first | with_reducible assumption | decide | omega | rfl | assumption) (f165_4) (hdp) (hwi) (by first | with_reducible assumption | decide | omega | rfl | assumption) H.size) (cwV 1 hts gwsRX12_beginFactor_8 rfl rfl rfl hd_yX12_closeSum_RX12 (by decide +kernel)) (fz_preE (va_recv hK hP (ci := 12) (q0 := 0) rfl rfl) hP hK hD (fun a U g mk qE => qE.same rfl) (fun U hU9 hW => by rw [hU9]; exact (((hE : StrA A s s.heap).kept hS.2.1).narrow (fun q h => hFc q h)).warm hW)) rfl rfl hl.1 rfl (lv_room (Nat.le_of_ble_eq_true rfl)) dX12_beginFactor_207 (by decide +kernel)) hS (fun q _ h => hFc q h) hFc (fun u t9_ H locs ht hvm hw9 hB9 hz1 hk1 hS => ?_)
                  revert u hw9 hB9
                  refine fz_p14 ?_
                  intro a2207 f2207 sg207 wd207 s2207 p2207 g39207 g40207 g41207 g42207 g47207 g48207 d2207 w2207 hw9 hB9
                  try dsimp only at hw9 hB9
                  have e9i : fT (fT (fT (fT (fT (fT (fT (fT (fT (fT (fT vi 21 s2207) 22 p2207) 17 (nI a2207)) 19 (nI f2207)) 20 sg207) 18 wd207) 52 (nI (nd + 1))) 60 (nI (bs + 1))) 30 (nI b2165)) 75 (nI w2207)) 74 (nI d2207) = fT (fT (fT (fT (fT (fT (fT (fT (fT (fT (fT (fT (fT (fT (fT (fT (fT vi 21 s2165) 22 p2165) 17 (nI a2165)) 19 (nI f2165)) 20 sg165) 18 wd165) 52 (nI (nd + 1))) 60 (nI (bs + 1))) 30 (nI b2165)) 17 (nI a2207)) 19 (nI f2207)) 20 sg207) 18 wd207) 21 s2207) 22 p2207) 75 (nI w2207)) 74 (nI d2207) := Eq.symm (congrArg (fun g9 => fT (fT g9 75 (nI w2207)) 74 (nI d2207)) (Eq.trans (congrArg (fun g9 => fT g9 22 p2207) (Eq.trans (congrArg (fun g9 => fT g9 21 s2207) (Eq.trans (congrArg (fun g9 => fT g9 18 wd207) (Eq.trans (congrArg (fun g9 => fT g9 20 sg207) (Eq.trans (congrArg (fun g9 => fT g9 19 (nI f2207)) (up_6 rfl)) (up_5 rfl))) (up_4 rfl))) (up_3 rfl))) (up_8 rfl))) (up_7 rfl)))
                  have e9F : fT (fT (fT (fT (fT (fT (fT (fT (fT (fT (fT (fT (fT (fT (fT (fT (fT (fT (fT vF 45 (upd (vF 45) ((nI dN)).toNatClampNeg (nI fn))) 29 (upd (vF 29) (nI nd).toNatClampNeg 9)) 30 (upd (upd (vF 30) (nI nd).toNatClampNeg 0) ((nI nd)).toNatClampNeg (nI bs))) 31 (upd (vF 31) (nI nd).toNatClampNeg (-1))) 32 (upd (vF 32) (nI nd).toNatClampNeg 0)) 33 (upd (vF 33) (nI nd).toNatClampNeg ((upd (vF 45) ((nI dN)).toNatClampNeg (nI fn)) dN))) 34 (upd (vF 34) (nI nd).toNatClampNeg 0)) 35 (upd (vF 35) (nI nd).toNatClampNeg 0)) 41 g41207) 38 g38165) 37 g37165) 14 g14165) 15 g15165) 36 g36165) 40 g40207) 39 g39207) 42 g42207) 47 g47207) 48 g48207 = fT (fT (fT (fT (fT (fT (fT (fT (fT (fT (fT (fT (fT (fT (fT (fT (fT (fT (fT (fT vF 45 (upd (vF 45) ((nI dN)).toNatClampNeg (nI fn))) 29 (upd (vF 29) (nI nd).toNatClampNeg 9)) 30 (upd (upd (vF 30) (nI nd).toNatClampNeg 0) ((nI nd)).toNatClampNeg (nI bs))) 31 (upd (vF 31) (nI nd).toNatClampNeg (-1))) 32 (upd (vF 32) (nI nd).toNatClampNeg 0)) 33 (upd (vF 33) (nI nd).toNatClampNeg ((upd (vF 45) ((nI dN)).toNatClampNeg (nI fn)) dN))) 34 (upd (vF 34) (nI nd).toNatClampNeg 0)) 35 (upd (vF 35) (nI nd).toNatClampNeg 0)) 41 (upd (vF 41) ((nI dN)).toNatClampNeg (nI nd))) 38 g38165) 37 g37165) 14 g14165) 15 g15165) 36 g36165) 40 g40207) 39 g39207) 41 g41207) 42 g42207) 47 g47207) 48 g48207 := Eq.symm (congrArg (fun g9 => fT (fT (fT g9 42 g42207) 47 g47207) 48 g48207) (up_7 rfl))
                  have hP := wr_PF e9F (wr_Pi e9i (fz_P ht hB9.1))
                  have hD := wr_DF e9F (wr_Di e9i (hB9.2.weaken (fun _ q _ h => hFc q.1 h)))
                  clear e9i e9F
                  revert hw9
                  refine fz_a5 ?_
                  intro f207_0 f207_1 f207_2 f207_3 f207_4
                  have f207_3 : 0 < (s2207).toInt ∨ (s2207 = 0 ∧ f2165 < f2207 ∧ BgO 1 wd207 sg207 g39207 g40207 g41207 g42207 g48207 (dN + 1) wi d2207 w2207 ∧ FrmO (dN + 1) (vF 39) (upd (vF 40) (nI dN).toNatClampNeg 6) (upd (vF 41) ((nI dN)).toNatClampNeg (nI nd)) (vF 42) (vF 48) g39207 g40207 g41207 g42207 g48207) := f207_3
                  refine lv_goto (tgt := 218) hx hb dX12_beginFactor_210 (by decide) ?_
                  refine W.widen (k := 0) (n := 0) (by decide +kernel) (by decide +kernel) ?_
                  have e9 : fT (fT (fT (fT (fT (fT (fT (fT (fT (fT (fT (fT (fT vi 21 s2207) 22 p2207) 17 (nI a2207)) 19 (nI f2207)) 20 sg207) 18 wd207) 52 (nI (nd + 1))) 60 (nI (bs + 1))) 30 (nI b2165)) 75 (nI w2207)) 74 (nI d2207)) 76 (vi 76)) 77 (vi 77) = fT (fT (fT (fT (fT (fT (fT (fT (fT (fT (fT vi 21 s2207) 22 p2207) 17 (nI a2207)) 19 (nI f2207)) 20 sg207) 18 wd207) 52 (nI (nd + 1))) 60 (nI (bs + 1))) 30 (nI b2165)) 75 (nI w2207)) 74 (nI d2207) := Eq.trans (mv_1 rfl) (Eq.trans (id_12 rfl) (id_11 rfl))
                  have hP := wr_Pi e9 hP
                  have hD := wr_Di e9 hD
                  clear e9
                  exact W.vret hx hb hr (fun t9_ ht hW => ⟨⟨(a2207, f2207, sg207, wd207, s2207, p2207, (upd (vF 29) (nI nd).toNatClampNeg 9), (upd (upd (vF 30) (nI nd).toNatClampNeg 0) ((nI nd)).toNatClampNeg (nI bs)), (upd (vF 31) (nI nd).toNatClampNeg (-1)), (upd (vF 32) (nI nd).toNatClampNeg 0), (upd (vF 33) (nI nd).toNatClampNeg ((upd (vF 45) ((nI dN)).toNatClampNeg (nI fn)) dN)), (upd (vF 34) (nI nd).toNatClampNeg 0), (upd (vF 35) (nI nd).toNatClampNeg 0), g14165, g15165, g36165, g37165, g38165, g39207, g40207, g41207, g42207, (upd (vF 45) ((nI dN)).toNatClampNeg (nI fn)), g47207, g48207, d2207, w2207, (nd + 1), b2165, (bs + 1), (vi 76), (vi 77), gG), rfl, by (try dsimp only); exact ⟨f207_0, by omega, f207_2, by rcases f207_3 with h9 | h9; (exact Or.inl h9); ((have h91 := h9.2.1); (have h92 := f207_0.1); (have h93 := f207_0.2.1); exact Or.inr ⟨RdS.push (gm := (nd + 1)) hV5 hBel hE5 (Nat.le_succ _) (fun q hq => ⟨rfl, by rw [upd_at (by omega), if_neg (by omega)], by rw [upd_at (by omega), if_neg (by omega)], rfl, rfl⟩) h39 (by decide) h48 (by omega) ⟨⟨by omega, fun _ => by omega, fun h8 => absurd h8 (by decide), by omega⟩, Or.inr (Or.inr (Or.inr (Or.inr (Or.inr (Or.inr (Or.inl ⟨rfl, rfl, by rw [upd_at (by omega), if_pos rfl], rfl, rfl, rfl, nd, by rw [upd_at (by omega), if_pos rfl], by omega, by omega, hK0.nv, ⟨u_at (by omega) (by decide), bs, by rw [upd_at (by omega), if_pos rfl], by omega, by omega, hbn6.2.2.2.1, bd, hbn6.2.2.2.2, by omega⟩, Or.inl (u_at (by omega) rfl)⟩))))))⟩ h9.2.2.2 (by rw [← hwc]; exact h9.2.2.1) (show (1 : Int32) = nI 1 by decide) (by decide) (by omega) (by omega) (by omega) (by omega) (by omega) (by show 10 * (4000 - _) + dN + 1 + 1 ≤ mM - 1; omega), hE5.less (Nat.zero_le _)⟩), by omega, by omega, f165_4⟩, by rw [ht]; exact hP, hD⟩, hS.F ht⟩) hS.2.2 dX12_beginFactor_218
              · have t_173 : ¬ (s2165).toInt ≤ 0 := toI_nle c_173 rfl (by decide)
                refine W.widen (k := 0) (n := 0) (by decide +kernel) (by decide +kernel) ?_
                have e9 : fT (fT (fT (fT (fT (fT (fT (fT (fT (fT (fT (fT (fT vi 21 s2165) 22 p2165) 17 (nI a2165)) 19 (nI f2165)) 20 sg165) 18 wd165) 52 (nI (nd + 1))) 60 (nI (bs + 1))) 30 (nI b2165)) 75 (nI wi)) 74 (nI (dN + 1))) 76 (vi 76)) 77 (vi 77) = fT (fT (fT (fT (fT (fT (fT (fT (fT vi 21 s2165) 22 p2165) 17 (nI a2165)) 19 (nI f2165)) 20 sg165) 18 wd165) 52 (nI (nd + 1))) 60 (nI (bs + 1))) 30 (nI b2165) := Eq.trans (mv_3 rfl) (Eq.trans (congrArg (fT _ 75) (show nI wi = vi 75 from (by first | with_reducible rfl | with_reducible assumption | (symm; with_reducible assumption) | rfl | assumption | (symm; assumption) | (subst_vars; rfl)))) (Eq.trans (id_12 rfl) (Eq.trans (mv_2 rfl) (Eq.trans (congrArg (fT _ 74) (show nI (dN + 1) = vi 74 from (by first | with_reducible rfl | with_reducible assumption | (symm; with_reducible assumption) | rfl | assumption | (symm; assumption) | (subst_vars; rfl)))) (Eq.trans (id_11 rfl) (Eq.trans (mv_1 rfl) (Eq.trans (id_10 rfl) (id_9 rfl))))))))
                have hP := wr_Pi e9 hP
                have hD := wr_Di e9 hD
                clear e9
                have e9 : fT (fT (fT (fT (fT (fT (fT (fT (fT (fT (fT (fT (fT (fT (fT (fT (fT (fT (fT vF 45 (upd (vF 45) ((nI dN)).toNatClampNeg (nI fn))) 29 (upd (vF 29) (nI nd).toNatClampNeg 9)) 30 (upd (upd (vF 30) (nI nd).toNatClampNeg 0) ((nI nd)).toNatClampNeg (nI bs))) 31 (upd (vF 31) (nI nd).toNatClampNeg (-1))) 32 (upd (vF 32) (nI nd).toNatClampNeg 0)) 33 (upd (vF 33) (nI nd).toNatClampNeg ((upd (vF 45) ((nI dN)).toNatClampNeg (nI fn)) dN))) 34 (upd (vF 34) (nI nd).toNatClampNeg 0)) 35 (upd (vF 35) (nI nd).toNatClampNeg 0)) 41 (upd (vF 41) ((nI dN)).toNatClampNeg (nI nd))) 38 g38165) 37 g37165) 14 g14165) 15 g15165) 36 g36165) 40 (vF 40)) 39 (vF 39)) 42 (vF 42)) 47 (vF 47)) 48 (vF 48) = fT (fT (fT (fT (fT (fT (fT (fT (fT (fT (fT (fT (fT (fT vF 45 (upd (vF 45) ((nI dN)).toNatClampNeg (nI fn))) 29 (upd (vF 29) (nI nd).toNatClampNeg 9)) 30 (upd (upd (vF 30) (nI nd).toNatClampNeg 0) ((nI nd)).toNatClampNeg (nI bs))) 31 (upd (vF 31) (nI nd).toNatClampNeg (-1))) 32 (upd (vF 32) (nI nd).toNatClampNeg 0)) 33 (upd (vF 33) (nI nd).toNatClampNeg ((upd (vF 45) ((nI dN)).toNatClampNeg (nI fn)) dN))) 34 (upd (vF 34) (nI nd).toNatClampNeg 0)) 35 (upd (vF 35) (nI nd).toNatClampNeg 0)) 41 (upd (vF 41) ((nI dN)).toNatClampNeg (nI nd))) 38 g38165) 37 g37165) 14 g14165) 15 g15165) 36 g36165 := Eq.trans (mv_4 rfl) (Eq.trans (id_18 rfl) (Eq.trans (mv_3 rfl) (Eq.trans (id_17 rfl) (Eq.trans (mv_2 rfl) (Eq.trans (id_16 rfl) (Eq.trans (mv_1 rfl) (Eq.trans (id_15 rfl) (id_14 rfl))))))))
                have hP := wr_PF e9 hP
                have hD := wr_DF e9 hD
                clear e9
                exact W.vret hx hb hr (fun t9_ ht hW => ⟨⟨(a2165, f2165, sg165, wd165, s2165, p2165, (upd (vF 29) (nI nd).toNatClampNeg 9), (upd (upd (vF 30) (nI nd).toNatClampNeg 0) ((nI nd)).toNatClampNeg (nI bs)), (upd (vF 31) (nI nd).toNatClampNeg (-1)), (upd (vF 32) (nI nd).toNatClampNeg 0), (upd (vF 33) (nI nd).toNatClampNeg ((upd (vF 45) ((nI dN)).toNatClampNeg (nI fn)) dN)), (upd (vF 34) (nI nd).toNatClampNeg 0), (upd (vF 35) (nI nd).toNatClampNeg 0), g14165, g15165, g36165, g37165, g38165, (vF 39), (vF 40), (upd (vF 41) ((nI dN)).toNatClampNeg (nI nd)), (vF 42), (upd (vF 45) ((nI dN)).toNatClampNeg (nI fn)), (vF 47), (vF 48), (dN + 1), wi, (nd + 1), b2165, (bs + 1), (vi 76), (vi 77), gG), rfl, by (try dsimp only); exact ⟨f165_0, by omega, f165_2, Or.inl (by omega), by omega, by omega, f165_4⟩, by rw [ht]; exact hP, hD⟩, hS.F ht⟩) hS.2.2 dX12_beginFactor_176
            · refine lv_if_ne (tgt := 133) hx hb dX12_beginFactor_129 (by decide) (fun c9 => absurd c9 (by decide)) (fun _ => ?_)
              refine W.widen (k := 0) (n := 0) (by decide +kernel) (by decide +kernel) ?_
              have e9 : fT (fT (fT (fT (fT (fT (fT (fT (fT (fT (fT (fT (fT vi 21 s2126) 22 p2126) 17 (nI a2126)) 19 (nI f2126)) 20 sg126) 18 wd126) 52 (nI nd)) 60 (nI bs)) 30 (nI bd)) 75 (nI wi)) 74 (nI (dN + 1))) 76 (vi 76)) 77 (vi 77) = fT (fT (fT (fT (fT (fT vi 21 s2126) 22 p2126) 17 (nI a2126)) 19 (nI f2126)) 20 sg126) 18 wd126 := Eq.trans (mv_6 rfl) (Eq.trans (congrArg (fT _ 52) (show nI nd = vi 52 from (by first | with_reducible rfl | with_reducible assumption | (symm; with_reducible assumption) | rfl | assumption | (symm; assumption) | (subst_vars; rfl)))) (Eq.trans (id_12 rfl) (Eq.trans (mv_5 rfl) (Eq.trans (congrArg (fT _ 60) (show nI bs = vi 60 from (by first | with_reducible rfl | with_reducible assumption | (symm; with_reducible assumption) | rfl | assumption | (symm; assumption) | (subst_vars; rfl)))) (Eq.trans (id_11 rfl) (Eq.trans (mv_4 rfl) (Eq.trans (congrArg (fT _ 30) (show nI bd = vi 30 from (by first | with_reducible rfl | with_reducible assumption | (symm; with_reducible assumption) | rfl | assumption | (symm; assumption) | (subst_vars; rfl)))) (Eq.trans (id_10 rfl) (Eq.trans (mv_3 rfl) (Eq.trans (congrArg (fT _ 75) (show nI wi = vi 75 from (by first | with_reducible rfl | with_reducible assumption | (symm; with_reducible assumption) | rfl | assumption | (symm; assumption) | (subst_vars; rfl)))) (Eq.trans (id_9 rfl) (Eq.trans (mv_2 rfl) (Eq.trans (congrArg (fT _ 74) (show nI (dN + 1) = vi 74 from (by first | with_reducible rfl | with_reducible assumption | (symm; with_reducible assumption) | rfl | assumption | (symm; assumption) | (subst_vars; rfl)))) (Eq.trans (id_8 rfl) (Eq.trans (mv_1 rfl) (Eq.trans (id_7 rfl) (id_6 rfl)))))))))))))))))
              have hP := wr_Pi e9 hP
              have hD := wr_Di e9 hD
              clear e9
              have e9 : fT (fT (fT (fT (fT (fT (fT (fT (fT (fT (fT (fT (fT (fT (fT (fT (fT (fT (fT vF 45 (upd (vF 45) ((nI dN)).toNatClampNeg (nI fn))) 29 (vF 29)) 30 (vF 30)) 31 (vF 31)) 32 (vF 32)) 33 (vF 33)) 34 (vF 34)) 35 (vF 35)) 41 (vF 41)) 38 (vF 38)) 37 (vF 37)) 14 (vF 14)) 15 (vF 15)) 36 (vF 36)) 40 (vF 40)) 39 (vF 39)) 42 (vF 42)) 47 (vF 47)) 48 (vF 48) = fT vF 45 (upd (vF 45) ((nI dN)).toNatClampNeg (nI fn)) := Eq.trans (mv_17 rfl) (Eq.trans (id_18 rfl) (Eq.trans (mv_16 rfl) (Eq.trans (id_17 rfl) (Eq.trans (mv_15 rfl) (Eq.trans (id_16 rfl) (Eq.trans (mv_14 rfl) (Eq.trans (id_15 rfl) (Eq.trans (mv_13 rfl) (Eq.trans (id_14 rfl) (Eq.trans (mv_12 rfl) (Eq.trans (id_13 rfl) (Eq.trans (mv_11 rfl) (Eq.trans (id_12 rfl) (Eq.trans (mv_10 rfl) (Eq.trans (id_11 rfl) (Eq.trans (mv_9 rfl) (Eq.trans (id_10 rfl) (Eq.trans (mv_8 rfl) (Eq.trans (id_9 rfl) (Eq.trans (mv_7 rfl) (Eq.trans (id_8 rfl) (Eq.trans (mv_6 rfl) (Eq.trans (id_7 rfl) (Eq.trans (mv_5 rfl) (Eq.trans (id_6 rfl) (Eq.trans (mv_4 rfl) (Eq.trans (id_5 rfl) (Eq.trans (mv_3 rfl) (Eq.trans (id_4 rfl) (Eq.trans (mv_2 rfl) (Eq.trans (id_3 rfl) (Eq.trans (mv_1 rfl) (Eq.trans (id_2 rfl) (id_1 rfl))))))))))))))))))))))))))))))))))
              have hP := wr_PF e9 hP
              have hD := wr_DF e9 hD
              clear e9
              exact W.vret hx hb hr (fun t9_ ht hW => ⟨⟨(a2126, f2126, sg126, wd126, s2126, p2126, (vF 29), (vF 30), (vF 31), (vF 32), (vF 33), (vF 34), (vF 35), (vF 14), (vF 15), (vF 36), (vF 37), (vF 38), (vF 39), (vF 40), (vF 41), (vF 42), (upd (vF 45) ((nI dN)).toNatClampNeg (nI fn)), (vF 47), (vF 48), (dN + 1), wi, nd, bd, bs, (vi 76), (vi 77), gG), rfl, by (try dsimp only); exact ⟨f126_1, by omega, by omega, Or.inl f126_0, by omega, by omega, hbo⟩, by rw [ht]; exact hP, hD⟩, hS.F ht⟩) hS.2.2 dX12_beginFactor_132
          · have f113_0 : ¬ ((vi 18).toInt = 2 ∧ (vi 20) = 12) := f113_0
            refine lv_if_eq (tgt := 213) hx hb dX12_beginFactor_116 (by decide) (fun _ => ?_) (fun c9 => absurd (by decide) c9)
            have hwd1 : (vi 18).toInt = 1 := by (rcases f11_1 with h9 | h9 | h9 | h9 | h9); (exfalso; omega); (exact h9); (exact absurd h9 f21_0); (exact absurd h9 f49_0); (exact absurd h9 f113_0)
            refine lv_aload_n hx hb dX12_beginFactor_213 rfl (lv_at hl 0 rfl) ?_
            refine lv_iload_n hx hb dX12_beginFactor_214 rfl (lv_at hl 1 rfl) ?_
            have hFc := allFree hD hS hA
            refine va_callv (va_runV (As := [.int (nI dN)]) (rest := []) ⟨hx, hb, hml, hown, hts⟩ (r_X12_beginName l dC dI a k h0 (fT (fT vi 21 s211) 22 p211) vj (fT vF 45 (upd (vF 45) ((nI dN)).toNatClampNeg (nI fn))) vG tp an fn nm se pa va bd tT gG bs r0 dN wi nd mM cw uu pe un gl gm xe p1 n1 m1 tw hTp (by first | with_reducible assumption | decide | omega | rfl | assumption) ha0 hfr (by first | with_reducible assumption | decide | omega | rfl | assumption) ((show 0 ≤ (s211).toInt by rw [f11_0]; decide)) hnm (by first | with_reducible assumption | decide | omega | rfl | assumption) (by first | with_reducible assumption | decide | omega | rfl | assumption) (by first | with_reducible assumption | decide | omega | rfl | assumption) hbd (by first | with_reducible assumption | decide | omega | rfl | assumption) (by first | with_reducible assumption | decide | omega | rfl | assumption) (by first | with_reducible assumption | decide | omega | rfl | assumption) (by first | with_reducible assumption | decide | omega | rfl | assumption) (hRT0) (by first | with_reducible assumption | decide | omega | rfl | assumption) hwi hnd (by first | with_reducible assumption | decide | omega | rfl | assumption) (by first | with_reducible assumption | decide | omega | rfl | assumption) (by first | with_reducible assumption | decide | omega | rfl | assumption) (by first | with_reducible assumption | decide | omega | rfl | assumption) (by first | with_reducible assumption | decide | omega | rfl | assumption) (f11_2 hwd1) H.size) (cwV 1 hts gwsRX12_beginFactor_9 rfl rfl rfl hd_yX12_beginName_RX12 (by decide +kernel)) (fz_preE (va_recv hK hP (ci := 12) (q0 := 0) rfl rfl) hP hK hD (fun a U g mk qE => qE.same rfl) (fun U hU9 hW => by rw [hU9]; exact (((hE : StrA A s s.heap).kept hS.2.1).narrow (fun q h => hFc q h)).warm hW)) rfl rfl hl.1 rfl (lv_room (Nat.le_of_ble_eq_true rfl)) dX12_beginFactor_215 (by decide +kernel)) hS (fun q _ h => hFc q h) hFc (fun u t9_ H locs ht hvm hw9 hB9 hz1 hk1 hS => ?_)
            revert u hw9 hB9
            refine fz_p25 ?_
            intro a2215 f2215 sg215 wd215 s2215 p2215 g29215 g30215 g31215 g32215 g33215 g34215 g35215 g39215 g40215 g41215 g42215 g47215 g48215 d2215 w2215 n2215 rs2215 rf2215 G2215 hw9 hB9
            try dsimp only at hw9 hB9
            have e9i : fT (fT (fT (fT (fT (fT (fT (fT (fT (fT (fT vi 21 s2215) 22 p2215) 52 (nI n2215)) 17 (nI a2215)) 19 (nI f2215)) 20 sg215) 18 wd215) 75 (nI w2215)) 74 (nI d2215)) 76 rs2215) 77 rf2215 = fT (fT (fT (fT (fT (fT (fT (fT (fT (fT (fT (fT (fT vi 21 s211) 22 p211) 52 (nI n2215)) 17 (nI a2215)) 19 (nI f2215)) 20 sg215) 18 wd215) 21 s2215) 22 p2215) 75 (nI w2215)) 74 (nI d2215)) 76 rs2215) 77 rf2215 := Eq.symm (congrArg (fun g9 => fT (fT (fT (fT g9 75 (nI w2215)) 74 (nI d2215)) 76 rs2215) 77 rf2215) (Eq.trans (congrArg (fun g9 => fT g9 22 p2215) (up_6 rfl)) (up_5 rfl)))
            have hP := wr_Pi e9i (fz_P ht hB9.1)
            have hD := wr_Di e9i (hB9.2.weaken (fun _ q _ h => hFc q.1 h))
            clear e9i
            revert hw9
            refine fz_a5 ?_
            intro f215_0 f215_1 f215_2 f215_3 f215_4
            have f215_3 : 0 < (s2215).toInt ∨ (RdS tT G2215 g29215 g30215 g31215 g32215 (vF 36) (vF 37) (vF 38) g39215 g40215 g41215 g42215 g48215 wd215 sg215 rs2215 se bs r0 d2215 w2215 n2215 bd f2215 (mM - 1) ∧ Ext 0 bs gG (vF 29) (vF 30) (vF 31) (vF 32) (vF 36) (vF 37) (vF 38) G2215 g29215 g30215 g31215 g32215 (vF 36) (vF 37) (vF 38)) := f215_3
            refine W.widen (k := 0) (n := 0) (by decide +kernel) (by decide +kernel) ?_
            have e9 : fT (fT (fT (fT (fT (fT (fT (fT (fT (fT (fT (fT (fT vi 21 s2215) 22 p2215) 17 (nI a2215)) 19 (nI f2215)) 20 sg215) 18 wd215) 52 (nI n2215)) 60 (nI bs)) 30 (nI bd)) 75 (nI w2215)) 74 (nI d2215)) 76 rs2215) 77 rf2215 = fT (fT (fT (fT (fT (fT (fT (fT (fT (fT (fT vi 21 s2215) 22 p2215) 52 (nI n2215)) 17 (nI a2215)) 19 (nI f2215)) 20 sg215) 18 wd215) 75 (nI w2215)) 74 (nI d2215)) 76 rs2215) 77 rf2215 := Eq.trans (mv_5 rfl) (Eq.trans (congrArg (fT _ 60) (show nI bs = vi 60 from (by first | with_reducible rfl | with_reducible assumption | (symm; with_reducible assumption) | rfl | assumption | (symm; assumption) | (subst_vars; rfl)))) (Eq.trans (id_12 rfl) (Eq.trans (mv_4 rfl) (Eq.trans (congrArg (fT _ 30) (show nI bd = vi 30 from (by first | with_reducible rfl | with_reducible assumption | (symm; with_reducible assumption) | rfl | assumption | (symm; assumption) | (subst_vars; rfl)))) (Eq.trans (id_11 rfl) (Eq.trans (mv_4 rfl) (Eq.trans (mv_8 rfl) (Eq.trans (mv_8 rfl) (Eq.trans (mv_8 rfl) (Eq.trans (mv_8 rfl) (Eq.trans (mv_8 rfl) (Eq.trans (mv_8 rfl) (Eq.trans (mv_8 rfl) (mv_8 rfl))))))))))))))
            have hP := wr_Pi e9 hP
            have hD := wr_Di e9 hD
            clear e9
            have e9 : fT (fT (fT (fT (fT (fT (fT (fT (fT (fT (fT (fT (fT (fT (fT (fT (fT (fT (fT vF 45 (upd (vF 45) ((nI dN)).toNatClampNeg (nI fn))) 29 g29215) 30 g30215) 31 g31215) 32 g32215) 33 g33215) 34 g34215) 35 g35215) 41 g41215) 38 (vF 38)) 37 (vF 37)) 14 (vF 14)) 15 (vF 15)) 36 (vF 36)) 40 g40215) 39 g39215) 42 g42215) 47 g47215) 48 g48215 = fT (fT (fT (fT (fT (fT (fT (fT (fT (fT (fT (fT (fT (fT vF 45 (upd (vF 45) ((nI dN)).toNatClampNeg (nI fn))) 29 g29215) 30 g30215) 31 g31215) 32 g32215) 33 g33215) 34 g34215) 35 g35215) 41 g41215) 40 g40215) 39 g39215) 42 g42215) 47 g47215) 48 g48215 := Eq.trans (mv_9 rfl) (Eq.trans (id_18 rfl) (Eq.trans (mv_8 rfl) (Eq.trans (id_17 rfl) (Eq.trans (mv_7 rfl) (Eq.trans (id_16 rfl) (Eq.trans (mv_6 rfl) (Eq.trans (id_15 rfl) (Eq.trans (mv_5 rfl) (id_14 rfl)))))))))
            have hP := wr_PF e9 hP
            have hD := wr_DF e9 hD
            clear e9
            exact W.vret hx hb hr (fun t9_ ht hW => ⟨⟨(a2215, f2215, sg215, wd215, s2215, p2215, g29215, g30215, g31215, g32215, g33215, g34215, g35215, (vF 14), (vF 15), (vF 36), (vF 37), (vF 38), g39215, g40215, g41215, g42215, (upd (vF 45) ((nI dN)).toNatClampNeg (nI fn)), g47215, g48215, d2215, w2215, n2215, bd, bs, rs2215, rf2215, G2215), rfl, by (try dsimp only); exact ⟨f215_0, f215_1, f215_2, f215_3, f215_4, by omega, hbo⟩, by rw [ht]; exact hP, hD⟩, hS.F ht⟩) hS.2.2 dX12_beginFactor_218
        · have t_79 : ((vi 18)).toInt = 3 := toI_nne c_79 rfl (by decide)
          have hfl : fn < an := hLx.2.2.1.resolve_left (fun h => absurd (show (vi 18).toInt = 0 by rw [h]; decide) (by omega))
          have hsg := hLx.2.2.2 c_79
          have hKK := hK0.mkNum (p := 51 - 2 * (cw + xe)) (kv := 0) (av := vi 20) (bv := 0) (cv := 0) (by omega) (by decide) (by omega) (by omega)
          have hKN := hKK.1
          have hLN := hKK.2
          refine lv_aload_n hx hb dX12_beginFactor_82 rfl (lv_at hl 0 rfl) ?_
          refine lv_iconst (v := 0) hx hb dX12_beginFactor_83 (by decide) ?_
          refine lv_aload_n hx hb dX12_beginFactor_84 rfl (lv_at hl 0 rfl) ?_
          refine va_get (D := (dC, dI)) (ci := 12) (v := .int (vi 20)) (C := RX12) (T := TX12) (N := 163) (fs := fM (vS a (fT (fT vi 21 s211) 22 p211) vj)) hx hb hts iwsRX12_beginFactor_in12 hown hK hP 0 rfl rfl 20 (by decide) (hts (.fieldLink RX12 491 "OptimaWorksModel" "sign0" "I") (by decide +kernel)) (fun _ h9 => h9) rfl dX12_beginFactor_85 ?_
          refine lv_iconst (v := 0) hx hb dX12_beginFactor_88 (by decide) ?_
          refine lv_iconst (v := 0) hx hb dX12_beginFactor_89 (by decide) ?_
          refine lv_aload_n hx hb dX12_beginFactor_90 rfl (lv_at hl 0 rfl) ?_
          refine va_get (D := (dC, dI)) (ci := 12) (v := .int (vi 19)) (C := RX12) (T := TX12) (N := 163) (fs := fM (vS a (fT (fT vi 21 s211) 22 p211) vj)) hx hb hts iwsRX12_beginFactor_in12 hown hK hP 0 rfl rfl 19 (by decide) (hts _ hm_r_X12_beginFactor_1) (fun _ h9 => h9) rfl dX12_beginFactor_91 ?_
          refine lv_topi (fun y5 hy5 => ?_)
          obtain rfl : (nI fn) = y5 := (hy5.trans (hfr)).symm
          have hFc := allFree hD hS hA
          refine va_calli (va_runV (As := [.int 0, .int (vi 20), .int 0, .int 0, .int (nI fn)]) (rest := []) ⟨hx, hb, hml, hown, hts⟩ (r_X12_node l dC dI a k h0 (fT (fT vi 21 s211) 22 p211) vj (fT vF 45 (upd (vF 45) ((nI dN)).toNatClampNeg (nI fn))) vG nd 0 (vi 20) 0 0 (nI fn) hnd (by first | with_reducible assumption | decide | omega | rfl | assumption) H.size) (cwV 5 hts gwsRX12_beginFactor_6 rfl rfl rfl hd_yX12_node_RX12 (by decide +kernel)) (fz_pre (va_recv hK hP (ci := 12) (q0 := 0) rfl rfl) hP hK hD) rfl rfl hl.1 rfl (lv_room (Nat.le_of_ble_eq_true rfl)) dX12_beginFactor_94 (by decide +kernel)) hS (fun q _ h => hFc q h) hFc (fun r94 u t9_ H locs ht hvm hw9 hB9 hz1 hk1 hS => ?_)
          have hP : va_P (dC, dI) vwCl (WR a k h0 (fT (fT (fT vi 21 s211) 22 p211) 52 (nI (nd + 1))) vj (fT (fT (fT (fT (fT (fT (fT (fT vF 45 (upd (vF 45) ((nI dN)).toNatClampNeg (nI fn))) 29 (upd (vF 29) (nI nd).toNatClampNeg 0)) 30 (upd (vF 30) (nI nd).toNatClampNeg (vi 20))) 31 (upd (vF 31) (nI nd).toNatClampNeg 0)) 32 (upd (vF 32) (nI nd).toNatClampNeg 0)) 33 (upd (vF 33) (nI nd).toNatClampNeg (nI fn))) 34 (upd (vF 34) (nI nd).toNatClampNeg 0)) 35 (upd (vF 35) (nI nd).toNatClampNeg 0)) vG) H := fz_P ht hB9.1
          have hD := fz_sd hP (hB9.2.weaken (fun _ q _ h => hFc q.1 h)) rfl
          obtain rfl := hw9
          refine lv_istore_n hx hb dX12_beginFactor_97 rfl hl (by decide) rfl (fun ls (hl : lv_has ls _ ([(2, .int (nI nd)), (0, .ref h0), (1, .int (nI dN))])) => ?_)
          refine lv_aload_n hx hb dX12_beginFactor_98 rfl (lv_at hl 1 rfl) ?_
          have hFc := allFree hD hS hA
          refine va_callv (va_runV (As := []) (rest := []) ⟨hx, hb, hml, hown, hts⟩ (r_X12_next l dC dI a k h0 (fT (fT (fT vi 21 s211) 22 p211) 52 (nI (nd + 1))) vj (fT (fT (fT (fT (fT (fT (fT (fT vF 45 (upd (vF 45) ((nI dN)).toNatClampNeg (nI fn))) 29 (upd (vF 29) (nI nd).toNatClampNeg 0)) 30 (upd (vF 30) (nI nd).toNatClampNeg (vi 20))) 31 (upd (vF 31) (nI nd).toNatClampNeg 0)) 32 (upd (vF 32) (nI nd).toNatClampNeg 0)) 33 (upd (vF 33) (nI nd).toNatClampNeg (nI fn))) 34 (upd (vF 34) (nI nd).toNatClampNeg 0)) 35 (upd (vF 35) (nI nd).toNatClampNeg 0)) vG tp an hTp (by first | with_reducible assumption | decide | omega | rfl | assumption) ha0 (by first | with_reducible assumption | decide | omega | rfl | assumption) H.size) (cwV 0 hts gwsRX12_beginFactor_2 rfl rfl rfl hd_yX12_next_RX12 (by decide +kernel)) (fz_preE (va_recv hK hP (ci := 12) (q0 := 0) rfl rfl) hP hK hD (fun a U g mk qE => qE.same rfl) (fun U hU9 hW => by rw [hU9]; exact (((hE : StrA A s s.heap).kept hS.2.1).narrow (fun q h => hFc q h)).warm hW)) rfl rfl hl.1 rfl (lv_room (Nat.le_of_ble_eq_true rfl)) dX12_beginFactor_99 (by decide +kernel)) hS (fun q _ h => hFc q h) hFc (fun u t9_ H locs ht hvm hw9 hB9 hz1 hk1 hS => ?_)
          revert u hw9 hB9
          refine fz_p4 ?_
          intro a299 f299 sg99 wd99 hw9 hB9
          try dsimp only at hw9 hB9
          have hP : va_P (dC, dI) vwCl (WR a k h0 (fT (fT (fT (fT (fT (fT (fT vi 21 s211) 22 p211) 52 (nI (nd + 1))) 17 (nI a299)) 19 (nI f299)) 20 sg99) 18 wd99) vj (fT (fT (fT (fT (fT (fT (fT (fT vF 45 (upd (vF 45) ((nI dN)).toNatClampNeg (nI fn))) 29 (upd (vF 29) (nI nd).toNatClampNeg 0)) 30 (upd (vF 30) (nI nd).toNatClampNeg (vi 20))) 31 (upd (vF 31) (nI nd).toNatClampNeg 0)) 32 (upd (vF 32) (nI nd).toNatClampNeg 0)) 33 (upd (vF 33) (nI nd).toNatClampNeg (nI fn))) 34 (upd (vF 34) (nI nd).toNatClampNeg 0)) 35 (upd (vF 35) (nI nd).toNatClampNeg 0)) vG) H := fz_P ht hB9.1
          have hD := fz_sd hP (hB9.2.weaken (fun _ q _ h => hFc q.1 h)) rfl
          revert hw9
          refine fz_a2 ?_
          intro f99_0 f99_1
          have hl1 := f99_0.1
          have hl2 := f99_0.2.1
          refine lv_aload_n hx hb dX12_beginFactor_102 rfl (lv_at hl 1 rfl) ?_
          refine lv_iload_n hx hb dX12_beginFactor_103 rfl (lv_at hl 0 rfl) ?_
          have hFc := allFree hD hS hA
          refine va_callv (va_runV (As := [.int (nI nd)]) (rest := []) ⟨hx, hb, hml, hown, hts⟩ (r_X12_end1w l dC dI a k h0 (fT (fT (fT (fT (fT (fT (fT vi 21 s211) 22 p211) 52 (nI (nd + 1))) 17 (nI a299)) 19 (nI f299)) 20 sg99) 18 wd99) vj (fT (fT (fT (fT (fT (fT (fT (fT vF 45 (upd (vF 45) ((nI dN)).toNatClampNeg (nI fn))) 29 (upd (vF 29) (nI nd).toNatClampNeg 0)) 30 (upd (vF 30) (nI nd).toNatClampNeg (vi 20))) 31 (upd (vF 31) (nI nd).toNatClampNeg 0)) 32 (upd (vF 32) (nI nd).toNatClampNeg 0)) 33 (upd (vF 33) (nI nd).toNatClampNeg (nI fn))) 34 (upd (vF 34) (nI nd).toNatClampNeg 0)) 35 (upd (vF 35) (nI nd).toNatClampNeg 0)) vG (nI nd) dN wi xe (hdp) (by first | with_reducible assumption | decide | omega | rfl | assumption) hwi (by first | with_reducible assumption | decide | omega | rfl | assumption) (h48) (by first | with_reducible assumption | decide | omega | rfl | assumption) H.size) (cwV 1 hts gwsRX12_beginFactor_10 rfl rfl rfl hd_yX12_end1_RX12 (by decide +kernel)) (fz_pre (va_recv hK hP (ci := 12) (q0 := 0) rfl rfl) hP hK hD) rfl rfl hl.1 rfl (lv_room (Nat.le_of_ble_eq_true rfl)) dX12_beginFactor_104 (by decide +kernel)) hS (fun q _ h => hFc q h) hFc (fun u t9_ H locs ht hvm hw9 hB9 hz1 hk1 hS => ?_)
          have hP : va_P (dC, dI) vwCl (WR a k h0 (fT (fT (fT (fT (fT (fT (fT (fT (fT (fT (fT vi 21 s211) 22 p211) 52 (nI (nd + 1))) 17 (nI a299)) 19 (nI f299)) 20 sg99) 18 wd99) 74 (nI dN)) 75 (nI (wi - xe))) 76 (nI nd)) 77 ((vF 47) dN)) vj (fT (fT (fT (fT (fT (fT (fT (fT vF 45 (upd (vF 45) ((nI dN)).toNatClampNeg (nI fn))) 29 (upd (vF 29) (nI nd).toNatClampNeg 0)) 30 (upd (vF 30) (nI nd).toNatClampNeg (vi 20))) 31 (upd (vF 31) (nI nd).toNatClampNeg 0)) 32 (upd (vF 32) (nI nd).toNatClampNeg 0)) 33 (upd (vF 33) (nI nd).toNatClampNeg (nI fn))) 34 (upd (vF 34) (nI nd).toNatClampNeg 0)) 35 (upd (vF 35) (nI nd).toNatClampNeg 0)) vG) H := fz_P ht hB9.1
          have hD := fz_sd hP (hB9.2.weaken (fun _ q _ h => hFc q.1 h)) rfl
          refine lv_goto (tgt := 218) hx hb dX12_beginFactor_107 (by decide) ?_
          refine W.widen (k := 0) (n := 0) (by decide +kernel) (by decide +kernel) ?_
          have e9 : fT (fT (fT (fT (fT (fT (fT (fT (fT (fT (fT (fT (fT vi 21 s211) 22 p211) 17 (nI a299)) 19 (nI f299)) 20 sg99) 18 wd99) 52 (nI (nd + 1))) 60 (nI bs)) 30 (nI bd)) 75 (nI (wi - xe))) 74 (nI dN)) 76 (nI nd)) 77 ((vF 47) dN) = fT (fT (fT (fT (fT (fT (fT (fT (fT (fT (fT vi 21 s211) 22 p211) 52 (nI (nd + 1))) 17 (nI a299)) 19 (nI f299)) 20 sg99) 18 wd99) 74 (nI dN)) 75 (nI (wi - xe))) 76 (nI nd)) 77 ((vF 47) dN) := Eq.trans (mv_5 rfl) (Eq.trans (congrArg (fT _ 60) (show nI bs = vi 60 from (by first | with_reducible rfl | with_reducible assumption | (symm; with_reducible assumption) | rfl | assumption | (symm; assumption) | (subst_vars; rfl)))) (Eq.trans (id_12 rfl) (Eq.trans (mv_4 rfl) (Eq.trans (congrArg (fT _ 30) (show nI bd = vi 30 from (by first | with_reducible rfl | with_reducible assumption | (symm; with_reducible assumption) | rfl | assumption | (symm; assumption) | (subst_vars; rfl)))) (Eq.trans (id_11 rfl) (Eq.trans (mv_4 rfl) (Eq.trans (mv_8 rfl) (Eq.trans (mv_8 rfl) (Eq.trans (mv_8 rfl) (Eq.trans (mv_8 rfl) (Eq.trans (mv_7 rfl) (Eq.trans (mv_8 rfl) (Eq.trans (mv_8 rfl) (mv_8 rfl))))))))))))))
          have hP := wr_Pi e9 hP
          have hD := wr_Di e9 hD
          clear e9
          have e9 : fT (fT (fT (fT (fT (fT (fT (fT (fT (fT (fT (fT (fT (fT (fT (fT (fT (fT (fT vF 45 (upd (vF 45) ((nI dN)).toNatClampNeg (nI fn))) 29 (upd (vF 29) (nI nd).toNatClampNeg 0)) 30 (upd (vF 30) (nI nd).toNatClampNeg (vi 20))) 31 (upd (vF 31) (nI nd).toNatClampNeg 0)) 32 (upd (vF 32) (nI nd).toNatClampNeg 0)) 33 (upd (vF 33) (nI nd).toNatClampNeg (nI fn))) 34 (upd (vF 34) (nI nd).toNatClampNeg 0)) 35 (upd (vF 35) (nI nd).toNatClampNeg 0)) 41 (vF 41)) 38 (vF 38)) 37 (vF 37)) 14 (vF 14)) 15 (vF 15)) 36 (vF 36)) 40 (vF 40)) 39 (vF 39)) 42 (vF 42)) 47 (vF 47)) 48 (vF 48) = fT (fT (fT (fT (fT (fT (fT (fT vF 45 (upd (vF 45) ((nI dN)).toNatClampNeg (nI fn))) 29 (upd (vF 29) (nI nd).toNatClampNeg 0)) 30 (upd (vF 30) (nI nd).toNatClampNeg (vi 20))) 31 (upd (vF 31) (nI nd).toNatClampNeg 0)) 32 (upd (vF 32) (nI nd).toNatClampNeg 0)) 33 (upd (vF 33) (nI nd).toNatClampNeg (nI fn))) 34 (upd (vF 34) (nI nd).toNatClampNeg 0)) 35 (upd (vF 35) (nI nd).toNatClampNeg 0) := Eq.trans (mv_10 rfl) (Eq.trans (id_18 rfl) (Eq.trans (mv_9 rfl) (Eq.trans (id_17 rfl) (Eq.trans (mv_8 rfl) (Eq.trans (id_16 rfl) (Eq.trans (mv_7 rfl) (Eq.trans (id_15 rfl) (Eq.trans (mv_6 rfl) (Eq.trans (id_14 rfl) (Eq.trans (mv_5 rfl) (Eq.trans (id_13 rfl) (Eq.trans (mv_4 rfl) (Eq.trans (id_12 rfl) (Eq.trans (mv_3 rfl) (Eq.trans (id_11 rfl) (Eq.trans (mv_2 rfl) (Eq.trans (id_10 rfl) (Eq.trans (mv_1 rfl) (Eq.trans (id_9 rfl) (id_8 rfl))))))))))))))))))))
          have hP := wr_PF e9 hP
          have hD := wr_DF e9 hD
          clear e9
          exact W.vret hx hb hr (fun t9_ ht hW => ⟨⟨(a299, f299, sg99, wd99, s211, p211, (upd (vF 29) (nI nd).toNatClampNeg 0), (upd (vF 30) (nI nd).toNatClampNeg (vi 20)), (upd (vF 31) (nI nd).toNatClampNeg 0), (upd (vF 32) (nI nd).toNatClampNeg 0), (upd (vF 33) (nI nd).toNatClampNeg (nI fn)), (upd (vF 34) (nI nd).toNatClampNeg 0), (upd (vF 35) (nI nd).toNatClampNeg 0), (vF 14), (vF 15), (vF 36), (vF 37), (vF 38), (vF 39), (vF 40), (vF 41), (vF 42), (upd (vF 45) ((nI dN)).toNatClampNeg (nI fn)), (vF 47), (vF 48), dN, (wi - xe), (nd + 1), bd, bs, (nI nd), ((vF 47) dN), (gG.add nd 0 (51 - 2 * (cw + xe)) 0)), rfl, by (try dsimp only); exact ⟨f99_0, by omega, (show 0 ≤ (s211).toInt by rw [f11_0]; decide), Or.inr ⟨by (have e9 : wi - xe = cw := by omega); rw [e9]; exact RdS.pop (ex := xe) hKN.1 hBel hKN.2.1 (Nat.le_refl _) (fun q hq => ⟨rfl, rfl, rfl, rfl, rfl⟩) (by omega) (fun h8 => by omega) (by decide) (Or.inl ⟨by decide, hLN⟩) (by omega) (by show gG.vN + 1 + un ≤ nd + 1; omega) (by omega) (by omega) hKN.2.2.2 (by omega), hKN.2.1.less (Nat.zero_le _)⟩, by omega, by omega, hbo⟩, by rw [ht]; exact hP, hD⟩, hS.F ht⟩) hS.2.2 dX12_beginFactor_218
  · refine lv_if_ne (tgt := 18) hx hb dX12_beginFactor_14 (by decide) (fun c9 => absurd c9 (by decide)) (fun _ => ?_)
    refine W.widen (k := 0) (n := 0) (by decide +kernel) (by decide +kernel) ?_
    have e9 : fT (fT (fT (fT (fT (fT (fT (fT (fT (fT (fT (fT (fT vi 21 s211) 22 p211) 17 (nI an)) 19 (nI fn)) 20 (vi 20)) 18 (vi 18)) 52 (nI nd)) 60 (nI bs)) 30 (nI bd)) 75 (nI wi)) 74 (nI (dN + 1))) 76 (vi 76)) 77 (vi 77) = fT (fT vi 21 s211) 22 p211 := Eq.trans (mv_10 rfl) (Eq.trans (congrArg (fT _ 17) (show nI an = vi 17 from (by first | with_reducible rfl | with_reducible assumption | (symm; with_reducible assumption) | rfl | assumption | (symm; assumption) | (subst_vars; rfl)))) (Eq.trans (id_12 rfl) (Eq.trans (mv_9 rfl) (Eq.trans (congrArg (fT _ 19) (show nI fn = vi 19 from (by first | with_reducible rfl | with_reducible assumption | (symm; with_reducible assumption) | rfl | assumption | (symm; assumption) | (subst_vars; rfl)))) (Eq.trans (id_11 rfl) (Eq.trans (mv_8 rfl) (Eq.trans (id_10 rfl) (Eq.trans (mv_7 rfl) (Eq.trans (id_9 rfl) (Eq.trans (mv_6 rfl) (Eq.trans (congrArg (fT _ 52) (show nI nd = vi 52 from (by first | with_reducible rfl | with_reducible assumption | (symm; with_reducible assumption) | rfl | assumption | (symm; assumption) | (subst_vars; rfl)))) (Eq.trans (id_8 rfl) (Eq.trans (mv_5 rfl) (Eq.trans (congrArg (fT _ 60) (show nI bs = vi 60 from (by first | with_reducible rfl | with_reducible assumption | (symm; with_reducible assumption) | rfl | assumption | (symm; assumption) | (subst_vars; rfl)))) (Eq.trans (id_7 rfl) (Eq.trans (mv_4 rfl) (Eq.trans (congrArg (fT _ 30) (show nI bd = vi 30 from (by first | with_reducible rfl | with_reducible assumption | (symm; with_reducible assumption) | rfl | assumption | (symm; assumption) | (subst_vars; rfl)))) (Eq.trans (id_6 rfl) (Eq.trans (mv_3 rfl) (Eq.trans (congrArg (fT _ 75) (show nI wi = vi 75 from (by first | with_reducible rfl | with_reducible assumption | (symm; with_reducible assumption) | rfl | assumption | (symm; assumption) | (subst_vars; rfl)))) (Eq.trans (id_5 rfl) (Eq.trans (mv_2 rfl) (Eq.trans (congrArg (fT _ 74) (show nI (dN + 1) = vi 74 from (by first | with_reducible rfl | with_reducible assumption | (symm; with_reducible assumption) | rfl | assumption | (symm; assumption) | (subst_vars; rfl)))) (Eq.trans (id_4 rfl) (Eq.trans (mv_1 rfl) (Eq.trans (id_3 rfl) (id_2 rfl)))))))))))))))))))))))))))
    have hP := wr_Pi e9 hP
    have hD := wr_Di e9 hD
    clear e9
    have e9 : fT (fT (fT (fT (fT (fT (fT (fT (fT (fT (fT (fT (fT (fT (fT (fT (fT (fT (fT vF 45 (upd (vF 45) ((nI dN)).toNatClampNeg (nI fn))) 29 (vF 29)) 30 (vF 30)) 31 (vF 31)) 32 (vF 32)) 33 (vF 33)) 34 (vF 34)) 35 (vF 35)) 41 (vF 41)) 38 (vF 38)) 37 (vF 37)) 14 (vF 14)) 15 (vF 15)) 36 (vF 36)) 40 (vF 40)) 39 (vF 39)) 42 (vF 42)) 47 (vF 47)) 48 (vF 48) = fT vF 45 (upd (vF 45) ((nI dN)).toNatClampNeg (nI fn)) := Eq.trans (mv_17 rfl) (Eq.trans (id_18 rfl) (Eq.trans (mv_16 rfl) (Eq.trans (id_17 rfl) (Eq.trans (mv_15 rfl) (Eq.trans (id_16 rfl) (Eq.trans (mv_14 rfl) (Eq.trans (id_15 rfl) (Eq.trans (mv_13 rfl) (Eq.trans (id_14 rfl) (Eq.trans (mv_12 rfl) (Eq.trans (id_13 rfl) (Eq.trans (mv_11 rfl) (Eq.trans (id_12 rfl) (Eq.trans (mv_10 rfl) (Eq.trans (id_11 rfl) (Eq.trans (mv_9 rfl) (Eq.trans (id_10 rfl) (Eq.trans (mv_8 rfl) (Eq.trans (id_9 rfl) (Eq.trans (mv_7 rfl) (Eq.trans (id_8 rfl) (Eq.trans (mv_6 rfl) (Eq.trans (id_7 rfl) (Eq.trans (mv_5 rfl) (Eq.trans (id_6 rfl) (Eq.trans (mv_4 rfl) (Eq.trans (id_5 rfl) (Eq.trans (mv_3 rfl) (Eq.trans (id_4 rfl) (Eq.trans (mv_2 rfl) (Eq.trans (id_3 rfl) (Eq.trans (mv_1 rfl) (Eq.trans (id_2 rfl) (id_1 rfl))))))))))))))))))))))))))))))))))
    have hP := wr_PF e9 hP
    have hD := wr_DF e9 hD
    clear e9
    exact W.vret hx hb hr (fun t9_ ht hW => ⟨⟨(an, fn, (vi 20), (vi 18), s211, p211, (vF 29), (vF 30), (vF 31), (vF 32), (vF 33), (vF 34), (vF 35), (vF 14), (vF 15), (vF 36), (vF 37), (vF 38), (vF 39), (vF 40), (vF 41), (vF 42), (upd (vF 45) ((nI dN)).toNatClampNeg (nI fn)), (vF 47), (vF 48), (dN + 1), wi, nd, bd, bs, (vi 76), (vi 77), gG), rfl, by (try dsimp only); exact ⟨hLx, by omega, by omega, Or.inl f11_0, by omega, by omega, hbo⟩, by rw [ht]; exact hP, hD⟩, hS.F ht⟩) hS.2.2 dX12_beginFactor_17
end
section
theorem hd_yX12_beginFactor_RX12 : yX12_beginFactor.cls = RX12 ∧ yX12_beginFactor.cls ≠ "java/lang/invoke/MethodHandle" ∧ yX12_beginFactor.cls ≠ "java/lang/invoke/VarHandle" ∧ (parseMethodDescriptor yX12_beginFactor.desc).map (fun d => d.parameters.length) = some 1 := by decide +kernel
theorem dX12_readFactor_0 : decode cX12_readFactor 0 = .ok (.aload_n 0, 1) := dk_42 (by decide +kernel)
theorem dX12_readFactor_1 : decode cX12_readFactor 1 = .ok (.getfield 143, 3) := dk_180 (by decide +kernel)
theorem dX12_readFactor_4 : decode cX12_readFactor 4 = .ok (.iload_n 1, 1) := dk_27 (by decide +kernel)
theorem dX12_readFactor_5 : decode cX12_readFactor 5 = .ok (.iaload, 1) := dk_46 (by decide +kernel)
theorem dX12_readFactor_6 : decode cX12_readFactor 6 = .ok (.tableswitch 265 0 5 #[38, 46, 70, 90, 190, 242], 38) := by decide +kernel
theorem dX12_readFactor_44 : decode cX12_readFactor 44 = .ok (.aload_n 0, 1) := dk_42 (by decide +kernel)
theorem dX12_readFactor_45 : decode cX12_readFactor 45 = .ok (.iload_n 1, 1) := dk_27 (by decide +kernel)
theorem dX12_readFactor_46 : decode cX12_readFactor 46 = .ok (.invokevirtual 608, 3) := dk_182 (by decide +kernel)
theorem dX12_readFactor_49 : decode cX12_readFactor 49 = .ok (.goto 267, 3) := dk_167 (by decide +kernel)
theorem dX12_readFactor_52 : decode cX12_readFactor 52 = .ok (.aload_n 0, 1) := dk_42 (by decide +kernel)
theorem dX12_readFactor_53 : decode cX12_readFactor 53 = .ok (.aload_n 0, 1) := dk_42 (by decide +kernel)
theorem dX12_readFactor_54 : decode cX12_readFactor 54 = .ok (.iconst 4, 1) := dk_7 (by decide +kernel)
theorem dX12_readFactor_55 : decode cX12_readFactor 55 = .ok (.aload_n 0, 1) := dk_42 (by decide +kernel)
theorem dX12_readFactor_56 : decode cX12_readFactor 56 = .ok (.getfield 580, 3) := dk_180 (by decide +kernel)
theorem dX12_readFactor_59 : decode cX12_readFactor 59 = .ok (.iconst 0, 1) := dk_3 (by decide +kernel)
theorem dX12_readFactor_60 : decode cX12_readFactor 60 = .ok (.iconst 0, 1) := dk_3 (by decide +kernel)
theorem dX12_readFactor_61 : decode cX12_readFactor 61 = .ok (.aload_n 0, 1) := dk_42 (by decide +kernel)
theorem dX12_readFactor_62 : decode cX12_readFactor 62 = .ok (.getfield 158, 3) := dk_180 (by decide +kernel)
theorem dX12_readFactor_65 : decode cX12_readFactor 65 = .ok (.iload_n 1, 1) := dk_27 (by decide +kernel)
theorem dX12_readFactor_66 : decode cX12_readFactor 66 = .ok (.iaload, 1) := dk_46 (by decide +kernel)
theorem dX12_readFactor_67 : decode cX12_readFactor 67 = .ok (.invokevirtual 601, 3) := dk_182 (by decide +kernel)
theorem dX12_readFactor_70 : decode cX12_readFactor 70 = .ok (.invokevirtual 605, 3) := dk_182 (by decide +kernel)
theorem dX12_readFactor_73 : decode cX12_readFactor 73 = .ok (.goto 243, 3) := dk_167 (by decide +kernel)
theorem dX12_readFactor_76 : decode cX12_readFactor 76 = .ok (.aload_n 0, 1) := dk_42 (by decide +kernel)
theorem dX12_readFactor_77 : decode cX12_readFactor 77 = .ok (.bipush 41, 2) := dk_16 (by decide +kernel)
theorem dX12_readFactor_79 : decode cX12_readFactor 79 = .ok (.invokevirtual 611, 3) := dk_182 (by decide +kernel)
theorem dX12_readFactor_82 : decode cX12_readFactor 82 = .ok (.ifCond .eq 234, 3) := dk_153 (by decide +kernel)
theorem dX12_readFactor_85 : decode cX12_readFactor 85 = .ok (.aload_n 0, 1) := dk_42 (by decide +kernel)
theorem dX12_readFactor_86 : decode cX12_readFactor 86 = .ok (.aload_n 0, 1) := dk_42 (by decide +kernel)
theorem dX12_readFactor_87 : decode cX12_readFactor 87 = .ok (.getfield 580, 3) := dk_180 (by decide +kernel)
theorem dX12_readFactor_90 : decode cX12_readFactor 90 = .ok (.invokevirtual 605, 3) := dk_182 (by decide +kernel)
theorem dX12_readFactor_93 : decode cX12_readFactor 93 = .ok (.goto 223, 3) := dk_167 (by decide +kernel)
theorem dX12_readFactor_96 : decode cX12_readFactor 96 = .ok (.aload_n 0, 1) := dk_42 (by decide +kernel)
theorem dX12_readFactor_97 : decode cX12_readFactor 97 = .ok (.getfield 149, 3) := dk_180 (by decide +kernel)
theorem dX12_readFactor_100 : decode cX12_readFactor 100 = .ok (.iload_n 1, 1) := dk_27 (by decide +kernel)
theorem dX12_readFactor_101 : decode cX12_readFactor 101 = .ok (.aload_n 0, 1) := dk_42 (by decide +kernel)
theorem dX12_readFactor_102 : decode cX12_readFactor 102 = .ok (.getfield 580, 3) := dk_180 (by decide +kernel)
theorem dX12_readFactor_105 : decode cX12_readFactor 105 = .ok (.iastore, 1) := dk_79 (by decide +kernel)
theorem dX12_readFactor_106 : decode cX12_readFactor 106 = .ok (.aload_n 0, 1) := dk_42 (by decide +kernel)
theorem dX12_readFactor_107 : decode cX12_readFactor 107 = .ok (.getfield 125, 3) := dk_180 (by decide +kernel)
theorem dX12_readFactor_110 : decode cX12_readFactor 110 = .ok (.aload_n 0, 1) := dk_42 (by decide +kernel)
theorem dX12_readFactor_111 : decode cX12_readFactor 111 = .ok (.getfield 146, 3) := dk_180 (by decide +kernel)
theorem dX12_readFactor_114 : decode cX12_readFactor 114 = .ok (.iload_n 1, 1) := dk_27 (by decide +kernel)
theorem dX12_readFactor_115 : decode cX12_readFactor 115 = .ok (.iaload, 1) := dk_46 (by decide +kernel)
theorem dX12_readFactor_116 : decode cX12_readFactor 116 = .ok (.aload_n 0, 1) := dk_42 (by decide +kernel)
theorem dX12_readFactor_117 : decode cX12_readFactor 117 = .ok (.getfield 583, 3) := dk_180 (by decide +kernel)
theorem dX12_readFactor_120 : decode cX12_readFactor 120 = .ok (.iastore, 1) := dk_79 (by decide +kernel)
theorem dX12_readFactor_121 : decode cX12_readFactor 121 = .ok (.aload_n 0, 1) := dk_42 (by decide +kernel)
theorem dX12_readFactor_122 : decode cX12_readFactor 122 = .ok (.getfield 116, 3) := dk_180 (by decide +kernel)
theorem dX12_readFactor_125 : decode cX12_readFactor 125 = .ok (.aload_n 0, 1) := dk_42 (by decide +kernel)
theorem dX12_readFactor_126 : decode cX12_readFactor 126 = .ok (.getfield 146, 3) := dk_180 (by decide +kernel)
theorem dX12_readFactor_129 : decode cX12_readFactor 129 = .ok (.iload_n 1, 1) := dk_27 (by decide +kernel)
theorem dX12_readFactor_130 : decode cX12_readFactor 130 = .ok (.iaload, 1) := dk_46 (by decide +kernel)
theorem dX12_readFactor_131 : decode cX12_readFactor 131 = .ok (.aload_n 0, 1) := dk_42 (by decide +kernel)
theorem dX12_readFactor_132 : decode cX12_readFactor 132 = .ok (.getfield 580, 3) := dk_180 (by decide +kernel)
theorem dX12_readFactor_135 : decode cX12_readFactor 135 = .ok (.iastore, 1) := dk_79 (by decide +kernel)
theorem dX12_readFactor_136 : decode cX12_readFactor 136 = .ok (.aload_n 0, 1) := dk_42 (by decide +kernel)
theorem dX12_readFactor_137 : decode cX12_readFactor 137 = .ok (.aload_n 0, 1) := dk_42 (by decide +kernel)
theorem dX12_readFactor_138 : decode cX12_readFactor 138 = .ok (.getfield 146, 3) := dk_180 (by decide +kernel)
theorem dX12_readFactor_141 : decode cX12_readFactor 141 = .ok (.iload_n 1, 1) := dk_27 (by decide +kernel)
theorem dX12_readFactor_142 : decode cX12_readFactor 142 = .ok (.iaload, 1) := dk_46 (by decide +kernel)
theorem dX12_readFactor_143 : decode cX12_readFactor 143 = .ok (.invokevirtual 614, 3) := dk_182 (by decide +kernel)
theorem dX12_readFactor_146 : decode cX12_readFactor 146 = .ok (.iconst 1, 1) := dk_4 (by decide +kernel)
theorem dX12_readFactor_147 : decode cX12_readFactor 147 = .ok (.if_icmp .ne 25, 3) := dk_160 (by decide +kernel)
theorem dX12_readFactor_150 : decode cX12_readFactor 150 = .ok (.aload_n 0, 1) := dk_42 (by decide +kernel)
theorem dX12_readFactor_151 : decode cX12_readFactor 151 = .ok (.bipush 93, 2) := dk_16 (by decide +kernel)
theorem dX12_readFactor_153 : decode cX12_readFactor 153 = .ok (.invokevirtual 611, 3) := dk_182 (by decide +kernel)
theorem dX12_readFactor_156 : decode cX12_readFactor 156 = .ok (.ifCond .eq 160, 3) := dk_153 (by decide +kernel)
theorem dX12_readFactor_159 : decode cX12_readFactor 159 = .ok (.aload_n 0, 1) := dk_42 (by decide +kernel)
theorem dX12_readFactor_160 : decode cX12_readFactor 160 = .ok (.aload_n 0, 1) := dk_42 (by decide +kernel)
theorem dX12_readFactor_161 : decode cX12_readFactor 161 = .ok (.getfield 146, 3) := dk_180 (by decide +kernel)
theorem dX12_readFactor_164 : decode cX12_readFactor 164 = .ok (.iload_n 1, 1) := dk_27 (by decide +kernel)
theorem dX12_readFactor_165 : decode cX12_readFactor 165 = .ok (.iaload, 1) := dk_46 (by decide +kernel)
theorem dX12_readFactor_166 : decode cX12_readFactor 166 = .ok (.invokevirtual 605, 3) := dk_182 (by decide +kernel)
theorem dX12_readFactor_169 : decode cX12_readFactor 169 = .ok (.goto 147, 3) := dk_167 (by decide +kernel)
theorem dX12_readFactor_172 : decode cX12_readFactor 172 = .ok (.aload_n 0, 1) := dk_42 (by decide +kernel)
theorem dX12_readFactor_173 : decode cX12_readFactor 173 = .ok (.bipush 44, 2) := dk_16 (by decide +kernel)
theorem dX12_readFactor_175 : decode cX12_readFactor 175 = .ok (.invokevirtual 611, 3) := dk_182 (by decide +kernel)
theorem dX12_readFactor_178 : decode cX12_readFactor 178 = .ok (.ifCond .eq 138, 3) := dk_153 (by decide +kernel)
theorem dX12_readFactor_181 : decode cX12_readFactor 181 = .ok (.aload_n 0, 1) := dk_42 (by decide +kernel)
theorem dX12_readFactor_182 : decode cX12_readFactor 182 = .ok (.getfield 143, 3) := dk_180 (by decide +kernel)
theorem dX12_readFactor_185 : decode cX12_readFactor 185 = .ok (.iload_n 1, 1) := dk_27 (by decide +kernel)
theorem dX12_readFactor_186 : decode cX12_readFactor 186 = .ok (.iconst 4, 1) := dk_7 (by decide +kernel)
theorem dX12_readFactor_187 : decode cX12_readFactor 187 = .ok (.iastore, 1) := dk_79 (by decide +kernel)
theorem dX12_readFactor_188 : decode cX12_readFactor 188 = .ok (.aload_n 0, 1) := dk_42 (by decide +kernel)
theorem dX12_readFactor_189 : decode cX12_readFactor 189 = .ok (.iconst 0, 1) := dk_3 (by decide +kernel)
theorem dX12_readFactor_190 : decode cX12_readFactor 190 = .ok (.invokevirtual 586, 3) := dk_182 (by decide +kernel)
theorem dX12_readFactor_193 : decode cX12_readFactor 193 = .ok (.goto 123, 3) := dk_167 (by decide +kernel)
theorem dX12_readFactor_196 : decode cX12_readFactor 196 = .ok (.aload_n 0, 1) := dk_42 (by decide +kernel)
theorem dX12_readFactor_197 : decode cX12_readFactor 197 = .ok (.getfield 128, 3) := dk_180 (by decide +kernel)
theorem dX12_readFactor_200 : decode cX12_readFactor 200 = .ok (.aload_n 0, 1) := dk_42 (by decide +kernel)
theorem dX12_readFactor_201 : decode cX12_readFactor 201 = .ok (.getfield 146, 3) := dk_180 (by decide +kernel)
theorem dX12_readFactor_204 : decode cX12_readFactor 204 = .ok (.iload_n 1, 1) := dk_27 (by decide +kernel)
theorem dX12_readFactor_205 : decode cX12_readFactor 205 = .ok (.iaload, 1) := dk_46 (by decide +kernel)
theorem dX12_readFactor_206 : decode cX12_readFactor 206 = .ok (.aload_n 0, 1) := dk_42 (by decide +kernel)
theorem dX12_readFactor_207 : decode cX12_readFactor 207 = .ok (.getfield 583, 3) := dk_180 (by decide +kernel)
theorem dX12_readFactor_210 : decode cX12_readFactor 210 = .ok (.iastore, 1) := dk_79 (by decide +kernel)
theorem dX12_readFactor_211 : decode cX12_readFactor 211 = .ok (.aload_n 0, 1) := dk_42 (by decide +kernel)
theorem dX12_readFactor_212 : decode cX12_readFactor 212 = .ok (.getfield 119, 3) := dk_180 (by decide +kernel)
theorem dX12_readFactor_215 : decode cX12_readFactor 215 = .ok (.aload_n 0, 1) := dk_42 (by decide +kernel)
theorem dX12_readFactor_216 : decode cX12_readFactor 216 = .ok (.getfield 146, 3) := dk_180 (by decide +kernel)
theorem dX12_readFactor_219 : decode cX12_readFactor 219 = .ok (.iload_n 1, 1) := dk_27 (by decide +kernel)
theorem dX12_readFactor_220 : decode cX12_readFactor 220 = .ok (.iaload, 1) := dk_46 (by decide +kernel)
theorem dX12_readFactor_221 : decode cX12_readFactor 221 = .ok (.aload_n 0, 1) := dk_42 (by decide +kernel)
theorem dX12_readFactor_222 : decode cX12_readFactor 222 = .ok (.getfield 580, 3) := dk_180 (by decide +kernel)
theorem dX12_readFactor_225 : decode cX12_readFactor 225 = .ok (.iastore, 1) := dk_79 (by decide +kernel)
theorem dX12_readFactor_226 : decode cX12_readFactor 226 = .ok (.aload_n 0, 1) := dk_42 (by decide +kernel)
theorem dX12_readFactor_227 : decode cX12_readFactor 227 = .ok (.bipush 93, 2) := dk_16 (by decide +kernel)
theorem dX12_readFactor_229 : decode cX12_readFactor 229 = .ok (.invokevirtual 611, 3) := dk_182 (by decide +kernel)
theorem dX12_readFactor_232 : decode cX12_readFactor 232 = .ok (.ifCond .eq 84, 3) := dk_153 (by decide +kernel)
theorem dX12_readFactor_235 : decode cX12_readFactor 235 = .ok (.aload_n 0, 1) := dk_42 (by decide +kernel)
theorem dX12_readFactor_236 : decode cX12_readFactor 236 = .ok (.aload_n 0, 1) := dk_42 (by decide +kernel)
theorem dX12_readFactor_237 : decode cX12_readFactor 237 = .ok (.getfield 146, 3) := dk_180 (by decide +kernel)
theorem dX12_readFactor_240 : decode cX12_readFactor 240 = .ok (.iload_n 1, 1) := dk_27 (by decide +kernel)
theorem dX12_readFactor_241 : decode cX12_readFactor 241 = .ok (.iaload, 1) := dk_46 (by decide +kernel)
theorem dX12_readFactor_242 : decode cX12_readFactor 242 = .ok (.invokevirtual 605, 3) := dk_182 (by decide +kernel)
theorem dX12_readFactor_245 : decode cX12_readFactor 245 = .ok (.goto 71, 3) := dk_167 (by decide +kernel)
theorem dX12_readFactor_248 : decode cX12_readFactor 248 = .ok (.aload_n 0, 1) := dk_42 (by decide +kernel)
theorem dX12_readFactor_249 : decode cX12_readFactor 249 = .ok (.getfield 116, 3) := dk_180 (by decide +kernel)
theorem dX12_readFactor_252 : decode cX12_readFactor 252 = .ok (.aload_n 0, 1) := dk_42 (by decide +kernel)
theorem dX12_readFactor_253 : decode cX12_readFactor 253 = .ok (.getfield 146, 3) := dk_180 (by decide +kernel)
theorem dX12_readFactor_256 : decode cX12_readFactor 256 = .ok (.iload_n 1, 1) := dk_27 (by decide +kernel)
theorem dX12_readFactor_257 : decode cX12_readFactor 257 = .ok (.iaload, 1) := dk_46 (by decide +kernel)
theorem dX12_readFactor_258 : decode cX12_readFactor 258 = .ok (.aload_n 0, 1) := dk_42 (by decide +kernel)
theorem dX12_readFactor_259 : decode cX12_readFactor 259 = .ok (.getfield 580, 3) := dk_180 (by decide +kernel)
theorem dX12_readFactor_262 : decode cX12_readFactor 262 = .ok (.iastore, 1) := dk_79 (by decide +kernel)
theorem dX12_readFactor_263 : decode cX12_readFactor 263 = .ok (.aload_n 0, 1) := dk_42 (by decide +kernel)
theorem dX12_readFactor_264 : decode cX12_readFactor 264 = .ok (.iload_n 1, 1) := dk_27 (by decide +kernel)
theorem dX12_readFactor_265 : decode cX12_readFactor 265 = .ok (.invokevirtual 617, 3) := dk_182 (by decide +kernel)
theorem dX12_readFactor_268 : decode cX12_readFactor 268 = .ok (.goto 48, 3) := dk_167 (by decide +kernel)
theorem dX12_readFactor_271 : decode cX12_readFactor 271 = .ok (.aload_n 0, 1) := dk_42 (by decide +kernel)
theorem dX12_readFactor_272 : decode cX12_readFactor 272 = .ok (.getfield 119, 3) := dk_180 (by decide +kernel)
theorem dX12_readFactor_275 : decode cX12_readFactor 275 = .ok (.aload_n 0, 1) := dk_42 (by decide +kernel)
theorem dX12_readFactor_276 : decode cX12_readFactor 276 = .ok (.getfield 146, 3) := dk_180 (by decide +kernel)
theorem dX12_readFactor_279 : decode cX12_readFactor 279 = .ok (.iload_n 1, 1) := dk_27 (by decide +kernel)
theorem dX12_readFactor_280 : decode cX12_readFactor 280 = .ok (.iaload, 1) := dk_46 (by decide +kernel)
theorem dX12_readFactor_281 : decode cX12_readFactor 281 = .ok (.aload_n 0, 1) := dk_42 (by decide +kernel)
theorem dX12_readFactor_282 : decode cX12_readFactor 282 = .ok (.getfield 580, 3) := dk_180 (by decide +kernel)
theorem dX12_readFactor_285 : decode cX12_readFactor 285 = .ok (.iastore, 1) := dk_79 (by decide +kernel)
theorem dX12_readFactor_286 : decode cX12_readFactor 286 = .ok (.aload_n 0, 1) := dk_42 (by decide +kernel)
theorem dX12_readFactor_287 : decode cX12_readFactor 287 = .ok (.aload_n 0, 1) := dk_42 (by decide +kernel)
theorem dX12_readFactor_288 : decode cX12_readFactor 288 = .ok (.getfield 137, 3) := dk_180 (by decide +kernel)
theorem dX12_readFactor_291 : decode cX12_readFactor 291 = .ok (.aload_n 0, 1) := dk_42 (by decide +kernel)
theorem dX12_readFactor_292 : decode cX12_readFactor 292 = .ok (.getfield 113, 3) := dk_180 (by decide +kernel)
theorem dX12_readFactor_295 : decode cX12_readFactor 295 = .ok (.aload_n 0, 1) := dk_42 (by decide +kernel)
theorem dX12_readFactor_296 : decode cX12_readFactor 296 = .ok (.getfield 146, 3) := dk_180 (by decide +kernel)
theorem dX12_readFactor_299 : decode cX12_readFactor 299 = .ok (.iload_n 1, 1) := dk_27 (by decide +kernel)
theorem dX12_readFactor_300 : decode cX12_readFactor 300 = .ok (.iaload, 1) := dk_46 (by decide +kernel)
theorem dX12_readFactor_301 : decode cX12_readFactor 301 = .ok (.iaload, 1) := dk_46 (by decide +kernel)
theorem dX12_readFactor_302 : decode cX12_readFactor 302 = .ok (.iaload, 1) := dk_46 (by decide +kernel)
theorem dX12_readFactor_303 : decode cX12_readFactor 303 = .ok (.putfield 540, 3) := dk_181 (by decide +kernel)
theorem dX12_readFactor_306 : decode cX12_readFactor 306 = .ok (.aload_n 0, 1) := dk_42 (by decide +kernel)
theorem dX12_readFactor_307 : decode cX12_readFactor 307 = .ok (.aload_n 0, 1) := dk_42 (by decide +kernel)
theorem dX12_readFactor_308 : decode cX12_readFactor 308 = .ok (.getfield 146, 3) := dk_180 (by decide +kernel)
theorem dX12_readFactor_311 : decode cX12_readFactor 311 = .ok (.iload_n 1, 1) := dk_27 (by decide +kernel)
theorem dX12_readFactor_312 : decode cX12_readFactor 312 = .ok (.iaload, 1) := dk_46 (by decide +kernel)
theorem dX12_readFactor_313 : decode cX12_readFactor 313 = .ok (.invokevirtual 605, 3) := dk_182 (by decide +kernel)
theorem dX12_readFactor_316 : decode cX12_readFactor 316 = .ok (.return_, 1) := dk_177 (by decide +kernel)
def wsRX12_readFactor : List Cond := .code yX12_readFactor cX12_readFactor 2 none :: ([.fieldLink RX12 143 "OptimaWorksModel" "step" "[I", .fieldLink RX12 580 "OptimaWorksModel" "result" "I", .fieldLink RX12 158 "OptimaWorksModel" "at1" "[I", .fieldLink RX12 149 "OptimaWorksModel" "got2" "[I", .fieldLink RX12 125 "OptimaWorksModel" "firstA" "[I", .fieldLink RX12 146 "OptimaWorksModel" "got1" "[I", .fieldLink RX12 583 "OptimaWorksModel" "resultFirst" "I", .fieldLink RX12 116 "OptimaWorksModel" "partB" "[I", .fieldLink RX12 128 "OptimaWorksModel" "firstB" "[I", .fieldLink RX12 119 "OptimaWorksModel" "partC" "[I", .fieldLink RX12 137 "OptimaWorksModel" "bindAt" "[I", .fieldLink RX12 113 "OptimaWorksModel" "partA" "[I", .fieldLink RX12 540 "OptimaWorksModel" "binders" "I"] ++ wsX120 ++ (wsV RX12 608 RX12 yX12_beginFactor wsRX12_beginFactor) ++ (wsV RX12 601 RX12 yX12_node wsRX12_node) ++ (wsV RX12 605 RX12 yX12_end1 wsRend1w) ++ (wsV RX12 611 RX12 yX12_needSign wsRX12_needSign) ++ (wsV RX12 614 RX12 yX12_placesOf wsRX12_placesOf) ++ (wsV RX12 586 RX12 yX12_begin1 wsRX12_begin1) ++ (wsV RX12 617 RX12 yX12_closeSum wsRX12_closeSum))
theorem iwsRX12_readFactor_in12 : ∀ w ∈ wsX120, w ∈ wsRX12_readFactor := fun _ h => List.mem_cons_of_mem _ (List.mem_append_left _ (List.mem_append_left _ (List.mem_append_left _ (List.mem_append_left _ (List.mem_append_left _ (List.mem_append_left _ (List.mem_append_left _ (List.mem_append_right _ h))))))))
theorem gwsRX12_readFactor_0 : GoodIn wsRX12_readFactor (wsV RX12 608 RX12 yX12_beginFactor wsRX12_beginFactor) := goodIn_sub (fun _ h => List.mem_cons_of_mem _ (List.mem_append_left _ (List.mem_append_left _ (List.mem_append_left _ (List.mem_append_left _ (List.mem_append_left _ (List.mem_append_left _ (List.mem_append_right _ h)))))))) (gdV (by decide +kernel) gdwsRX12_beginFactor)
theorem gwsRX12_readFactor_1 : GoodIn wsRX12_readFactor (wsV RX12 601 RX12 yX12_node wsRX12_node) := goodIn_sub (fun _ h => List.mem_cons_of_mem _ (List.mem_append_left _ (List.mem_append_left _ (List.mem_append_left _ (List.mem_append_left _ (List.mem_append_left _ (List.mem_append_right _ h))))))) (gdV (by decide +kernel) gdwsRX12_node)
theorem gwsRX12_readFactor_2 : GoodIn wsRX12_readFactor (wsV RX12 605 RX12 yX12_end1 wsRend1w) := goodIn_sub (fun _ h => List.mem_cons_of_mem _ (List.mem_append_left _ (List.mem_append_left _ (List.mem_append_left _ (List.mem_append_left _ (List.mem_append_right _ h)))))) (gdV (by decide +kernel) gdwsRend1w)
theorem gwsRX12_readFactor_3 : GoodIn wsRX12_readFactor (wsV RX12 611 RX12 yX12_needSign wsRX12_needSign) := goodIn_sub (fun _ h => List.mem_cons_of_mem _ (List.mem_append_left _ (List.mem_append_left _ (List.mem_append_left _ (List.mem_append_right _ h))))) (gdV (by decide +kernel) gdwsRX12_needSign)
theorem gwsRX12_readFactor_4 : GoodIn wsRX12_readFactor (wsV RX12 614 RX12 yX12_placesOf wsRX12_placesOf) := goodIn_sub (fun _ h => List.mem_cons_of_mem _ (List.mem_append_left _ (List.mem_append_left _ (List.mem_append_right _ h)))) (gdV (by decide +kernel) gdwsRX12_placesOf)
theorem gwsRX12_readFactor_5 : GoodIn wsRX12_readFactor (wsV RX12 586 RX12 yX12_begin1 wsRX12_begin1) := goodIn_sub (fun _ h => List.mem_cons_of_mem _ (List.mem_append_left _ (List.mem_append_right _ h))) (gdV (by decide +kernel) gdwsRX12_begin1)
theorem gwsRX12_readFactor_6 : GoodIn wsRX12_readFactor (wsV RX12 617 RX12 yX12_closeSum wsRX12_closeSum) := goodIn_sub (fun _ h => List.mem_cons_of_mem _ (List.mem_append_right _ h)) (gdV (by decide +kernel) gdwsRX12_closeSum)
theorem gdwsRX12_readFactor : wsRX12_readFactor.all goodWord = true := gdC rfl (gdA (gdA (gdA (gdA (gdA (gdA (gdA (gdA (by decide +kernel : ([.fieldLink RX12 143 "OptimaWorksModel" "step" "[I", .fieldLink RX12 580 "OptimaWorksModel" "result" "I", .fieldLink RX12 158 "OptimaWorksModel" "at1" "[I", .fieldLink RX12 149 "OptimaWorksModel" "got2" "[I", .fieldLink RX12 125 "OptimaWorksModel" "firstA" "[I", .fieldLink RX12 146 "OptimaWorksModel" "got1" "[I", .fieldLink RX12 583 "OptimaWorksModel" "resultFirst" "I", .fieldLink RX12 116 "OptimaWorksModel" "partB" "[I", .fieldLink RX12 128 "OptimaWorksModel" "firstB" "[I", .fieldLink RX12 119 "OptimaWorksModel" "partC" "[I", .fieldLink RX12 137 "OptimaWorksModel" "bindAt" "[I", .fieldLink RX12 113 "OptimaWorksModel" "partA" "[I", .fieldLink RX12 540 "OptimaWorksModel" "binders" "I"] : List Cond).all goodWord = true) gdwsX120) (gdV (by decide +kernel) gdwsRX12_beginFactor)) (gdV (by decide +kernel) gdwsRX12_node)) (gdV (by decide +kernel) gdwsRend1w)) (gdV (by decide +kernel) gdwsRX12_needSign)) (gdV (by decide +kernel) gdwsRX12_placesOf)) (gdV (by decide +kernel) gdwsRX12_begin1)) (gdV (by decide +kernel) gdwsRX12_closeSum))
theorem hm_r_X12_readFactor_0 : (.fieldLink RX12 143 "OptimaWorksModel" "step" "[I" : Cond) ∈ wsRX12_readFactor := by decide +kernel
theorem hm_r_X12_readFactor_1 : (.fieldLink RX12 580 "OptimaWorksModel" "result" "I" : Cond) ∈ wsRX12_readFactor := by decide +kernel
theorem hm_r_X12_readFactor_2 : (.fieldLink RX12 146 "OptimaWorksModel" "got1" "[I" : Cond) ∈ wsRX12_readFactor := by decide +kernel
theorem hm_r_X12_readFactor_3 : (.fieldLink RX12 583 "OptimaWorksModel" "resultFirst" "I" : Cond) ∈ wsRX12_readFactor := by decide +kernel
theorem hm_r_X12_readFactor_4 : (.fieldLink RX12 116 "OptimaWorksModel" "partB" "[I" : Cond) ∈ wsRX12_readFactor := by decide +kernel
theorem hm_r_X12_readFactor_5 : (.fieldLink RX12 119 "OptimaWorksModel" "partC" "[I" : Cond) ∈ wsRX12_readFactor := by decide +kernel
set_option maxHeartbeats 4000000 in
set_option maxRecDepth 100000 in
/-- readFactor(d) -/
theorem r_X12_readFactor (l : Launch) (dC : Nat → ClassId) (dI : Nat → Nat → Nat) (a : Nat → Nat) (k : Nat → ClassId) (h0 : Nat) (vi : Nat → Int32) (vj : Nat → Int64) (vF : Nat → Nat → Int32) (vG : Nat → Nat → Int64) (tp : Nat) (an : Nat) (fn : Nat) (nm : Nat) (se : Nat) (pa : Nat) (va : Nat) (bd : Nat) (tT : Nat → Nat → Int32) (gG : RG) (bs : Nat) (r0 : Nat) (dN : Nat) (wi : Nat) (nd : Nat) (mM : Nat) (cw : Nat) (uu : Nat) (pe : Nat) (un : Nat) (gl : Nat) (gm : Nat) (xe : Nat) (p1 : Nat) (n1 : Nat) (m1 : Nat) (tw : Nat) (hTp : vi 16 = nI tp) (htp : tp ≤ 4000) (ha0 : vi 17 = nI an) (hfr : vi 19 = nI fn) (hLx : LxO tp fn an (vi 18) (vi 20)) (hst0 : 0 ≤ (vi 21).toInt) (hnm : vi 25 = nI nm) (hnm40 : nm ≤ 40) (hno : NmO (vF 11) (vF 12) nm) (hNk : NkO (vF 10) (vF 13) nm se pa va) (hbd : vi 30 = nI bd) (hbd60 : bd ≤ 60) (hbo : NmO (vF 14) (vF 15) 60) (hse44 : se ≤ 44) (hRV : RdV tT gG (vF 29) (vF 30) (vF 31) (vF 32) (vF 36) (vF 37) (vF 38) se nd bs) (hRT : RdT tT gG (vF 29) (vF 30) (vF 31) (vF 32) (vF 36) (vF 37) (vF 38) (vF 39) (vF 40) (vF 41) (vF 42) (vF 48) (vi 18) (vi 20) (vi 76) se bs r0 dN wi nd bd fn mM 1 cw uu pe un gl gm xe p1 n1 m1 tw) (hdp : vi 74 = nI (dN + 1)) (hwi : vi 75 = nI wi) (hnd : vi 52 = nI nd) (hDc : DcO tT se pa va) (ht18 : vF 18 = tT 18) (ht24 : vF 24 = tT 24) (hOw : OwO (vi 33) (vi 34)) (hbs : vi 60 = nI bs) (hSq : SeO (tT 16) (tT 17) se) (sz : Nat) : Met l yX12_readFactor wsRX12_readFactor ({ frames := 12, cells := 0, slots := 0, locals := 261 }) (va_Pc [.ref h0, .int (nI dN)] (fun U => U.heap.size = sz ∧ va_P (dC, dI) vwCl (WR a k h0 vi vj vF vG) U.heap ∧ va_K (dC, dI) vwCl (tX12 k) U ∧ va_D (fun _ => True) (WR a k h0 vi vj vF vG) ∧ StrA (va_A (WR a k h0 vi vj vF vG) sz) U U.heap)) (va_Qv (fun (u : (Nat) × (Nat) × (Int32) × (Int32) × (Int32) × (Int32) × (Nat → Int32) × (Nat → Int32) × (Nat → Int32) × (Nat → Int32) × (Nat → Int32) × (Nat → Int32) × (Nat → Int32) × (Nat → Int32) × (Nat → Int32) × (Nat → Int32) × (Nat → Int32) × (Nat → Int32) × (Nat → Int32) × (Nat → Int32) × (Nat → Int32) × (Nat → Int32) × (Nat → Int32) × (Nat → Int32) × (Nat → Int32) × (Nat) × (Nat) × (Nat) × (Nat) × (Nat) × (Int32) × (Int32) × (RG)) => (LxO tp (u.2.1) (u.1) (u.2.2.2.1) (u.2.2.1)) ∧ (fn ≤ (u.2.1)) ∧ (0 ≤ ((u.2.2.2.2.1)).toInt) ∧ (0 < ((u.2.2.2.2.1)).toInt ∨ (RdS tT (u.2.2.2.2.2.2.2.2.2.2.2.2.2.2.2.2.2.2.2.2.2.2.2.2.2.2.2.2.2.2.2.2) (u.2.2.2.2.2.2.1) (u.2.2.2.2.2.2.2.1) (u.2.2.2.2.2.2.2.2.1) (u.2.2.2.2.2.2.2.2.2.1) (u.2.2.2.2.2.2.2.2.2.2.2.2.2.2.2.1) (u.2.2.2.2.2.2.2.2.2.2.2.2.2.2.2.2.1) (u.2.2.2.2.2.2.2.2.2.2.2.2.2.2.2.2.2.1) (u.2.2.2.2.2.2.2.2.2.2.2.2.2.2.2.2.2.2.1) (u.2.2.2.2.2.2.2.2.2.2.2.2.2.2.2.2.2.2.2.1) (u.2.2.2.2.2.2.2.2.2.2.2.2.2.2.2.2.2.2.2.2.1) (u.2.2.2.2.2.2.2.2.2.2.2.2.2.2.2.2.2.2.2.2.2.1) (u.2.2.2.2.2.2.2.2.2.2.2.2.2.2.2.2.2.2.2.2.2.2.2.2.1) (u.2.2.2.1) (u.2.2.1) (u.2.2.2.2.2.2.2.2.2.2.2.2.2.2.2.2.2.2.2.2.2.2.2.2.2.2.2.2.2.2.1) se (u.2.2.2.2.2.2.2.2.2.2.2.2.2.2.2.2.2.2.2.2.2.2.2.2.2.2.2.2.2.1) r0 (u.2.2.2.2.2.2.2.2.2.2.2.2.2.2.2.2.2.2.2.2.2.2.2.2.2.1) (u.2.2.2.2.2.2.2.2.2.2.2.2.2.2.2.2.2.2.2.2.2.2.2.2.2.2.1) (u.2.2.2.2.2.2.2.2.2.2.2.2.2.2.2.2.2.2.2.2.2.2.2.2.2.2.2.1) (u.2.2.2.2.2.2.2.2.2.2.2.2.2.2.2.2.2.2.2.2.2.2.2.2.2.2.2.2.1) (u.2.1) (mM - 1) ∧ Ext 0 bs gG (vF 29) (vF 30) (vF 31) (vF 32) (vF 36) (vF 37) (vF 38) (u.2.2.2.2.2.2.2.2.2.2.2.2.2.2.2.2.2.2.2.2.2.2.2.2.2.2.2.2.2.2.2.2) (u.2.2.2.2.2.2.1) (u.2.2.2.2.2.2.2.1) (u.2.2.2.2.2.2.2.2.1) (u.2.2.2.2.2.2.2.2.2.1) (u.2.2.2.2.2.2.2.2.2.2.2.2.2.2.2.1) (u.2.2.2.2.2.2.2.2.2.2.2.2.2.2.2.2.1) (u.2.2.2.2.2.2.2.2.2.2.2.2.2.2.2.2.2.1))) ∧ ((u.2.2.2.2.2.2.2.2.2.2.2.2.2.2.2.2.2.2.2.2.2.2.2.2.2.1) ≤ dN + 2) ∧ (bs ≤ (u.2.2.2.2.2.2.2.2.2.2.2.2.2.2.2.2.2.2.2.2.2.2.2.2.2.2.2.2.2.1)) ∧ (NmO (u.2.2.2.2.2.2.2.2.2.2.2.2.2.1) (u.2.2.2.2.2.2.2.2.2.2.2.2.2.2.1) 60)) (fun (u : (Nat) × (Nat) × (Int32) × (Int32) × (Int32) × (Int32) × (Nat → Int32) × (Nat → Int32) × (Nat → Int32) × (Nat → Int32) × (Nat → Int32) × (Nat → Int32) × (Nat → Int32) × (Nat → Int32) × (Nat → Int32) × (Nat → Int32) × (Nat → Int32) × (Nat → Int32) × (Nat → Int32) × (Nat → Int32) × (Nat → Int32) × (Nat → Int32) × (Nat → Int32) × (Nat → Int32) × (Nat → Int32) × (Nat) × (Nat) × (Nat) × (Nat) × (Nat) × (Int32) × (Int32) × (RG)) t => va_P (dC, dI) vwCl (WR a k h0 (fT (fT (fT (fT (fT (fT (fT (fT (fT (fT (fT (fT (fT vi 21 (u.2.2.2.2.1)) 22 (u.2.2.2.2.2.1)) 17 (nI (u.1))) 19 (nI (u.2.1))) 20 (u.2.2.1)) 18 (u.2.2.2.1)) 52 (nI (u.2.2.2.2.2.2.2.2.2.2.2.2.2.2.2.2.2.2.2.2.2.2.2.2.2.2.2.1))) 60 (nI (u.2.2.2.2.2.2.2.2.2.2.2.2.2.2.2.2.2.2.2.2.2.2.2.2.2.2.2.2.2.1))) 30 (nI (u.2.2.2.2.2.2.2.2.2.2.2.2.2.2.2.2.2.2.2.2.2.2.2.2.2.2.2.2.1))) 75 (nI (u.2.2.2.2.2.2.2.2.2.2.2.2.2.2.2.2.2.2.2.2.2.2.2.2.2.2.1))) 74 (nI (u.2.2.2.2.2.2.2.2.2.2.2.2.2.2.2.2.2.2.2.2.2.2.2.2.2.1))) 76 (u.2.2.2.2.2.2.2.2.2.2.2.2.2.2.2.2.2.2.2.2.2.2.2.2.2.2.2.2.2.2.1)) 77 (u.2.2.2.2.2.2.2.2.2.2.2.2.2.2.2.2.2.2.2.2.2.2.2.2.2.2.2.2.2.2.2.1)) vj (fT (fT (fT (fT (fT (fT (fT (fT (fT (fT (fT (fT (fT (fT (fT (fT (fT (fT (fT vF 45 (u.2.2.2.2.2.2.2.2.2.2.2.2.2.2.2.2.2.2.2.2.2.2.1)) 29 (u.2.2.2.2.2.2.1)) 30 (u.2.2.2.2.2.2.2.1)) 31 (u.2.2.2.2.2.2.2.2.1)) 32 (u.2.2.2.2.2.2.2.2.2.1)) 33 (u.2.2.2.2.2.2.2.2.2.2.1)) 34 (u.2.2.2.2.2.2.2.2.2.2.2.1)) 35 (u.2.2.2.2.2.2.2.2.2.2.2.2.1)) 41 (u.2.2.2.2.2.2.2.2.2.2.2.2.2.2.2.2.2.2.2.2.1)) 38 (u.2.2.2.2.2.2.2.2.2.2.2.2.2.2.2.2.2.1)) 37 (u.2.2.2.2.2.2.2.2.2.2.2.2.2.2.2.2.1)) 14 (u.2.2.2.2.2.2.2.2.2.2.2.2.2.1)) 15 (u.2.2.2.2.2.2.2.2.2.2.2.2.2.2.1)) 36 (u.2.2.2.2.2.2.2.2.2.2.2.2.2.2.2.1)) 40 (u.2.2.2.2.2.2.2.2.2.2.2.2.2.2.2.2.2.2.2.1)) 39 (u.2.2.2.2.2.2.2.2.2.2.2.2.2.2.2.2.2.2.1)) 42 (u.2.2.2.2.2.2.2.2.2.2.2.2.2.2.2.2.2.2.2.2.2.1)) 47 (u.2.2.2.2.2.2.2.2.2.2.2.2.2.2.2.2.2.2.2.2.2.2.2.1)) 48 (u.2.2.2.2.2.2.2.2.2.2.2.2.2.2.2.2.2.2.2.2.2.2.2.2.1)) vG) t.heap ∧ va_D (va_A (WR a k h0 vi vj vF vG) sz) (WR a k h0 (fT (fT (fT (fT (fT (fT (fT (fT (fT (fT (fT (fT (fT vi 21 (u.2.2.2.2.1)) 22 (u.2.2.2.2.2.1)) 17 (nI (u.1))) 19 (nI (u.2.1))) 20 (u.2.2.1)) 18 (u.2.2.2.1)) 52 (nI (u.2.2.2.2.2.2.2.2.2.2.2.2.2.2.2.2.2.2.2.2.2.2.2.2.2.2.2.1))) 60 (nI (u.2.2.2.2.2.2.2.2.2.2.2.2.2.2.2.2.2.2.2.2.2.2.2.2.2.2.2.2.2.1))) 30 (nI (u.2.2.2.2.2.2.2.2.2.2.2.2.2.2.2.2.2.2.2.2.2.2.2.2.2.2.2.2.1))) 75 (nI (u.2.2.2.2.2.2.2.2.2.2.2.2.2.2.2.2.2.2.2.2.2.2.2.2.2.2.1))) 74 (nI (u.2.2.2.2.2.2.2.2.2.2.2.2.2.2.2.2.2.2.2.2.2.2.2.2.2.1))) 76 (u.2.2.2.2.2.2.2.2.2.2.2.2.2.2.2.2.2.2.2.2.2.2.2.2.2.2.2.2.2.2.1)) 77 (u.2.2.2.2.2.2.2.2.2.2.2.2.2.2.2.2.2.2.2.2.2.2.2.2.2.2.2.2.2.2.2.1)) vj (fT (fT (fT (fT (fT (fT (fT (fT (fT (fT (fT (fT (fT (fT (fT (fT (fT (fT (fT vF 45 (u.2.2.2.2.2.2.2.2.2.2.2.2.2.2.2.2.2.2.2.2.2.2.1)) 29 (u.2.2.2.2.2.2.1)) 30 (u.2.2.2.2.2.2.2.1)) 31 (u.2.2.2.2.2.2.2.2.1)) 32 (u.2.2.2.2.2.2.2.2.2.1)) 33 (u.2.2.2.2.2.2.2.2.2.2.1)) 34 (u.2.2.2.2.2.2.2.2.2.2.2.1)) 35 (u.2.2.2.2.2.2.2.2.2.2.2.2.1)) 41 (u.2.2.2.2.2.2.2.2.2.2.2.2.2.2.2.2.2.2.2.2.1)) 38 (u.2.2.2.2.2.2.2.2.2.2.2.2.2.2.2.2.2.1)) 37 (u.2.2.2.2.2.2.2.2.2.2.2.2.2.2.2.2.1)) 14 (u.2.2.2.2.2.2.2.2.2.2.2.2.2.1)) 15 (u.2.2.2.2.2.2.2.2.2.2.2.2.2.2.1)) 36 (u.2.2.2.2.2.2.2.2.2.2.2.2.2.2.2.1)) 40 (u.2.2.2.2.2.2.2.2.2.2.2.2.2.2.2.2.2.2.2.1)) 39 (u.2.2.2.2.2.2.2.2.2.2.2.2.2.2.2.2.2.2.1)) 42 (u.2.2.2.2.2.2.2.2.2.2.2.2.2.2.2.2.2.2.2.2.2.1)) 47 (u.2.2.2.2.2.2.2.2.2.2.2.2.2.2.2.2.2.2.2.2.2.2.2.1)) 48 (u.2.2.2.2.2.2.2.2.2.2.2.2.2.2.2.2.2.2.2.2.2.2.2.2.1)) vG)) (va_A (WR a k h0 vi vj vF vG) sz)) 0 0 (va_A (WR a k h0 vi vj vF vG) sz) := by
  refine Met.ofW (cc := cX12_readFactor) (maxL := 2) (ret := none) (by decide) rfl ?_
  intro p e s m args below meth c s₁ B hml hv
  obtain ⟨rfl, hsz, hP, hK, hD0, hE⟩ := hv
  have hx := B.exec
  have hb := B.bytes
  have hr := B.returns
  have hts := atoms_spec (ws := wsRX12_readFactor) B.pre
  have hown : s.vm.findClass RX12 = some m.cls := findClass_of_methodNamed B.named
  have hlocks := B.notSynchronized
  subst hsz
  have hD := hD0.self (sz := s.heap.size)
  generalize hAe : va_A (WR a k h0 vi vj vF vG) s.heap.size = A at hD hE ⊢
  have hA : ∀ q : Nat, s.heap.size ≤ q → A q := fun q h => by rw [← hAe]; exact Or.inr h
  have hS : va_S A s.heap s.heap [] := va_S.rf
  have hl := lv_entry ([.ref h0, .int (nI dN)]) (n := 2) (Nat.le_of_ble_eq_true rfl)
  rw [lg_entry_eq]
  generalize (lg_sl ([.ref h0, .int (nI dN)]) ++ List.replicate (2 - (lg_sl ([.ref h0, .int (nI dN)])).length) Slot.unset).toArray = ls at hl ⊢
  have hl : lv_has ls 2 [(0, .ref h0), (1, .int (nI dN))] := hl
  have hfa := hLx.1
  have han := hLx.2.1
  have han4 : an ≤ 4000 := by omega
  have hRT0 := hRT
  obtain ⟨⟨h39, _, h48⟩, hBel, ⟨h25, hwc⟩, hTq, hc1, hc2, hc3, hc4, hc5, hc6⟩ := hRT
  have hdd := hBel.deep
  refine lv_aload_n hx hb dX12_readFactor_0 rfl (lv_at hl 0 rfl) ?_
  refine va_get (D := (dC, dI)) (ci := 12) (v := .ref (a 40)) (C := RX12) (T := TX12) (N := 163) (fs := fM (vS a vi vj)) hx hb hts iwsRX12_readFactor_in12 hown hK hP 0 rfl rfl 65 (by decide) (hts _ hm_r_X12_readFactor_0) (fun _ h9 => h9) rfl dX12_readFactor_1 ?_
  refine lv_iload_n hx hb dX12_readFactor_4 rfl (lv_at hl 1 rfl) ?_
  refine va_iald (cA := k 40) (n := 120) (f := (vF 40)) hx hb hK hP 41 40 (WR_get 40 (by decide)) (TR_get 40 (by decide)) (vp_in_nI (show dN < 120 by omega) (by omega)) dX12_readFactor_5 ?_
  refine lv_topi (fun y1 hy1 => ?_)
  obtain rfl : ((vF 40) dN) = y1 := (hy1.trans (by rw [nI_clamp (by omega)])).symm
  by_cases s_6_0 : ((vF 40) dN) = 0
  · have ts_6_0 : (((vF 40) dN)).toInt = 0 := toI_eq s_6_0 rfl (by decide)
    refine lv_tableIn (off := 38) (tgt := 44) hx hb dX12_readFactor_6 (by rw [s_6_0]; decide) (by rw [s_6_0]; decide) (by rw [s_6_0]; decide) (by decide) ?_
    refine lv_aload_n hx hb dX12_readFactor_44 rfl (lv_at hl 0 rfl) ?_
    refine lv_iload_n hx hb dX12_readFactor_45 rfl (lv_at hl 1 rfl) ?_
    have hFc := allFree hD hS hA
    refine va_callv (va_runV (As := [.int (nI dN)]) (rest := []) ⟨hx, hb, hml, hown, hts⟩ (r_X12_beginFactor l dC dI a k h0 vi vj vF vG tp an fn nm se pa va bd tT gG bs r0 dN wi nd mM cw uu pe un gl gm xe p1 n1 m1 tw hTp (by first | with_reducible assumption | decide | omega | rfl | assumption) ha0 hfr (by first | with_reducible assumption | decide | omega | rfl | assumption) (by first | with_reducible assumption | decide | omega | rfl | assumption) hnm (by first | with_reducible assumption | decide | omega | rfl | assumption) (by first | with_reducible assumption | decide | omega | rfl | assumption) (by first | with_reducible assumption | decide | omega | rfl | assumption) hbd (by first | with_reducible assumption | decide | omega | rfl | assumption) (by first | with_reducible assumption | decide | omega | rfl | assumption) (by first | with_reducible assumption | decide | omega | rfl | assumption) (by first | with_reducible assumption | decide | omega | rfl | assumption) (hRT0) (by first | with_reducible assumption | decide | omega | rfl | assumption) hwi hnd (by first | with_reducible assumption | decide | omega | rfl | assumption) (by first | with_reducible assumption | decide | omega | rfl | assumption) (by first | with_reducible assumption | decide | omega | rfl | assumption) (by first | with_reducible assumption | decide | omega | rfl | assumption) hbs (s_6_0) s.heap.size) (cwV 1 hts gwsRX12_readFactor_0 rfl rfl rfl hd_yX12_beginFactor_RX12 (by decide +kernel)) (fz_preE (va_recv hK hP (ci := 12) (q0 := 0) rfl rfl) hP hK hD (fun a U g mk qE => qE.same rfl) (fun U hU9 hW => by rw [hU9]; exact (((hE : StrA A s s.heap).kept hS.2.1).narrow (fun q h => hFc q h)).warm hW)) rfl rfl hl.1 rfl (lv_room (Nat.le_of_ble_eq_true rfl)) dX12_readFactor_46 (by decide +kernel)) hS (fun q _ h => hFc q h) hFc (fun u t9_ H locs ht hvm hw9 hB9 hz1 hk1 hS => ?_)
    revert u hw9 hB9
    refine fz_p33 ?_
    intro a246 f246 sg46 wd46 s246 p246 g2946 g3046 g3146 g3246 g3346 g3446 g3546 g1446 g1546 g3646 g3746 g3846 g3946 g4046 g4146 g4246 g4546 g4746 g4846 d246 w246 n246 b246 bs246 rs246 rf246 G246 hw9 hB9
    try dsimp only at hw9 hB9
    have hP : va_P (dC, dI) vwCl (WR a k h0 (fT (fT (fT (fT (fT (fT (fT (fT (fT (fT (fT (fT (fT vi 21 s246) 22 p246) 17 (nI a246)) 19 (nI f246)) 20 sg46) 18 wd46) 52 (nI n246)) 60 (nI bs246)) 30 (nI b246)) 75 (nI w246)) 74 (nI d246)) 76 rs246) 77 rf246) vj (fT (fT (fT (fT (fT (fT (fT (fT (fT (fT (fT (fT (fT (fT (fT (fT (fT (fT (fT vF 45 g4546) 29 g2946) 30 g3046) 31 g3146) 32 g3246) 33 g3346) 34 g3446) 35 g3546) 41 g4146) 38 g3846) 37 g3746) 14 g1446) 15 g1546) 36 g3646) 40 g4046) 39 g3946) 42 g4246) 47 g4746) 48 g4846) vG) H := fz_P ht hB9.1
    have hD := fz_sd hP (hB9.2.weaken (fun _ q _ h => hFc q.1 h)) rfl
    revert hw9
    refine fz_a7 ?_
    intro f46_0 f46_1 f46_2 f46_3 f46_4 f46_5 f46_6
    have f46_3 : 0 < (s246).toInt ∨ (RdS tT G246 g2946 g3046 g3146 g3246 g3646 g3746 g3846 g3946 g4046 g4146 g4246 g4846 wd46 sg46 rs246 se bs246 r0 d246 w246 n246 b246 f246 (mM - 1) ∧ Ext 0 bs gG (vF 29) (vF 30) (vF 31) (vF 32) (vF 36) (vF 37) (vF 38) G246 g2946 g3046 g3146 g3246 g3646 g3746 g3846) := f46_3
    refine lv_goto (tgt := 316) hx hb dX12_readFactor_49 (by decide) ?_
    refine W.widen (k := 0) (n := 0) (by decide +kernel) (by decide +kernel) ?_
    exact W.vret hx hb hr (fun t9_ ht hW => ⟨⟨(a246, f246, sg46, wd46, s246, p246, g2946, g3046, g3146, g3246, g3346, g3446, g3546, g1446, g1546, g3646, g3746, g3846, g3946, g4046, g4146, g4246, g4546, g4746, g4846, d246, w246, n246, b246, bs246, rs246, rf246, G246), rfl, by (try dsimp only); exact ⟨f46_0, f46_1, f46_2, f46_3, f46_4, f46_5, f46_6⟩, by rw [ht]; exact hP, hD⟩, hS.F ht⟩) hS.2.2 dX12_readFactor_316
  · have ts_6_0 : ¬ (((vF 40) dN)).toInt = 0 := toI_neq s_6_0 rfl (by decide)
    by_cases s_6_1 : ((vF 40) dN) = 1
    · have ts_6_1 : (((vF 40) dN)).toInt = 1 := toI_eq s_6_1 rfl (by decide)
      refine lv_tableIn (off := 46) (tgt := 52) hx hb dX12_readFactor_6 (by rw [s_6_1]; decide) (by rw [s_6_1]; decide) (by rw [s_6_1]; decide) (by decide) ?_
      obtain ⟨hq1, hq2, hq3, hq4, hq5, hq6, hw24, cR, hres, hcR⟩ := hTq.fac1 s_6_1
      have hK0 := RdK.first (gl := gl) hRV (by omega)
      have hKK := hK0.mkTurn (p := 51 - 2 * (cw + xe)) (kv := 4) (av := nI cR) (bv := 0) (cv := 0) (by omega) (by decide) (by omega) rfl hcR (by omega)
      have hKN := hKK.1
      have hLN := hKK.2
      refine lv_aload_n hx hb dX12_readFactor_52 rfl (lv_at hl 0 rfl) ?_
      refine lv_aload_n hx hb dX12_readFactor_53 rfl (lv_at hl 0 rfl) ?_
      refine lv_iconst (v := 4) hx hb dX12_readFactor_54 (by decide) ?_
      refine lv_aload_n hx hb dX12_readFactor_55 rfl (lv_at hl 0 rfl) ?_
      refine va_get (D := (dC, dI)) (ci := 12) (v := .int (vi 76)) (C := RX12) (T := TX12) (N := 163) (fs := fM (vS a vi vj)) hx hb hts iwsRX12_readFactor_in12 hown hK hP 0 rfl rfl 76 (by decide) (hts _ hm_r_X12_readFactor_1) (fun _ h9 => h9) rfl dX12_readFactor_56 ?_
      refine lv_topi (fun y2 hy2 => ?_)
      obtain rfl : (nI cR) = y2 := (hy2.trans (hres)).symm
      refine lv_iconst (v := 0) hx hb dX12_readFactor_59 (by decide) ?_
      refine lv_iconst (v := 0) hx hb dX12_readFactor_60 (by decide) ?_
      refine lv_aload_n hx hb dX12_readFactor_61 rfl (lv_at hl 0 rfl) ?_
      refine va_get (D := (dC, dI)) (ci := 12) (v := .ref (a 45)) (C := RX12) (T := TX12) (N := 163) (fs := fM (vS a vi vj)) hx hb hts iwsRX12_readFactor_in12 hown hK hP 0 rfl rfl 70 (by decide) (hts (.fieldLink RX12 158 "OptimaWorksModel" "at1" "[I") (by decide +kernel)) (fun _ h9 => h9) rfl dX12_readFactor_62 ?_
      refine lv_iload_n hx hb dX12_readFactor_65 rfl (lv_at hl 1 rfl) ?_
      refine va_iald (cA := k 45) (n := 120) (f := (vF 45)) hx hb hK hP 46 45 (WR_get 45 (by decide)) (TR_get 45 (by decide)) (vp_in_nI (show dN < 120 by omega) (by omega)) dX12_readFactor_66 ?_
      refine lv_topi (fun y3 hy3 => ?_)
      obtain rfl : ((vF 45) dN) = y3 := (hy3.trans (by rw [nI_clamp (by omega)])).symm
      have hFc := allFree hD hS hA
      refine va_calli (va_runV (As := [.int 4, .int (nI cR), .int 0, .int 0, .int ((vF 45) dN)]) (rest := [.ref h0]) ⟨hx, hb, hml, hown, hts⟩ (r_X12_node l dC dI a k h0 vi vj vF vG nd 4 (nI cR) 0 0 ((vF 45) dN) hnd (by first | with_reducible assumption | decide | omega | rfl | assumption) s.heap.size) (cwV 5 hts gwsRX12_readFactor_1 rfl rfl rfl hd_yX12_node_RX12 (by decide +kernel)) (fz_pre (va_recv hK hP (ci := 12) (q0 := 0) rfl rfl) hP hK hD) rfl rfl hl.1 rfl (lv_room (Nat.le_of_ble_eq_true rfl)) dX12_readFactor_67 (by decide +kernel)) hS (fun q _ h => hFc q h) hFc (fun r67 u t9_ H locs ht hvm hw9 hB9 hz1 hk1 hS => ?_)
      have hP : va_P (dC, dI) vwCl (WR a k h0 (fT vi 52 (nI (nd + 1))) vj (fT (fT (fT (fT (fT (fT (fT vF 29 (upd (vF 29) (nI nd).toNatClampNeg 4)) 30 (upd (vF 30) (nI nd).toNatClampNeg (nI cR))) 31 (upd (vF 31) (nI nd).toNatClampNeg 0)) 32 (upd (vF 32) (nI nd).toNatClampNeg 0)) 33 (upd (vF 33) (nI nd).toNatClampNeg ((vF 45) dN))) 34 (upd (vF 34) (nI nd).toNatClampNeg 0)) 35 (upd (vF 35) (nI nd).toNatClampNeg 0)) vG) H := fz_P ht hB9.1
      have hD := fz_sd hP (hB9.2.weaken (fun _ q _ h => hFc q.1 h)) rfl
      obtain rfl := hw9
      have hFc := allFree hD hS hA
      refine va_callv (va_runV (As := [.int (nI nd)]) (rest := []) ⟨hx, hb, hml, hown, hts⟩ (r_X12_end1w l dC dI a k h0 (fT vi 52 (nI (nd + 1))) vj (fT (fT (fT (fT (fT (fT (fT vF 29 (upd (vF 29) (nI nd).toNatClampNeg 4)) 30 (upd (vF 30) (nI nd).toNatClampNeg (nI cR))) 31 (upd (vF 31) (nI nd).toNatClampNeg 0)) 32 (upd (vF 32) (nI nd).toNatClampNeg 0)) 33 (upd (vF 33) (nI nd).toNatClampNeg ((vF 45) dN))) 34 (upd (vF 34) (nI nd).toNatClampNeg 0)) 35 (upd (vF 35) (nI nd).toNatClampNeg 0)) vG (nI nd) dN wi xe (hdp) (by first | with_reducible assumption | decide | omega | rfl | assumption) hwi (by first | with_reducible assumption | decide | omega | rfl | assumption) (h48) (by first | with_reducible assumption | decide | omega | rfl | assumption) H.size) (cwV 1 hts gwsRX12_readFactor_2 rfl rfl rfl hd_yX12_end1_RX12 (by decide +kernel)) (fz_pre (va_recv hK hP (ci := 12) (q0 := 0) rfl rfl) hP hK hD) rfl rfl hl.1 rfl (lv_room (Nat.le_of_ble_eq_true rfl)) dX12_readFactor_70 (by decide +kernel)) hS (fun q _ h => hFc q h) hFc (fun u t9_ H locs ht hvm hw9 hB9 hz1 hk1 hS => ?_)
      have hP : va_P (dC, dI) vwCl (WR a k h0 (fT (fT (fT (fT (fT vi 52 (nI (nd + 1))) 74 (nI dN)) 75 (nI (wi - xe))) 76 (nI nd)) 77 ((vF 47) dN)) vj (fT (fT (fT (fT (fT (fT (fT vF 29 (upd (vF 29) (nI nd).toNatClampNeg 4)) 30 (upd (vF 30) (nI nd).toNatClampNeg (nI cR))) 31 (upd (vF 31) (nI nd).toNatClampNeg 0)) 32 (upd (vF 32) (nI nd).toNatClampNeg 0)) 33 (upd (vF 33) (nI nd).toNatClampNeg ((vF 45) dN))) 34 (upd (vF 34) (nI nd).toNatClampNeg 0)) 35 (upd (vF 35) (nI nd).toNatClampNeg 0)) vG) H := fz_P ht hB9.1
      have hD := fz_sd hP (hB9.2.weaken (fun _ q _ h => hFc q.1 h)) rfl
      refine lv_goto (tgt := 316) hx hb dX12_readFactor_73 (by decide) ?_
      refine W.widen (k := 0) (n := 0) (by decide +kernel) (by decide +kernel) ?_
      have e9 : fT (fT (fT (fT (fT (fT (fT (fT (fT (fT (fT (fT (fT vi 21 (vi 21)) 22 (vi 22)) 17 (nI an)) 19 (nI fn)) 20 (vi 20)) 18 (vi 18)) 52 (nI (nd + 1))) 60 (nI bs)) 30 (nI bd)) 75 (nI (wi - xe))) 74 (nI dN)) 76 (nI nd)) 77 ((vF 47) dN) = fT (fT (fT (fT (fT vi 52 (nI (nd + 1))) 74 (nI dN)) 75 (nI (wi - xe))) 76 (nI nd)) 77 ((vF 47) dN) := Eq.trans (mv_12 rfl) (Eq.trans (id_12 rfl) (Eq.trans (mv_11 rfl) (Eq.trans (id_11 rfl) (Eq.trans (mv_10 rfl) (Eq.trans (congrArg (fT _ 17) (show nI an = vi 17 from (by first | with_reducible rfl | with_reducible assumption | (symm; with_reducible assumption) | rfl | assumption | (symm; assumption) | (subst_vars; rfl)))) (Eq.trans (id_10 rfl) (Eq.trans (mv_9 rfl) (Eq.trans (congrArg (fT _ 19) (show nI fn = vi 19 from (by first | with_reducible rfl | with_reducible assumption | (symm; with_reducible assumption) | rfl | assumption | (symm; assumption) | (subst_vars; rfl)))) (Eq.trans (id_9 rfl) (Eq.trans (mv_8 rfl) (Eq.trans (id_8 rfl) (Eq.trans (mv_7 rfl) (Eq.trans (id_7 rfl) (Eq.trans (mv_5 rfl) (Eq.trans (congrArg (fT _ 60) (show nI bs = vi 60 from (by first | with_reducible rfl | with_reducible assumption | (symm; with_reducible assumption) | rfl | assumption | (symm; assumption) | (subst_vars; rfl)))) (Eq.trans (id_6 rfl) (Eq.trans (mv_4 rfl) (Eq.trans (congrArg (fT _ 30) (show nI bd = vi 30 from (by first | with_reducible rfl | with_reducible assumption | (symm; with_reducible assumption) | rfl | assumption | (symm; assumption) | (subst_vars; rfl)))) (Eq.trans (id_5 rfl) (Eq.trans (mv_2 rfl) (Eq.trans (mv_3 rfl) (Eq.trans (mv_3 rfl) (mv_3 rfl)))))))))))))))))))))))
      have hP := wr_Pi e9 hP
      have hD := wr_Di e9 hD
      clear e9
      have e9 : fT (fT (fT (fT (fT (fT (fT (fT (fT (fT (fT (fT (fT (fT (fT (fT (fT (fT (fT vF 45 (vF 45)) 29 (upd (vF 29) (nI nd).toNatClampNeg 4)) 30 (upd (vF 30) (nI nd).toNatClampNeg (nI cR))) 31 (upd (vF 31) (nI nd).toNatClampNeg 0)) 32 (upd (vF 32) (nI nd).toNatClampNeg 0)) 33 (upd (vF 33) (nI nd).toNatClampNeg ((vF 45) dN))) 34 (upd (vF 34) (nI nd).toNatClampNeg 0)) 35 (upd (vF 35) (nI nd).toNatClampNeg 0)) 41 (vF 41)) 38 (vF 38)) 37 (vF 37)) 14 (vF 14)) 15 (vF 15)) 36 (vF 36)) 40 (vF 40)) 39 (vF 39)) 42 (vF 42)) 47 (vF 47)) 48 (vF 48) = fT (fT (fT (fT (fT (fT (fT vF 29 (upd (vF 29) (nI nd).toNatClampNeg 4)) 30 (upd (vF 30) (nI nd).toNatClampNeg (nI cR))) 31 (upd (vF 31) (nI nd).toNatClampNeg 0)) 32 (upd (vF 32) (nI nd).toNatClampNeg 0)) 33 (upd (vF 33) (nI nd).toNatClampNeg ((vF 45) dN))) 34 (upd (vF 34) (nI nd).toNatClampNeg 0)) 35 (upd (vF 35) (nI nd).toNatClampNeg 0) := Eq.trans (mv_18 rfl) (Eq.trans (id_18 rfl) (Eq.trans (mv_10 rfl) (Eq.trans (id_17 rfl) (Eq.trans (mv_9 rfl) (Eq.trans (id_16 rfl) (Eq.trans (mv_8 rfl) (Eq.trans (id_15 rfl) (Eq.trans (mv_7 rfl) (Eq.trans (id_14 rfl) (Eq.trans (mv_6 rfl) (Eq.trans (id_13 rfl) (Eq.trans (mv_5 rfl) (Eq.trans (id_12 rfl) (Eq.trans (mv_4 rfl) (Eq.trans (id_11 rfl) (Eq.trans (mv_3 rfl) (Eq.trans (id_10 rfl) (Eq.trans (mv_2 rfl) (Eq.trans (id_9 rfl) (Eq.trans (mv_1 rfl) (Eq.trans (id_8 rfl) (id_7 rfl))))))))))))))))))))))
      have hP := wr_PF e9 hP
      have hD := wr_DF e9 hD
      clear e9
      exact W.vret hx hb hr (fun t9_ ht hW => ⟨⟨(an, fn, (vi 20), (vi 18), (vi 21), (vi 22), (upd (vF 29) (nI nd).toNatClampNeg 4), (upd (vF 30) (nI nd).toNatClampNeg (nI cR)), (upd (vF 31) (nI nd).toNatClampNeg 0), (upd (vF 32) (nI nd).toNatClampNeg 0), (upd (vF 33) (nI nd).toNatClampNeg ((vF 45) dN)), (upd (vF 34) (nI nd).toNatClampNeg 0), (upd (vF 35) (nI nd).toNatClampNeg 0), (vF 14), (vF 15), (vF 36), (vF 37), (vF 38), (vF 39), (vF 40), (vF 41), (vF 42), (vF 45), (vF 47), (vF 48), dN, (wi - xe), (nd + 1), bd, bs, (nI nd), ((vF 47) dN), (gG.add nd (gG.wt cR + 3) (51 - 2 * (cw + xe)) 0)), rfl, by (try dsimp only); exact ⟨hLx, Nat.le_refl _, hst0, Or.inr ⟨by (have e9 : wi - xe = cw := by omega); rw [e9]; exact RdS.pop (ex := xe) hKN.1 hBel hKN.2.1 (Nat.le_refl _) (fun q hq => ⟨rfl, rfl, rfl, rfl, rfl⟩) (by omega) (fun h8 => by omega) (by decide) (Or.inl ⟨by decide, hLN⟩) (by omega) (by show gG.vN + 1 + un ≤ nd + 1; omega) (by omega) (by omega) hKN.2.2.2 (by omega), hKN.2.1.less (Nat.zero_le _)⟩, by omega, by omega, hbo⟩, by rw [ht]; exact hP, hD⟩, hS.F ht⟩) hS.2.2 dX12_readFactor_316
    · have ts_6_1 : ¬ (((vF 40) dN)).toInt = 1 := toI_neq s_6_1 rfl (by decide)
      by_cases s_6_2 : ((vF 40) dN) = 2
      · have ts_6_2 : (((vF 40) dN)).toInt = 2 := toI_eq s_6_2 rfl (by decide)
        refine lv_tableIn (off := 70) (tgt := 76) hx hb dX12_readFactor_6 (by rw [s_6_2]; decide) (by rw [s_6_2]; decide) (by rw [s_6_2]; decide) (by decide) ?_
        obtain ⟨hq1, hq2, hq3, hq4, hq5, hq6, hw24, cR, hres, hcR⟩ := hTq.fac2 s_6_2
        have hK0 := RdK.first (gl := gl) hRV (by omega)
        refine lv_aload_n hx hb dX12_readFactor_76 rfl (lv_at hl 0 rfl) ?_
        refine lv_bipush (v := 41) hx hb dX12_readFactor_77 (by decide) ?_
        have hFc := allFree hD hS hA
        refine va_calli (va_runV (As := [.int 41]) (rest := []) ⟨hx, hb, hml, hown, hts⟩ (r_X12_needSign l dC dI a k h0 vi vj vF vG 41 tp an fn hTp (by first | with_reducible assumption | decide | omega | rfl | assumption) ha0 hfr (by first | with_reducible assumption | decide | omega | rfl | assumption) (by first | with_reducible assumption | decide | omega | rfl | assumption) s.heap.size) (cwV 1 hts gwsRX12_readFactor_3 rfl rfl rfl hd_yX12_needSign_RX12 (by decide +kernel)) (fz_preE (va_recv hK hP (ci := 12) (q0 := 0) rfl rfl) hP hK hD (fun a U g mk qE => qE.same rfl) (fun U hU9 hW => by rw [hU9]; exact (((hE : StrA A s s.heap).kept hS.2.1).narrow (fun q h => hFc q h)).warm hW)) rfl rfl hl.1 rfl (lv_room (Nat.le_of_ble_eq_true rfl)) dX12_readFactor_79 (by decide +kernel)) hS (fun q _ h => hFc q h) hFc (fun r79 u t9_ H locs ht hvm hw9 hB9 hz1 hk1 hS => ?_)
        revert u hw9 hB9
        refine fz_p6 ?_
        intro a279 f279 sg79 wd79 s279 p279 hw9 hB9
        try dsimp only at hw9 hB9
        have hP : va_P (dC, dI) vwCl (WR a k h0 (fT (fT (fT (fT (fT (fT vi 17 (nI a279)) 19 (nI f279)) 20 sg79) 18 wd79) 21 s279) 22 p279) vj vF vG) H := fz_P ht hB9.1
        have hD := fz_sd hP (hB9.2.weaken (fun _ q _ h => hFc q.1 h)) rfl
        rcases hw9 with ⟨rfl, f79_0, f79_1, f79_2, f79_3⟩ | ⟨rfl, f79_0, f79_1, f79_2⟩
        · have f79_3 : (vi 21) = 0 := f79_3
          refine lv_if_eq (tgt := 316) hx hb dX12_readFactor_82 (by decide) (fun c9 => absurd c9 (by decide)) (fun _ => ?_)
          have hl1 := f79_1.1
          refine lv_aload_n hx hb dX12_readFactor_85 rfl (lv_at hl 0 rfl) ?_
          refine lv_aload_n hx hb dX12_readFactor_86 rfl (lv_at hl 0 rfl) ?_
          refine va_get (D := (dC, dI)) (ci := 12) (v := .int (vi 76)) (C := RX12) (T := TX12) (N := 163) (fs := fM (vS a (fT (fT (fT (fT (fT (fT vi 17 (nI a279)) 19 (nI f279)) 20 sg79) 18 wd79) 21 s279) 22 p279) vj)) hx hb hts iwsRX12_readFactor_in12 hown hK hP 0 rfl rfl 76 (by decide) (hts _ hm_r_X12_readFactor_1) (fun _ h9 => h9) rfl dX12_readFactor_87 ?_
          refine lv_topi (fun y4 hy4 => ?_)
          obtain rfl : (nI cR) = y4 := (hy4.trans (hres)).symm
          have hFc := allFree hD hS hA
          refine va_callv (va_runV (As := [.int (nI cR)]) (rest := []) ⟨hx, hb, hml, hown, hts⟩ (r_X12_end1w l dC dI a k h0 (fT (fT (fT (fT (fT (fT vi 17 (nI a279)) 19 (nI f279)) 20 sg79) 18 wd79) 21 s279) 22 p279) vj vF vG (nI cR) dN wi xe (hdp) (by first | with_reducible assumption | decide | omega | rfl | assumption) hwi (by first | with_reducible assumption | decide | omega | rfl | assumption) (h48) (by first | with_reducible assumption | decide | omega | rfl | assumption) H.size) (cwV 1 hts gwsRX12_readFactor_2 rfl rfl rfl hd_yX12_end1_RX12 (by decide +kernel)) (fz_pre (va_recv hK hP (ci := 12) (q0 := 0) rfl rfl) hP hK hD) rfl rfl hl.1 rfl (lv_room (Nat.le_of_ble_eq_true rfl)) dX12_readFactor_90 (by decide +kernel)) hS (fun q _ h => hFc q h) hFc (fun u t9_ H locs ht hvm hw9 hB9 hz1 hk1 hS => ?_)
          have hP : va_P (dC, dI) vwCl (WR a k h0 (fT (fT (fT (fT (fT (fT (fT (fT (fT (fT vi 17 (nI a279)) 19 (nI f279)) 20 sg79) 18 wd79) 21 s279) 22 p279) 74 (nI dN)) 75 (nI (wi - xe))) 76 (nI cR)) 77 ((vF 47) dN)) vj vF vG) H := fz_P ht hB9.1
          have hD := fz_sd hP (hB9.2.weaken (fun _ q _ h => hFc q.1 h)) rfl
          refine lv_goto (tgt := 316) hx hb dX12_readFactor_93 (by decide) ?_
          refine W.widen (k := 0) (n := 0) (by decide +kernel) (by decide +kernel) ?_
          have e9 : fT (fT (fT (fT (fT (fT (fT (fT (fT (fT (fT (fT (fT vi 21 s279) 22 p279) 17 (nI a279)) 19 (nI f279)) 20 sg79) 18 wd79) 52 (nI nd)) 60 (nI bs)) 30 (nI bd)) 75 (nI (wi - xe))) 74 (nI dN)) 76 (nI cR)) 77 ((vF 47) dN) = fT (fT (fT (fT (fT (fT (fT (fT (fT (fT vi 17 (nI a279)) 19 (nI f279)) 20 sg79) 18 wd79) 21 s279) 22 p279) 74 (nI dN)) 75 (nI (wi - xe))) 76 (nI cR)) 77 ((vF 47) dN) := Eq.trans (mv_6 rfl) (Eq.trans (congrArg (fT _ 52) (show nI nd = vi 52 from (by first | with_reducible rfl | with_reducible assumption | (symm; with_reducible assumption) | rfl | assumption | (symm; assumption) | (subst_vars; rfl)))) (Eq.trans (id_12 rfl) (Eq.trans (mv_5 rfl) (Eq.trans (congrArg (fT _ 60) (show nI bs = vi 60 from (by first | with_reducible rfl | with_reducible assumption | (symm; with_reducible assumption) | rfl | assumption | (symm; assumption) | (subst_vars; rfl)))) (Eq.trans (id_11 rfl) (Eq.trans (mv_4 rfl) (Eq.trans (congrArg (fT _ 30) (show nI bd = vi 30 from (by first | with_reducible rfl | with_reducible assumption | (symm; with_reducible assumption) | rfl | assumption | (symm; assumption) | (subst_vars; rfl)))) (Eq.trans (id_10 rfl) (Eq.trans (mv_7 rfl) (Eq.trans (mv_7 rfl) (Eq.trans (mv_7 rfl) (Eq.trans (mv_7 rfl) (Eq.trans (mv_9 rfl) (Eq.trans (mv_9 rfl) (Eq.trans (mv_8 rfl) (Eq.trans (mv_9 rfl) (Eq.trans (mv_9 rfl) (mv_9 rfl))))))))))))))))))
          have hP := wr_Pi e9 hP
          have hD := wr_Di e9 hD
          clear e9
          have e9 : fT (fT (fT (fT (fT (fT (fT (fT (fT (fT (fT (fT (fT (fT (fT (fT (fT (fT (fT vF 45 (vF 45)) 29 (vF 29)) 30 (vF 30)) 31 (vF 31)) 32 (vF 32)) 33 (vF 33)) 34 (vF 34)) 35 (vF 35)) 41 (vF 41)) 38 (vF 38)) 37 (vF 37)) 14 (vF 14)) 15 (vF 15)) 36 (vF 36)) 40 (vF 40)) 39 (vF 39)) 42 (vF 42)) 47 (vF 47)) 48 (vF 48) = vF := Eq.trans (mv_18 rfl) (Eq.trans (id_18 rfl) (Eq.trans (mv_17 rfl) (Eq.trans (id_17 rfl) (Eq.trans (mv_16 rfl) (Eq.trans (id_16 rfl) (Eq.trans (mv_15 rfl) (Eq.trans (id_15 rfl) (Eq.trans (mv_14 rfl) (Eq.trans (id_14 rfl) (Eq.trans (mv_13 rfl) (Eq.trans (id_13 rfl) (Eq.trans (mv_12 rfl) (Eq.trans (id_12 rfl) (Eq.trans (mv_11 rfl) (Eq.trans (id_11 rfl) (Eq.trans (mv_10 rfl) (Eq.trans (id_10 rfl) (Eq.trans (mv_9 rfl) (Eq.trans (id_9 rfl) (Eq.trans (mv_8 rfl) (Eq.trans (id_8 rfl) (Eq.trans (mv_7 rfl) (Eq.trans (id_7 rfl) (Eq.trans (mv_6 rfl) (Eq.trans (id_6 rfl) (Eq.trans (mv_5 rfl) (Eq.trans (id_5 rfl) (Eq.trans (mv_4 rfl) (Eq.trans (id_4 rfl) (Eq.trans (mv_3 rfl) (Eq.trans (id_3 rfl) (Eq.trans (mv_2 rfl) (Eq.trans (id_2 rfl) (Eq.trans (mv_1 rfl) (Eq.trans (id_1 rfl) (id_0 rfl))))))))))))))))))))))))))))))))))))
          have hP := wr_PF e9 hP
          have hD := wr_DF e9 hD
          clear e9
          exact W.vret hx hb hr (fun t9_ ht hW => ⟨⟨(a279, f279, sg79, wd79, s279, p279, (vF 29), (vF 30), (vF 31), (vF 32), (vF 33), (vF 34), (vF 35), (vF 14), (vF 15), (vF 36), (vF 37), (vF 38), (vF 39), (vF 40), (vF 41), (vF 42), (vF 45), (vF 47), (vF 48), dN, (wi - xe), nd, bd, bs, (nI cR), ((vF 47) dN), gG), rfl, by (try dsimp only); exact ⟨f79_1, by omega, (by rw [f79_0]; decide), Or.inr ⟨by (have e9 : wi - xe = cw := by omega); rw [e9]; exact RdS.pop (ex := xe) hK0.1 hBel hK0.2.1 (Nat.le_refl _) (fun q hq => ⟨rfl, rfl, rfl, rfl, rfl⟩) (by omega) (fun h8 => by omega) (by decide) (Or.inl ⟨by decide, hcR.mono (by omega)⟩) (by omega) (by omega) (by omega) (by omega) hK0.2.2.2 (by omega), hK0.2.1.less (Nat.zero_le _)⟩, by omega, by omega, hbo⟩, by rw [ht]; exact hP, hD⟩, hS.F ht⟩) hS.2.2 dX12_readFactor_316
        · refine lv_if_eq (tgt := 316) hx hb dX12_readFactor_82 (by decide) (fun _ => ?_) (fun c9 => absurd (by decide) c9)
          refine W.widen (k := 0) (n := 0) (by decide +kernel) (by decide +kernel) ?_
          have e9 : fT (fT (fT (fT (fT (fT (fT (fT (fT (fT (fT (fT (fT vi 21 s279) 22 p279) 17 (nI a279)) 19 (nI f279)) 20 sg79) 18 wd79) 52 (nI nd)) 60 (nI bs)) 30 (nI bd)) 75 (nI wi)) 74 (nI (dN + 1))) 76 (vi 76)) 77 (vi 77) = fT (fT (fT (fT (fT (fT vi 17 (nI a279)) 19 (nI f279)) 20 sg79) 18 wd79) 21 s279) 22 p279 := Eq.trans (mv_6 rfl) (Eq.trans (congrArg (fT _ 52) (show nI nd = vi 52 from (by first | with_reducible rfl | with_reducible assumption | (symm; with_reducible assumption) | rfl | assumption | (symm; assumption) | (subst_vars; rfl)))) (Eq.trans (id_12 rfl) (Eq.trans (mv_5 rfl) (Eq.trans (congrArg (fT _ 60) (show nI bs = vi 60 from (by first | with_reducible rfl | with_reducible assumption | (symm; with_reducible assumption) | rfl | assumption | (symm; assumption) | (subst_vars; rfl)))) (Eq.trans (id_11 rfl) (Eq.trans (mv_4 rfl) (Eq.trans (congrArg (fT _ 30) (show nI bd = vi 30 from (by first | with_reducible rfl | with_reducible assumption | (symm; with_reducible assumption) | rfl | assumption | (symm; assumption) | (subst_vars; rfl)))) (Eq.trans (id_10 rfl) (Eq.trans (mv_3 rfl) (Eq.trans (congrArg (fT _ 75) (show nI wi = vi 75 from (by first | with_reducible rfl | with_reducible assumption | (symm; with_reducible assumption) | rfl | assumption | (symm; assumption) | (subst_vars; rfl)))) (Eq.trans (id_9 rfl) (Eq.trans (mv_2 rfl) (Eq.trans (congrArg (fT _ 74) (show nI (dN + 1) = vi 74 from (by first | with_reducible rfl | with_reducible assumption | (symm; with_reducible assumption) | rfl | assumption | (symm; assumption) | (subst_vars; rfl)))) (Eq.trans (id_8 rfl) (Eq.trans (mv_1 rfl) (Eq.trans (id_7 rfl) (Eq.trans (id_6 rfl) (Eq.trans (mv_3 rfl) (Eq.trans (mv_3 rfl) (Eq.trans (mv_3 rfl) (Eq.trans (mv_3 rfl) (Eq.trans (mv_5 rfl) (mv_5 rfl)))))))))))))))))))))))
          have hP := wr_Pi e9 hP
          have hD := wr_Di e9 hD
          clear e9
          have e9 : fT (fT (fT (fT (fT (fT (fT (fT (fT (fT (fT (fT (fT (fT (fT (fT (fT (fT (fT vF 45 (vF 45)) 29 (vF 29)) 30 (vF 30)) 31 (vF 31)) 32 (vF 32)) 33 (vF 33)) 34 (vF 34)) 35 (vF 35)) 41 (vF 41)) 38 (vF 38)) 37 (vF 37)) 14 (vF 14)) 15 (vF 15)) 36 (vF 36)) 40 (vF 40)) 39 (vF 39)) 42 (vF 42)) 47 (vF 47)) 48 (vF 48) = vF := Eq.trans (mv_18 rfl) (Eq.trans (id_18 rfl) (Eq.trans (mv_17 rfl) (Eq.trans (id_17 rfl) (Eq.trans (mv_16 rfl) (Eq.trans (id_16 rfl) (Eq.trans (mv_15 rfl) (Eq.trans (id_15 rfl) (Eq.trans (mv_14 rfl) (Eq.trans (id_14 rfl) (Eq.trans (mv_13 rfl) (Eq.trans (id_13 rfl) (Eq.trans (mv_12 rfl) (Eq.trans (id_12 rfl) (Eq.trans (mv_11 rfl) (Eq.trans (id_11 rfl) (Eq.trans (mv_10 rfl) (Eq.trans (id_10 rfl) (Eq.trans (mv_9 rfl) (Eq.trans (id_9 rfl) (Eq.trans (mv_8 rfl) (Eq.trans (id_8 rfl) (Eq.trans (mv_7 rfl) (Eq.trans (id_7 rfl) (Eq.trans (mv_6 rfl) (Eq.trans (id_6 rfl) (Eq.trans (mv_5 rfl) (Eq.trans (id_5 rfl) (Eq.trans (mv_4 rfl) (Eq.trans (id_4 rfl) (Eq.trans (mv_3 rfl) (Eq.trans (id_3 rfl) (Eq.trans (mv_2 rfl) (Eq.trans (id_2 rfl) (Eq.trans (mv_1 rfl) (Eq.trans (id_1 rfl) (id_0 rfl))))))))))))))))))))))))))))))))))))
          have hP := wr_PF e9 hP
          have hD := wr_DF e9 hD
          clear e9
          exact W.vret hx hb hr (fun t9_ ht hW => ⟨⟨(a279, f279, sg79, wd79, s279, p279, (vF 29), (vF 30), (vF 31), (vF 32), (vF 33), (vF 34), (vF 35), (vF 14), (vF 15), (vF 36), (vF 37), (vF 38), (vF 39), (vF 40), (vF 41), (vF 42), (vF 45), (vF 47), (vF 48), (dN + 1), wi, nd, bd, bs, (vi 76), (vi 77), gG), rfl, by (try dsimp only); exact ⟨f79_1, by omega, by omega, Or.inl f79_0, by omega, by omega, hbo⟩, by rw [ht]; exact hP, hD⟩, hS.F ht⟩) hS.2.2 dX12_readFactor_316
      · have ts_6_2 : ¬ (((vF 40) dN)).toInt = 2 := toI_neq s_6_2 rfl (by decide)
        by_cases s_6_3 : ((vF 40) dN) = 3
        · have ts_6_3 : (((vF 40) dN)).toInt = 3 := toI_eq s_6_3 rfl (by decide)
          refine lv_tableIn (off := 90) (tgt := 96) hx hb dX12_readFactor_6 (by rw [s_6_3]; decide) (by rw [s_6_3]; decide) (by rw [s_6_3]; decide) (by decide) ?_
          obtain ⟨hq1, hq2, hq3, hq4, hq5, hq6, hw24, ⟨cR, hres, hcR⟩, gN, pl, hg41, hgl, hgm, hgV, hUn, hg31, hg32⟩ := hTq.fac3 s_6_3
          have hK0 := RdK.first (gl := gl) hRV (by omega)
          have hKB := hK0.b31 (n := gN) (v := nI cR) hgV hgl (by omega)
          obtain ⟨kU, aU, o1U, o2U, aTU, hkU, hk29, ⟨ha30, ha44⟩, hSm, hpl1⟩ := id hUn
          have hpl2 := hSm.2.2.2.1.1
          refine lv_aload_n hx hb dX12_readFactor_96 rfl (lv_at hl 0 rfl) ?_
          refine va_get (D := (dC, dI)) (ci := 12) (v := .ref (a 42)) (C := RX12) (T := TX12) (N := 163) (fs := fM (vS a vi vj)) hx hb hts iwsRX12_readFactor_in12 hown hK hP 0 rfl rfl 67 (by decide) (hts (.fieldLink RX12 149 "OptimaWorksModel" "got2" "[I") (by decide +kernel)) (fun _ h9 => h9) rfl dX12_readFactor_97 ?_
          refine lv_iload_n hx hb dX12_readFactor_100 rfl (lv_at hl 1 rfl) ?_
          refine lv_aload_n hx hb dX12_readFactor_101 rfl (lv_at hl 0 rfl) ?_
          refine va_get (D := (dC, dI)) (ci := 12) (v := .int (vi 76)) (C := RX12) (T := TX12) (N := 163) (fs := fM (vS a vi vj)) hx hb hts iwsRX12_readFactor_in12 hown hK hP 0 rfl rfl 76 (by decide) (hts _ hm_r_X12_readFactor_1) (fun _ h9 => h9) rfl dX12_readFactor_102 ?_
          refine lv_topi (fun y5 hy5 => ?_)
          obtain rfl : (nI cR) = y5 := (hy5.trans (hres)).symm
          refine va_iast (cA := k 42) (n := 120) (f := (vF 42)) hx hb hK hP hD hS 43 42 (WR_get 42 (by decide)) (TR_get 42 (by decide)) (vp_in_nI (show dN < 120 by omega) (by omega)) dX12_readFactor_105 (fun H locs hP hD hS => ?_)
          have hP : va_P (dC, dI) vwCl (WR a k h0 vi vj (fT vF 42 (upd (vF 42) ((nI dN)).toNatClampNeg (nI cR))) vG) H := fz_w (WR_F 42 (by decide) _ rfl) hP
          have hD : va_D A (WR a k h0 vi vj (fT vF 42 (upd (vF 42) ((nI dN)).toNatClampNeg (nI cR))) vG) := fz_wD (WR_F 42 (by decide) _ rfl) hD
          refine lv_aload_n hx hb dX12_readFactor_106 rfl (lv_at hl 0 rfl) ?_
          refine va_get (D := (dC, dI)) (ci := 12) (v := .ref (a 34)) (C := RX12) (T := TX12) (N := 163) (fs := fM (vS a vi vj)) hx hb hts iwsRX12_readFactor_in12 hown hK hP 0 rfl rfl 58 (by decide) (hts (.fieldLink RX12 125 "OptimaWorksModel" "firstA" "[I") (by decide +kernel)) (fun _ h9 => h9) rfl dX12_readFactor_107 ?_
          refine lv_aload_n hx hb dX12_readFactor_110 rfl (lv_at hl 0 rfl) ?_
          refine va_get (D := (dC, dI)) (ci := 12) (v := .ref (a 41)) (C := RX12) (T := TX12) (N := 163) (fs := fM (vS a vi vj)) hx hb hts iwsRX12_readFactor_in12 hown hK hP 0 rfl rfl 66 (by decide) (hts _ hm_r_X12_readFactor_2) (fun _ h9 => h9) rfl dX12_readFactor_111 ?_
          refine lv_iload_n hx hb dX12_readFactor_114 rfl (lv_at hl 1 rfl) ?_
          refine va_iald (cA := k 41) (n := 120) (f := (vF 41)) hx hb hK hP 42 41 (WR_get 41 (by decide)) (TR_get 41 (by decide)) (vp_in_nI (show dN < 120 by omega) (by omega)) dX12_readFactor_115 ?_
          refine lv_topi (fun y6 hy6 => ?_)
          obtain rfl : ((vF 41) dN) = y6 := (hy6.trans (by rw [nI_clamp (by omega)])).symm
          refine lv_topi (fun y7 hy7 => ?_)
          obtain rfl : (nI gN) = y7 := (hy7.trans (hg41)).symm
          refine lv_aload_n hx hb dX12_readFactor_116 rfl (lv_at hl 0 rfl) ?_
          refine va_get (D := (dC, dI)) (ci := 12) (v := .int (vi 77)) (C := RX12) (T := TX12) (N := 163) (fs := fM (vS a vi vj)) hx hb hts iwsRX12_readFactor_in12 hown hK hP 0 rfl rfl 77 (by decide) (hts _ hm_r_X12_readFactor_3) (fun _ h9 => h9) rfl dX12_readFactor_117 ?_
          refine va_iast (cA := k 34) (n := 4200) (f := (vF 34)) hx hb hK hP hD hS 35 34 (WR_get 34 (by decide)) (TR_get 34 (by decide)) (vp_in_nI (show gN < 4200 by omega) (by omega)) dX12_readFactor_120 (fun H locs hP hD hS => ?_)
          have hP : va_P (dC, dI) vwCl (WR a k h0 vi vj (fT (fT vF 42 (upd (vF 42) ((nI dN)).toNatClampNeg (nI cR))) 34 (upd (vF 34) ((nI gN)).toNatClampNeg (vi 77))) vG) H := fz_w (WR_F 34 (by decide) _ rfl) hP
          have hD : va_D A (WR a k h0 vi vj (fT (fT vF 42 (upd (vF 42) ((nI dN)).toNatClampNeg (nI cR))) 34 (upd (vF 34) ((nI gN)).toNatClampNeg (vi 77))) vG) := fz_wD (WR_F 34 (by decide) _ rfl) hD
          refine lv_aload_n hx hb dX12_readFactor_121 rfl (lv_at hl 0 rfl) ?_
          refine va_get (D := (dC, dI)) (ci := 12) (v := .ref (a 31)) (C := RX12) (T := TX12) (N := 163) (fs := fM (vS a vi vj)) hx hb hts iwsRX12_readFactor_in12 hown hK hP 0 rfl rfl 55 (by decide) (hts _ hm_r_X12_readFactor_4) (fun _ h9 => h9) rfl dX12_readFactor_122 ?_
          refine lv_aload_n hx hb dX12_readFactor_125 rfl (lv_at hl 0 rfl) ?_
          refine va_get (D := (dC, dI)) (ci := 12) (v := .ref (a 41)) (C := RX12) (T := TX12) (N := 163) (fs := fM (vS a vi vj)) hx hb hts iwsRX12_readFactor_in12 hown hK hP 0 rfl rfl 66 (by decide) (hts _ hm_r_X12_readFactor_2) (fun _ h9 => h9) rfl dX12_readFactor_126 ?_
          refine lv_iload_n hx hb dX12_readFactor_129 rfl (lv_at hl 1 rfl) ?_
          refine va_iald (cA := k 41) (n := 120) (f := (vF 41)) hx hb hK hP 42 41 (WR_get 41 (by decide)) (TR_get 41 (by decide)) (vp_in_nI (show dN < 120 by omega) (by omega)) dX12_readFactor_130 ?_
          refine lv_topi (fun y8 hy8 => ?_)
          obtain rfl : ((vF 41) dN) = y8 := (hy8.trans (by rw [nI_clamp (by omega)])).symm
          refine lv_topi (fun y9 hy9 => ?_)
          obtain rfl : (nI gN) = y9 := (hy9.trans (hg41)).symm
          refine lv_aload_n hx hb dX12_readFactor_131 rfl (lv_at hl 0 rfl) ?_
          refine va_get (D := (dC, dI)) (ci := 12) (v := .int (vi 76)) (C := RX12) (T := TX12) (N := 163) (fs := fM (vS a vi vj)) hx hb hts iwsRX12_readFactor_in12 hown hK hP 0 rfl rfl 76 (by decide) (hts _ hm_r_X12_readFactor_1) (fun _ h9 => h9) rfl dX12_readFactor_132 ?_
          refine lv_topi (fun y10 hy10 => ?_)
          obtain rfl : (nI cR) = y10 := (hy10.trans (hres)).symm
          refine va_iast (cA := k 31) (n := 4200) (f := (vF 31)) hx hb hK hP hD hS 32 31 (WR_get 31 (by decide)) (TR_get 31 (by decide)) (vp_in_nI (show gN < 4200 by omega) (by omega)) dX12_readFactor_135 (fun H locs hP hD hS => ?_)
          have hP : va_P (dC, dI) vwCl (WR a k h0 vi vj (fT (fT (fT vF 42 (upd (vF 42) ((nI dN)).toNatClampNeg (nI cR))) 34 (upd (vF 34) ((nI gN)).toNatClampNeg (vi 77))) 31 (upd (vF 31) ((nI gN)).toNatClampNeg (nI cR))) vG) H := fz_w (WR_F 31 (by decide) _ rfl) hP
          have hD : va_D A (WR a k h0 vi vj (fT (fT (fT vF 42 (upd (vF 42) ((nI dN)).toNatClampNeg (nI cR))) 34 (upd (vF 34) ((nI gN)).toNatClampNeg (vi 77))) 31 (upd (vF 31) ((nI gN)).toNatClampNeg (nI cR))) vG) := fz_wD (WR_F 31 (by decide) _ rfl) hD
          refine lv_aload_n hx hb dX12_readFactor_136 rfl (lv_at hl 0 rfl) ?_
          refine lv_aload_n hx hb dX12_readFactor_137 rfl (lv_at hl 0 rfl) ?_
          refine va_get (D := (dC, dI)) (ci := 12) (v := .ref (a 41)) (C := RX12) (T := TX12) (N := 163) (fs := fM (vS a vi vj)) hx hb hts iwsRX12_readFactor_in12 hown hK hP 0 rfl rfl 66 (by decide) (hts _ hm_r_X12_readFactor_2) (fun _ h9 => h9) rfl dX12_readFactor_138 ?_
          refine lv_iload_n hx hb dX12_readFactor_141 rfl (lv_at hl 1 rfl) ?_
          refine va_iald (cA := k 41) (n := 120) (f := (vF 41)) hx hb hK hP 42 41 (WR_get 41 (by decide)) (TR_get 41 (by decide)) (vp_in_nI (show dN < 120 by omega) (by omega)) dX12_readFactor_142 ?_
          refine lv_topi (fun y11 hy11 => ?_)
          obtain rfl : ((vF 41) dN) = y11 := (hy11.trans (by rw [nI_clamp (by omega)])).symm
          refine lv_topi (fun y12 hy12 => ?_)
          obtain rfl : (nI gN) = y12 := (hy12.trans (hg41)).symm
          have hFc := allFree hD hS hA
          refine va_calli (va_runV (As := [.int (nI gN)]) (rest := []) ⟨hx, hb, hml, hown, hts⟩ (r_X12_placesOf l dC dI a k h0 vi vj (fT (fT (fT vF 42 (upd (vF 42) ((nI dN)).toNatClampNeg (nI cR))) 34 (upd (vF 34) ((nI gN)).toNatClampNeg (vi 77))) 31 (upd (vF 31) ((nI gN)).toNatClampNeg (nI cR))) vG gN kU aU pl ((by omega)) (hk29) (ha30) (ha44) (hkU) ((by omega)) ((fun h9 => (congrFun ht18 aU).trans (hSm.1.1 h9))) ((fun h9 => (congrFun ht24 aU).trans (hSm.1.2 h9))) H.size) (cwV 1 hts gwsRX12_readFactor_4 rfl rfl rfl hd_yX12_placesOf_RX12 (by decide +kernel)) (fz_pre (va_recv hK hP (ci := 12) (q0 := 0) rfl rfl) hP hK hD) rfl rfl hl.1 rfl (lv_room (Nat.le_of_ble_eq_true rfl)) dX12_readFactor_143 (by decide +kernel)) hS (fun q _ h => hFc q h) hFc (fun r143 u t9_ H locs ht hvm hw9 hB9 hz1 hk1 hS => ?_)
          have hP : va_P (dC, dI) vwCl (WR a k h0 vi vj (fT (fT (fT vF 42 (upd (vF 42) ((nI dN)).toNatClampNeg (nI cR))) 34 (upd (vF 34) ((nI gN)).toNatClampNeg (vi 77))) 31 (upd (vF 31) ((nI gN)).toNatClampNeg (nI cR))) vG) H := fz_P ht hB9.1
          have hD := fz_sd hP (hB9.2.weaken (fun _ q _ h => hFc q.1 h)) rfl
          obtain rfl := hw9
          refine lv_iconst (v := 1) hx hb dX12_readFactor_146 (by decide) ?_
          refine lv_icmp_ne (tgt := 172) hx hb dX12_readFactor_147 (by decide) (fun c_147 => ?_) (fun c_147 => ?_)
          · have t_147 : ((pl : Nat) : Int) ≠ 1 := toI_ne c_147 (nI_toInt (by omega)) (by decide)
            obtain rfl : pl = 2 := by omega
            have hUn2 := hUn
            refine lv_aload_n hx hb dX12_readFactor_172 rfl (lv_at hl 0 rfl) ?_
            refine lv_bipush (v := 44) hx hb dX12_readFactor_173 (by decide) ?_
            have hFc := allFree hD hS hA
            refine va_calli (va_runV (As := [.int 44]) (rest := []) ⟨hx, hb, hml, hown, hts⟩ (r_X12_needSign l dC dI a k h0 vi vj (fT (fT (fT vF 42 (upd (vF 42) ((nI dN)).toNatClampNeg (nI cR))) 34 (upd (vF 34) ((nI gN)).toNatClampNeg (vi 77))) 31 (upd (vF 31) ((nI gN)).toNatClampNeg (nI cR))) vG 44 tp an fn hTp (by first | with_reducible assumption | decide | omega | rfl | assumption) ha0 hfr (by first | with_reducible assumption | decide | omega | rfl | assumption) (by first | with_reducible assumption | decide | omega | rfl | assumption) H.size) (cwV 1 hts gwsRX12_readFactor_3 rfl rfl rfl hd_yX12_needSign_RX12 (by decide +kernel)) (fz_preE (va_recv hK hP (ci := 12) (q0 := 0) rfl rfl) hP hK hD (fun a U g mk qE => qE.same rfl) (fun U hU9 hW => by rw [hU9]; exact (((hE : StrA A s s.heap).kept hS.2.1).narrow (fun q h => hFc q h)).warm hW)) rfl rfl hl.1 rfl (lv_room (Nat.le_of_ble_eq_true rfl)) dX12_readFactor_175 (by decide +kernel)) hS (fun q _ h => hFc q h) hFc (fun r175 u t9_ H locs ht hvm hw9 hB9 hz1 hk1 hS => ?_)
            revert u hw9 hB9
            refine fz_p6 ?_
            intro a2175 f2175 sg175 wd175 s2175 p2175 hw9 hB9
            try dsimp only at hw9 hB9
            have hP : va_P (dC, dI) vwCl (WR a k h0 (fT (fT (fT (fT (fT (fT vi 17 (nI a2175)) 19 (nI f2175)) 20 sg175) 18 wd175) 21 s2175) 22 p2175) vj (fT (fT (fT vF 42 (upd (vF 42) ((nI dN)).toNatClampNeg (nI cR))) 34 (upd (vF 34) ((nI gN)).toNatClampNeg (vi 77))) 31 (upd (vF 31) ((nI gN)).toNatClampNeg (nI cR))) vG) H := fz_P ht hB9.1
            have hD := fz_sd hP (hB9.2.weaken (fun _ q _ h => hFc q.1 h)) rfl
            rcases hw9 with ⟨rfl, f175_0, f175_1, f175_2, f175_3⟩ | ⟨rfl, f175_0, f175_1, f175_2⟩
            · have f175_3 : (vi 21) = 0 := f175_3
              refine lv_if_eq (tgt := 316) hx hb dX12_readFactor_178 (by decide) (fun c9 => absurd c9 (by decide)) (fun _ => ?_)
              have hl1 := f175_1.1
              have hl2 := f175_1.2.1
              refine lv_aload_n hx hb dX12_readFactor_181 rfl (lv_at hl 0 rfl) ?_
              refine va_get (D := (dC, dI)) (ci := 12) (v := .ref (a 40)) (C := RX12) (T := TX12) (N := 163) (fs := fM (vS a (fT (fT (fT (fT (fT (fT vi 17 (nI a2175)) 19 (nI f2175)) 20 sg175) 18 wd175) 21 s2175) 22 p2175) vj)) hx hb hts iwsRX12_readFactor_in12 hown hK hP 0 rfl rfl 65 (by decide) (hts _ hm_r_X12_readFactor_0) (fun _ h9 => h9) rfl dX12_readFactor_182 ?_
              refine lv_iload_n hx hb dX12_readFactor_185 rfl (lv_at hl 1 rfl) ?_
              refine lv_iconst (v := 4) hx hb dX12_readFactor_186 (by decide) ?_
              refine va_iast (cA := k 40) (n := 120) (f := (vF 40)) hx hb hK hP hD hS 41 40 (WR_get 40 (by decide)) (TR_get 40 (by decide)) (vp_in_nI (show dN < 120 by omega) (by omega)) dX12_readFactor_187 (fun H locs hP hD hS => ?_)
              have hP : va_P (dC, dI) vwCl (WR a k h0 (fT (fT (fT (fT (fT (fT vi 17 (nI a2175)) 19 (nI f2175)) 20 sg175) 18 wd175) 21 s2175) 22 p2175) vj (fT (fT (fT (fT vF 42 (upd (vF 42) ((nI dN)).toNatClampNeg (nI cR))) 34 (upd (vF 34) ((nI gN)).toNatClampNeg (vi 77))) 31 (upd (vF 31) ((nI gN)).toNatClampNeg (nI cR))) 40 (upd (vF 40) ((nI dN)).toNatClampNeg 4)) vG) H := fz_w (WR_F 40 (by decide) _ rfl) hP
              have hD : va_D A (WR a k h0 (fT (fT (fT (fT (fT (fT vi 17 (nI a2175)) 19 (nI f2175)) 20 sg175) 18 wd175) 21 s2175) 22 p2175) vj (fT (fT (fT (fT vF 42 (upd (vF 42) ((nI dN)).toNatClampNeg (nI cR))) 34 (upd (vF 34) ((nI gN)).toNatClampNeg (vi 77))) 31 (upd (vF 31) ((nI gN)).toNatClampNeg (nI cR))) 40 (upd (vF 40) ((nI dN)).toNatClampNeg 4)) vG) := fz_wD (WR_F 40 (by decide) _ rfl) hD
              refine lv_aload_n hx hb dX12_readFactor_188 rfl (lv_at hl 0 rfl) ?_
              refine lv_iconst (v := 0) hx hb dX12_readFactor_189 (by decide) ?_
              have hFc := allFree hD hS hA
              refine va_callv (va_runV (As := [.int 0]) (rest := []) ⟨hx, hb, hml, hown, hts⟩ (r_X12_begin1 l dC dI a k h0 (fT (fT (fT (fT (fT (fT vi 17 (nI a2175)) 19 (nI f2175)) 20 sg175) 18 wd175) 21 s2175) 22 p2175) vj (fT (fT (fT (fT vF 42 (upd (vF 42) ((nI dN)).toNatClampNeg (nI cR))) 34 (upd (vF 34) ((nI gN)).toNatClampNeg (vi 77))) 31 (upd (vF 31) ((nI gN)).toNatClampNeg (nI cR))) 40 (upd (vF 40) ((nI dN)).toNatClampNeg 4)) vG 0 tp a2175 f2175 nm se pa va bd (dN + 1) wi hTp (by first | with_reducible assumption | decide | omega | rfl | assumption) rfl rfl (f175_1) ((show 0 ≤ (s2175).toInt by rw [f175_0]; decide)) hnm (by first | with_reducible assumption | decide | omega | rfl | assumption) (by first | with_reducible assumption | decide | omega | rfl | assumption) (by first | with_reducible assumption | decide | omega | rfl | assumption) hbd (by first | with_reducible assumption | decide | omega | rfl | assumption) (by first | with_reducible assumption | decide | omega | rfl | assumption) (hdp) (by first | with_reducible assumption | decide | omega | rfl | assumption) hwi (by first | with_reducible assumption | decide | omega | rfl | assumption) H.size) (cwV 1 hts gwsRX12_readFactor_5 rfl rfl rfl hd_yX12_begin1_RX12 (by decide +kernel)) (fz_pre (va_recv hK hP (ci := 12) (q0 := 0) rfl rfl) hP hK hD) rfl rfl hl.1 rfl (lv_room (Nat.le_of_ble_eq_true rfl)) dX12_readFactor_190 (by decide +kernel)) hS (fun q _ h => hFc q h) hFc (fun u t9_ H locs ht hvm hw9 hB9 hz1 hk1 hS => ?_)
              revert u hw9 hB9
              refine fz_p10 ?_
              intro s2190 p2190 g39190 g40190 g41190 g42190 g47190 g48190 d2190 w2190 hw9 hB9
              try dsimp only at hw9 hB9
              have e9i : fT (fT (fT (fT (fT (fT (fT (fT vi 17 (nI a2175)) 19 (nI f2175)) 20 sg175) 18 wd175) 21 s2190) 22 p2190) 75 (nI w2190)) 74 (nI d2190) = fT (fT (fT (fT (fT (fT (fT (fT (fT (fT vi 17 (nI a2175)) 19 (nI f2175)) 20 sg175) 18 wd175) 21 s2175) 22 p2175) 75 (nI w2190)) 74 (nI d2190)) 21 s2190) 22 p2190 := Eq.symm (Eq.trans (congrArg (fun g9 => fT g9 22 p2190) (up_3 rfl)) (up_2 rfl))
              have e9F : fT (fT (fT (fT (fT (fT (fT (fT vF 42 g42190) 34 (upd (vF 34) ((nI gN)).toNatClampNeg (vi 77))) 31 (upd (vF 31) ((nI gN)).toNatClampNeg (nI cR))) 40 g40190) 39 g39190) 41 g41190) 47 g47190) 48 g48190 = fT (fT (fT (fT (fT (fT (fT (fT (fT (fT vF 42 (upd (vF 42) ((nI dN)).toNatClampNeg (nI cR))) 34 (upd (vF 34) ((nI gN)).toNatClampNeg (vi 77))) 31 (upd (vF 31) ((nI gN)).toNatClampNeg (nI cR))) 40 (upd (vF 40) ((nI dN)).toNatClampNeg 4)) 39 g39190) 40 g40190) 41 g41190) 42 g42190) 47 g47190) 48 g48190 := Eq.symm (congrArg (fun g9 => fT (fT g9 47 g47190) 48 g48190) (Eq.trans (congrArg (fun g9 => fT (fT g9 41 g41190) 42 g42190) (up_1 rfl)) (up_5 rfl)))
              have hP := wr_PF e9F (wr_Pi e9i (fz_P ht hB9.1))
              have hD := wr_DF e9F (wr_Di e9i (hB9.2.weaken (fun _ q _ h => hFc q.1 h)))
              clear e9i e9F
              revert hw9
              refine fz_a4 ?_
              intro f190_0 f190_1 f190_2 f190_3
              have f190_1 : 0 < (s2190).toInt ∨ (s2190 = s2175 ∧ BgO 0 wd175 sg175 g39190 g40190 g41190 g42190 g48190 (dN + 1) wi d2190 w2190) := f190_1
              have f190_2 : FrmO (dN + 1) (vF 39) (upd (vF 40) ((nI dN)).toNatClampNeg 4) (vF 41) (upd (vF 42) ((nI dN)).toNatClampNeg (nI cR)) (vF 48) g39190 g40190 g41190 g42190 g48190 := f190_2
              refine lv_goto (tgt := 316) hx hb dX12_readFactor_193 (by decide) ?_
              refine W.widen (k := 0) (n := 0) (by decide +kernel) (by decide +kernel) ?_
              have e9 : fT (fT (fT (fT (fT (fT (fT (fT (fT (fT (fT (fT (fT vi 21 s2190) 22 p2190) 17 (nI a2175)) 19 (nI f2175)) 20 sg175) 18 wd175) 52 (nI nd)) 60 (nI bs)) 30 (nI bd)) 75 (nI w2190)) 74 (nI d2190)) 76 (vi 76)) 77 (vi 77) = fT (fT (fT (fT (fT (fT (fT (fT vi 17 (nI a2175)) 19 (nI f2175)) 20 sg175) 18 wd175) 21 s2190) 22 p2190) 75 (nI w2190)) 74 (nI d2190) := Eq.trans (mv_6 rfl) (Eq.trans (congrArg (fT _ 52) (show nI nd = vi 52 from (by first | with_reducible rfl | with_reducible assumption | (symm; with_reducible assumption) | rfl | assumption | (symm; assumption) | (subst_vars; rfl)))) (Eq.trans (id_12 rfl) (Eq.trans (mv_5 rfl) (Eq.trans (congrArg (fT _ 60) (show nI bs = vi 60 from (by first | with_reducible rfl | with_reducible assumption | (symm; with_reducible assumption) | rfl | assumption | (symm; assumption) | (subst_vars; rfl)))) (Eq.trans (id_11 rfl) (Eq.trans (mv_4 rfl) (Eq.trans (congrArg (fT _ 30) (show nI bd = vi 30 from (by first | with_reducible rfl | with_reducible assumption | (symm; with_reducible assumption) | rfl | assumption | (symm; assumption) | (subst_vars; rfl)))) (Eq.trans (id_10 rfl) (Eq.trans (mv_1 rfl) (Eq.trans (id_9 rfl) (Eq.trans (id_8 rfl) (Eq.trans (mv_5 rfl) (Eq.trans (mv_5 rfl) (Eq.trans (mv_5 rfl) (Eq.trans (mv_5 rfl) (Eq.trans (mv_7 rfl) (Eq.trans (mv_7 rfl) (Eq.trans (mv_7 rfl) (mv_7 rfl)))))))))))))))))))
              have hP := wr_Pi e9 hP
              have hD := wr_Di e9 hD
              clear e9
              have e9 : fT (fT (fT (fT (fT (fT (fT (fT (fT (fT (fT (fT (fT (fT (fT (fT (fT (fT (fT vF 45 (vF 45)) 29 (vF 29)) 30 (vF 30)) 31 (upd (vF 31) ((nI gN)).toNatClampNeg (nI cR))) 32 (vF 32)) 33 (vF 33)) 34 (upd (vF 34) ((nI gN)).toNatClampNeg (vi 77))) 35 (vF 35)) 41 g41190) 38 (vF 38)) 37 (vF 37)) 14 (vF 14)) 15 (vF 15)) 36 (vF 36)) 40 g40190) 39 g39190) 42 g42190) 47 g47190) 48 g48190 = fT (fT (fT (fT (fT (fT (fT (fT vF 42 g42190) 34 (upd (vF 34) ((nI gN)).toNatClampNeg (vi 77))) 31 (upd (vF 31) ((nI gN)).toNatClampNeg (nI cR))) 40 g40190) 39 g39190) 41 g41190) 47 g47190) 48 g48190 := Eq.trans (mv_18 rfl) (Eq.trans (id_18 rfl) (Eq.trans (mv_17 rfl) (Eq.trans (id_17 rfl) (Eq.trans (mv_16 rfl) (Eq.trans (id_16 rfl) (Eq.trans (mv_14 rfl) (Eq.trans (id_15 rfl) (Eq.trans (mv_13 rfl) (Eq.trans (id_14 rfl) (Eq.trans (mv_11 rfl) (Eq.trans (id_13 rfl) (Eq.trans (mv_9 rfl) (Eq.trans (id_12 rfl) (Eq.trans (mv_8 rfl) (Eq.trans (id_11 rfl) (Eq.trans (mv_7 rfl) (Eq.trans (id_10 rfl) (Eq.trans (mv_6 rfl) (Eq.trans (id_9 rfl) (Eq.trans (mv_5 rfl) (Eq.trans (id_8 rfl) (Eq.trans (mv_2 rfl) (Eq.trans (mv_6 rfl) (Eq.trans (mv_7 rfl) (Eq.trans (mv_6 rfl) (Eq.trans (mv_6 rfl) (Eq.trans (mv_7 rfl) (Eq.trans (mv_7 rfl) (mv_7 rfl)))))))))))))))))))))))))))))
              have hP := wr_PF e9 hP
              have hD := wr_DF e9 hD
              clear e9
              exact W.vret hx hb hr (fun t9_ ht hW => ⟨⟨(a2175, f2175, sg175, wd175, s2190, p2190, (vF 29), (vF 30), (upd (vF 31) ((nI gN)).toNatClampNeg (nI cR)), (vF 32), (vF 33), (upd (vF 34) ((nI gN)).toNatClampNeg (vi 77)), (vF 35), (vF 14), (vF 15), (vF 36), (vF 37), (vF 38), g39190, g40190, g41190, g42190, (vF 45), g47190, g48190, d2190, w2190, nd, bd, bs, (vi 76), (vi 77), gG), rfl, by (try dsimp only); exact ⟨f175_1, by omega, f190_0, by rcases f190_1 with h9 | h9; (exact Or.inl h9); (exact Or.inr ⟨RdS.push (gm := gm) hKB.1 hBel hKB.2.1 (Nat.le_refl _) (fun q hq => ⟨rfl, by rw [upd_at (by omega), if_neg (by omega)], rfl, by rw [upd_at (by omega), if_neg (by omega)], rfl⟩) h39 (by decide) h48 (by omega) ⟨⟨by omega, fun _ => by omega, fun h8 => absurd h8 (by decide), by omega⟩, Or.inr (Or.inr (Or.inr (Or.inr (Or.inl ⟨rfl, rfl, by rw [upd_at (by omega), if_pos rfl], rfl, rfl, rfl, gN, cR, hg41, by omega, by omega, hgV, hUn2, u_at (by omega) rfl, hcR.mono (by omega), hg32⟩))))⟩ f190_2 (by rw [← hwc]; exact h9.2) (show (0 : Int32) = nI 0 by decide) (by decide) (by omega) (by omega) (by omega) (by omega) (by omega) (by show 10 * (4000 - _) + dN + 1 + 3 ≤ mM - 1; omega), hKB.2.1.less (Nat.zero_le _)⟩), by omega, by omega, hbo⟩, by rw [ht]; exact hP, hD⟩, hS.F ht⟩) hS.2.2 dX12_readFactor_316
            · refine lv_if_eq (tgt := 316) hx hb dX12_readFactor_178 (by decide) (fun _ => ?_) (fun c9 => absurd (by decide) c9)
              refine W.widen (k := 0) (n := 0) (by decide +kernel) (by decide +kernel) ?_
              have e9 : fT (fT (fT (fT (fT (fT (fT (fT (fT (fT (fT (fT (fT vi 21 s2175) 22 p2175) 17 (nI a2175)) 19 (nI f2175)) 20 sg175) 18 wd175) 52 (nI nd)) 60 (nI bs)) 30 (nI bd)) 75 (nI wi)) 74 (nI (dN + 1))) 76 (vi 76)) 77 (vi 77) = fT (fT (fT (fT (fT (fT vi 17 (nI a2175)) 19 (nI f2175)) 20 sg175) 18 wd175) 21 s2175) 22 p2175 := Eq.trans (mv_6 rfl) (Eq.trans (congrArg (fT _ 52) (show nI nd = vi 52 from (by first | with_reducible rfl | with_reducible assumption | (symm; with_reducible assumption) | rfl | assumption | (symm; assumption) | (subst_vars; rfl)))) (Eq.trans (id_12 rfl) (Eq.trans (mv_5 rfl) (Eq.trans (congrArg (fT _ 60) (show nI bs = vi 60 from (by first | with_reducible rfl | with_reducible assumption | (symm; with_reducible assumption) | rfl | assumption | (symm; assumption) | (subst_vars; rfl)))) (Eq.trans (id_11 rfl) (Eq.trans (mv_4 rfl) (Eq.trans (congrArg (fT _ 30) (show nI bd = vi 30 from (by first | with_reducible rfl | with_reducible assumption | (symm; with_reducible assumption) | rfl | assumption | (symm; assumption) | (subst_vars; rfl)))) (Eq.trans (id_10 rfl) (Eq.trans (mv_3 rfl) (Eq.trans (congrArg (fT _ 75) (show nI wi = vi 75 from (by first | with_reducible rfl | with_reducible assumption | (symm; with_reducible assumption) | rfl | assumption | (symm; assumption) | (subst_vars; rfl)))) (Eq.trans (id_9 rfl) (Eq.trans (mv_2 rfl) (Eq.trans (congrArg (fT _ 74) (show nI (dN + 1) = vi 74 from (by first | with_reducible rfl | with_reducible assumption | (symm; with_reducible assumption) | rfl | assumption | (symm; assumption) | (subst_vars; rfl)))) (Eq.trans (id_8 rfl) (Eq.trans (mv_1 rfl) (Eq.trans (id_7 rfl) (Eq.trans (id_6 rfl) (Eq.trans (mv_3 rfl) (Eq.trans (mv_3 rfl) (Eq.trans (mv_3 rfl) (Eq.trans (mv_3 rfl) (Eq.trans (mv_5 rfl) (mv_5 rfl)))))))))))))))))))))))
              have hP := wr_Pi e9 hP
              have hD := wr_Di e9 hD
              clear e9
              have e9 : fT (fT (fT (fT (fT (fT (fT (fT (fT (fT (fT (fT (fT (fT (fT (fT (fT (fT (fT vF 45 (vF 45)) 29 (vF 29)) 30 (vF 30)) 31 (upd (vF 31) ((nI gN)).toNatClampNeg (nI cR))) 32 (vF 32)) 33 (vF 33)) 34 (upd (vF 34) ((nI gN)).toNatClampNeg (vi 77))) 35 (vF 35)) 41 (vF 41)) 38 (vF 38)) 37 (vF 37)) 14 (vF 14)) 15 (vF 15)) 36 (vF 36)) 40 (vF 40)) 39 (vF 39)) 42 (upd (vF 42) ((nI dN)).toNatClampNeg (nI cR))) 47 (vF 47)) 48 (vF 48) = fT (fT (fT vF 42 (upd (vF 42) ((nI dN)).toNatClampNeg (nI cR))) 34 (upd (vF 34) ((nI gN)).toNatClampNeg (vi 77))) 31 (upd (vF 31) ((nI gN)).toNatClampNeg (nI cR)) := Eq.trans (mv_18 rfl) (Eq.trans (id_18 rfl) (Eq.trans (mv_17 rfl) (Eq.trans (id_17 rfl) (Eq.trans (mv_16 rfl) (Eq.trans (id_16 rfl) (Eq.trans (mv_14 rfl) (Eq.trans (id_15 rfl) (Eq.trans (mv_13 rfl) (Eq.trans (id_14 rfl) (Eq.trans (mv_11 rfl) (Eq.trans (id_13 rfl) (Eq.trans (mv_10 rfl) (Eq.trans (id_12 rfl) (Eq.trans (mv_9 rfl) (Eq.trans (id_11 rfl) (Eq.trans (mv_8 rfl) (Eq.trans (id_10 rfl) (Eq.trans (mv_7 rfl) (Eq.trans (id_9 rfl) (Eq.trans (mv_6 rfl) (Eq.trans (id_8 rfl) (Eq.trans (mv_5 rfl) (Eq.trans (id_7 rfl) (Eq.trans (mv_4 rfl) (Eq.trans (id_6 rfl) (Eq.trans (mv_3 rfl) (Eq.trans (id_5 rfl) (Eq.trans (mv_1 rfl) (Eq.trans (id_4 rfl) (Eq.trans (id_3 rfl) (Eq.trans (mv_1 rfl) (mv_2 rfl))))))))))))))))))))))))))))))))
              have hP := wr_PF e9 hP
              have hD := wr_DF e9 hD
              clear e9
              exact W.vret hx hb hr (fun t9_ ht hW => ⟨⟨(a2175, f2175, sg175, wd175, s2175, p2175, (vF 29), (vF 30), (upd (vF 31) ((nI gN)).toNatClampNeg (nI cR)), (vF 32), (vF 33), (upd (vF 34) ((nI gN)).toNatClampNeg (vi 77)), (vF 35), (vF 14), (vF 15), (vF 36), (vF 37), (vF 38), (vF 39), (vF 40), (vF 41), (upd (vF 42) ((nI dN)).toNatClampNeg (nI cR)), (vF 45), (vF 47), (vF 48), (dN + 1), wi, nd, bd, bs, (vi 76), (vi 77), gG), rfl, by (try dsimp only); exact ⟨f175_1, by omega, by omega, Or.inl f175_0, by omega, by omega, hbo⟩, by rw [ht]; exact hP, hD⟩, hS.F ht⟩) hS.2.2 dX12_readFactor_316
          · have t_147 : ((pl : Nat) : Int) = 1 := toI_nne c_147 (nI_toInt (by omega)) (by decide)
            obtain rfl : pl = 1 := by omega
            have hKM := hKB.fin1 (p := 51 - 2 * (cw + xe)) hgV hgV hgl (by omega) (by omega) hUn (u_at (by omega) rfl) hcR (by omega) hg32 (by omega)
            refine lv_aload_n hx hb dX12_readFactor_150 rfl (lv_at hl 0 rfl) ?_
            refine lv_bipush (v := 93) hx hb dX12_readFactor_151 (by decide) ?_
            have hFc := allFree hD hS hA
            refine va_calli (va_runV (As := [.int 93]) (rest := []) ⟨hx, hb, hml, hown, hts⟩ (r_X12_needSign l dC dI a k h0 vi vj (fT (fT (fT vF 42 (upd (vF 42) ((nI dN)).toNatClampNeg (nI cR))) 34 (upd (vF 34) ((nI gN)).toNatClampNeg (vi 77))) 31 (upd (vF 31) ((nI gN)).toNatClampNeg (nI cR))) vG 93 tp an fn hTp (by first | with_reducible assumption | decide | omega | rfl | assumption) ha0 hfr (by first | with_reducible assumption | decide | omega | rfl | assumption) (by first | with_reducible assumption | decide | omega | rfl | assumption) H.size) (cwV 1 hts gwsRX12_readFactor_3 rfl rfl rfl hd_yX12_needSign_RX12 (by decide +kernel)) (fz_preE (va_recv hK hP (ci := 12) (q0 := 0) rfl rfl) hP hK hD (fun a U g mk qE => qE.same rfl) (fun U hU9 hW => by rw [hU9]; exact (((hE : StrA A s s.heap).kept hS.2.1).narrow (fun q h => hFc q h)).warm hW)) rfl rfl hl.1 rfl (lv_room (Nat.le_of_ble_eq_true rfl)) dX12_readFactor_153 (by decide +kernel)) hS (fun q _ h => hFc q h) hFc (fun r153 u t9_ H locs ht hvm hw9 hB9 hz1 hk1 hS => ?_)
            revert u hw9 hB9
            refine fz_p6 ?_
            intro a2153 f2153 sg153 wd153 s2153 p2153 hw9 hB9
            try dsimp only at hw9 hB9
            have hP : va_P (dC, dI) vwCl (WR a k h0 (fT (fT (fT (fT (fT (fT vi 17 (nI a2153)) 19 (nI f2153)) 20 sg153) 18 wd153) 21 s2153) 22 p2153) vj (fT (fT (fT vF 42 (upd (vF 42) ((nI dN)).toNatClampNeg (nI cR))) 34 (upd (vF 34) ((nI gN)).toNatClampNeg (vi 77))) 31 (upd (vF 31) ((nI gN)).toNatClampNeg (nI cR))) vG) H := fz_P ht hB9.1
            have hD := fz_sd hP (hB9.2.weaken (fun _ q _ h => hFc q.1 h)) rfl
            rcases hw9 with ⟨rfl, f153_0, f153_1, f153_2, f153_3⟩ | ⟨rfl, f153_0, f153_1, f153_2⟩
            · have f153_3 : (vi 21) = 0 := f153_3
              refine lv_if_eq (tgt := 316) hx hb dX12_readFactor_156 (by decide) (fun c9 => absurd c9 (by decide)) (fun _ => ?_)
              refine lv_aload_n hx hb dX12_readFactor_159 rfl (lv_at hl 0 rfl) ?_
              refine lv_aload_n hx hb dX12_readFactor_160 rfl (lv_at hl 0 rfl) ?_
              refine va_get (D := (dC, dI)) (ci := 12) (v := .ref (a 41)) (C := RX12) (T := TX12) (N := 163) (fs := fM (vS a (fT (fT (fT (fT (fT (fT vi 17 (nI a2153)) 19 (nI f2153)) 20 sg153) 18 wd153) 21 s2153) 22 p2153) vj)) hx hb hts iwsRX12_readFactor_in12 hown hK hP 0 rfl rfl 66 (by decide) (hts _ hm_r_X12_readFactor_2) (fun _ h9 => h9) rfl dX12_readFactor_161 ?_
              refine lv_iload_n hx hb dX12_readFactor_164 rfl (lv_at hl 1 rfl) ?_
              refine va_iald (cA := k 41) (n := 120) (f := (vF 41)) hx hb hK hP 42 41 (WR_get 41 (by decide)) (TR_get 41 (by decide)) (vp_in_nI (show dN < 120 by omega) (by omega)) dX12_readFactor_165 ?_
              refine lv_topi (fun y13 hy13 => ?_)
              obtain rfl : ((vF 41) dN) = y13 := (hy13.trans (by rw [nI_clamp (by omega)])).symm
              refine lv_topi (fun y14 hy14 => ?_)
              obtain rfl : (nI gN) = y14 := (hy14.trans (hg41)).symm
              have hFc := allFree hD hS hA
              refine va_callv (va_runV (As := [.int (nI gN)]) (rest := []) ⟨hx, hb, hml, hown, hts⟩ (r_X12_end1w l dC dI a k h0 (fT (fT (fT (fT (fT (fT vi 17 (nI a2153)) 19 (nI f2153)) 20 sg153) 18 wd153) 21 s2153) 22 p2153) vj (fT (fT (fT vF 42 (upd (vF 42) ((nI dN)).toNatClampNeg (nI cR))) 34 (upd (vF 34) ((nI gN)).toNatClampNeg (vi 77))) 31 (upd (vF 31) ((nI gN)).toNatClampNeg (nI cR))) vG (nI gN) dN wi xe (hdp) (by first | with_reducible assumption | decide | omega | rfl | assumption) hwi (by first | with_reducible assumption | decide | omega | rfl | assumption) (h48) (by first | with_reducible assumption | decide | omega | rfl | assumption) H.size) (cwV 1 hts gwsRX12_readFactor_2 rfl rfl rfl hd_yX12_end1_RX12 (by decide +kernel)) (fz_pre (va_recv hK hP (ci := 12) (q0 := 0) rfl rfl) hP hK hD) rfl rfl hl.1 rfl (lv_room (Nat.le_of_ble_eq_true rfl)) dX12_readFactor_166 (by decide +kernel)) hS (fun q _ h => hFc q h) hFc (fun u t9_ H locs ht hvm hw9 hB9 hz1 hk1 hS => ?_)
              have hP : va_P (dC, dI) vwCl (WR a k h0 (fT (fT (fT (fT (fT (fT (fT (fT (fT (fT vi 17 (nI a2153)) 19 (nI f2153)) 20 sg153) 18 wd153) 21 s2153) 22 p2153) 74 (nI dN)) 75 (nI (wi - xe))) 76 (nI gN)) 77 ((vF 47) dN)) vj (fT (fT (fT vF 42 (upd (vF 42) ((nI dN)).toNatClampNeg (nI cR))) 34 (upd (vF 34) ((nI gN)).toNatClampNeg (vi 77))) 31 (upd (vF 31) ((nI gN)).toNatClampNeg (nI cR))) vG) H := fz_P ht hB9.1
              have hD := fz_sd hP (hB9.2.weaken (fun _ q _ h => hFc q.1 h)) rfl
              refine lv_goto (tgt := 316) hx hb dX12_readFactor_169 (by decide) ?_
              refine W.widen (k := 0) (n := 0) (by decide +kernel) (by decide +kernel) ?_
              have e9 : fT (fT (fT (fT (fT (fT (fT (fT (fT (fT (fT (fT (fT vi 21 s2153) 22 p2153) 17 (nI a2153)) 19 (nI f2153)) 20 sg153) 18 wd153) 52 (nI nd)) 60 (nI bs)) 30 (nI bd)) 75 (nI (wi - xe))) 74 (nI dN)) 76 (nI gN)) 77 ((vF 47) dN) = fT (fT (fT (fT (fT (fT (fT (fT (fT (fT vi 17 (nI a2153)) 19 (nI f2153)) 20 sg153) 18 wd153) 21 s2153) 22 p2153) 74 (nI dN)) 75 (nI (wi - xe))) 76 (nI gN)) 77 ((vF 47) dN) := Eq.trans (mv_6 rfl) (Eq.trans (congrArg (fT _ 52) (show nI nd = vi 52 from (by first | with_reducible rfl | with_reducible assumption | (symm; with_reducible assumption) | rfl | assumption | (symm; assumption) | (subst_vars; rfl)))) (Eq.trans (id_12 rfl) (Eq.trans (mv_5 rfl) (Eq.trans (congrArg (fT _ 60) (show nI bs = vi 60 from (by first | with_reducible rfl | with_reducible assumption | (symm; with_reducible assumption) | rfl | assumption | (symm; assumption) | (subst_vars; rfl)))) (Eq.trans (id_11 rfl) (Eq.trans (mv_4 rfl) (Eq.trans (congrArg (fT _ 30) (show nI bd = vi 30 from (by first | with_reducible rfl | with_reducible assumption | (symm; with_reducible assumption) | rfl | assumption | (symm; assumption) | (subst_vars; rfl)))) (Eq.trans (id_10 rfl) (Eq.trans (mv_7 rfl) (Eq.trans (mv_7 rfl) (Eq.trans (mv_7 rfl) (Eq.trans (mv_7 rfl) (Eq.trans (mv_9 rfl) (Eq.trans (mv_9 rfl) (Eq.trans (mv_8 rfl) (Eq.trans (mv_9 rfl) (Eq.trans (mv_9 rfl) (mv_9 rfl))))))))))))))))))
              have hP := wr_Pi e9 hP
              have hD := wr_Di e9 hD
              clear e9
              have e9 : fT (fT (fT (fT (fT (fT (fT (fT (fT (fT (fT (fT (fT (fT (fT (fT (fT (fT (fT vF 45 (vF 45)) 29 (vF 29)) 30 (vF 30)) 31 (upd (vF 31) ((nI gN)).toNatClampNeg (nI cR))) 32 (vF 32)) 33 (vF 33)) 34 (upd (vF 34) ((nI gN)).toNatClampNeg (vi 77))) 35 (vF 35)) 41 (vF 41)) 38 (vF 38)) 37 (vF 37)) 14 (vF 14)) 15 (vF 15)) 36 (vF 36)) 40 (vF 40)) 39 (vF 39)) 42 (upd (vF 42) ((nI dN)).toNatClampNeg (nI cR))) 47 (vF 47)) 48 (vF 48) = fT (fT (fT vF 42 (upd (vF 42) ((nI dN)).toNatClampNeg (nI cR))) 34 (upd (vF 34) ((nI gN)).toNatClampNeg (vi 77))) 31 (upd (vF 31) ((nI gN)).toNatClampNeg (nI cR)) := Eq.trans (mv_18 rfl) (Eq.trans (id_18 rfl) (Eq.trans (mv_17 rfl) (Eq.trans (id_17 rfl) (Eq.trans (mv_16 rfl) (Eq.trans (id_16 rfl) (Eq.trans (mv_14 rfl) (Eq.trans (id_15 rfl) (Eq.trans (mv_13 rfl) (Eq.trans (id_14 rfl) (Eq.trans (mv_11 rfl) (Eq.trans (id_13 rfl) (Eq.trans (mv_10 rfl) (Eq.trans (id_12 rfl) (Eq.trans (mv_9 rfl) (Eq.trans (id_11 rfl) (Eq.trans (mv_8 rfl) (Eq.trans (id_10 rfl) (Eq.trans (mv_7 rfl) (Eq.trans (id_9 rfl) (Eq.trans (mv_6 rfl) (Eq.trans (id_8 rfl) (Eq.trans (mv_5 rfl) (Eq.trans (id_7 rfl) (Eq.trans (mv_4 rfl) (Eq.trans (id_6 rfl) (Eq.trans (mv_3 rfl) (Eq.trans (id_5 rfl) (Eq.trans (mv_1 rfl) (Eq.trans (id_4 rfl) (Eq.trans (id_3 rfl) (Eq.trans (mv_1 rfl) (mv_2 rfl))))))))))))))))))))))))))))))))
              have hP := wr_PF e9 hP
              have hD := wr_DF e9 hD
              clear e9
              exact W.vret hx hb hr (fun t9_ ht hW => ⟨⟨(a2153, f2153, sg153, wd153, s2153, p2153, (vF 29), (vF 30), (upd (vF 31) ((nI gN)).toNatClampNeg (nI cR)), (vF 32), (vF 33), (upd (vF 34) ((nI gN)).toNatClampNeg (vi 77)), (vF 35), (vF 14), (vF 15), (vF 36), (vF 37), (vF 38), (vF 39), (vF 40), (vF 41), (upd (vF 42) ((nI dN)).toNatClampNeg (nI cR)), (vF 45), (vF 47), (vF 48), dN, (wi - xe), nd, bd, bs, (nI gN), ((vF 47) dN), (gG.add gN (gG.wt cR + 4) (51 - 2 * (cw + xe)) 0)), rfl, by (try dsimp only); exact ⟨f153_1, by omega, (by rw [f153_0]; decide), Or.inr ⟨by (have e9 : wi - xe = cw := by omega); rw [e9]; exact RdS.pop (ex := xe) hKM.1.1 hBel hKM.1.2.1 (Nat.le_refl _) (fun q hq => ⟨rfl, rfl, rfl, by rw [upd_at (by omega), if_neg (by omega)], rfl⟩) (by omega) (fun h8 => by omega) (by decide) (Or.inl ⟨by decide, hKM.2⟩) (by omega) (by show gG.vN + 1 + un ≤ nd; omega) (by omega) (by omega) hKM.1.2.2.2 (by omega), hKM.1.2.1.less (Nat.zero_le _)⟩, by omega, by omega, hbo⟩, by rw [ht]; exact hP, hD⟩, hS.F ht⟩) hS.2.2 dX12_readFactor_316
            · refine lv_if_eq (tgt := 316) hx hb dX12_readFactor_156 (by decide) (fun _ => ?_) (fun c9 => absurd (by decide) c9)
              refine W.widen (k := 0) (n := 0) (by decide +kernel) (by decide +kernel) ?_
              have e9 : fT (fT (fT (fT (fT (fT (fT (fT (fT (fT (fT (fT (fT vi 21 s2153) 22 p2153) 17 (nI a2153)) 19 (nI f2153)) 20 sg153) 18 wd153) 52 (nI nd)) 60 (nI bs)) 30 (nI bd)) 75 (nI wi)) 74 (nI (dN + 1))) 76 (vi 76)) 77 (vi 77) = fT (fT (fT (fT (fT (fT vi 17 (nI a2153)) 19 (nI f2153)) 20 sg153) 18 wd153) 21 s2153) 22 p2153 := Eq.trans (mv_6 rfl) (Eq.trans (congrArg (fT _ 52) (show nI nd = vi 52 from (by first | with_reducible rfl | with_reducible assumption | (symm; with_reducible assumption) | rfl | assumption | (symm; assumption) | (subst_vars; rfl)))) (Eq.trans (id_12 rfl) (Eq.trans (mv_5 rfl) (Eq.trans (congrArg (fT _ 60) (show nI bs = vi 60 from (by first | with_reducible rfl | with_reducible assumption | (symm; with_reducible assumption) | rfl | assumption | (symm; assumption) | (subst_vars; rfl)))) (Eq.trans (id_11 rfl) (Eq.trans (mv_4 rfl) (Eq.trans (congrArg (fT _ 30) (show nI bd = vi 30 from (by first | with_reducible rfl | with_reducible assumption | (symm; with_reducible assumption) | rfl | assumption | (symm; assumption) | (subst_vars; rfl)))) (Eq.trans (id_10 rfl) (Eq.trans (mv_3 rfl) (Eq.trans (congrArg (fT _ 75) (show nI wi = vi 75 from (by first | with_reducible rfl | with_reducible assumption | (symm; with_reducible assumption) | rfl | assumption | (symm; assumption) | (subst_vars; rfl)))) (Eq.trans (id_9 rfl) (Eq.trans (mv_2 rfl) (Eq.trans (congrArg (fT _ 74) (show nI (dN + 1) = vi 74 from (by first | with_reducible rfl | with_reducible assumption | (symm; with_reducible assumption) | rfl | assumption | (symm; assumption) | (subst_vars; rfl)))) (Eq.trans (id_8 rfl) (Eq.trans (mv_1 rfl) (Eq.trans (id_7 rfl) (Eq.trans (id_6 rfl) (Eq.trans (mv_3 rfl) (Eq.trans (mv_3 rfl) (Eq.trans (mv_3 rfl) (Eq.trans (mv_3 rfl) (Eq.trans (mv_5 rfl) (mv_5 rfl)))))))))))))))))))))))
              have hP := wr_Pi e9 hP
              have hD := wr_Di e9 hD
              clear e9
              have e9 : fT (fT (fT (fT (fT (fT (fT (fT (fT (fT (fT (fT (fT (fT (fT (fT (fT (fT (fT vF 45 (vF 45)) 29 (vF 29)) 30 (vF 30)) 31 (upd (vF 31) ((nI gN)).toNatClampNeg (nI cR))) 32 (vF 32)) 33 (vF 33)) 34 (upd (vF 34) ((nI gN)).toNatClampNeg (vi 77))) 35 (vF 35)) 41 (vF 41)) 38 (vF 38)) 37 (vF 37)) 14 (vF 14)) 15 (vF 15)) 36 (vF 36)) 40 (vF 40)) 39 (vF 39)) 42 (upd (vF 42) ((nI dN)).toNatClampNeg (nI cR))) 47 (vF 47)) 48 (vF 48) = fT (fT (fT vF 42 (upd (vF 42) ((nI dN)).toNatClampNeg (nI cR))) 34 (upd (vF 34) ((nI gN)).toNatClampNeg (vi 77))) 31 (upd (vF 31) ((nI gN)).toNatClampNeg (nI cR)) := Eq.trans (mv_18 rfl) (Eq.trans (id_18 rfl) (Eq.trans (mv_17 rfl) (Eq.trans (id_17 rfl) (Eq.trans (mv_16 rfl) (Eq.trans (id_16 rfl) (Eq.trans (mv_14 rfl) (Eq.trans (id_15 rfl) (Eq.trans (mv_13 rfl) (Eq.trans (id_14 rfl) (Eq.trans (mv_11 rfl) (Eq.trans (id_13 rfl) (Eq.trans (mv_10 rfl) (Eq.trans (id_12 rfl) (Eq.trans (mv_9 rfl) (Eq.trans (id_11 rfl) (Eq.trans (mv_8 rfl) (Eq.trans (id_10 rfl) (Eq.trans (mv_7 rfl) (Eq.trans (id_9 rfl) (Eq.trans (mv_6 rfl) (Eq.trans (id_8 rfl) (Eq.trans (mv_5 rfl) (Eq.trans (id_7 rfl) (Eq.trans (mv_4 rfl) (Eq.trans (id_6 rfl) (Eq.trans (mv_3 rfl) (Eq.trans (id_5 rfl) (Eq.trans (mv_1 rfl) (Eq.trans (id_4 rfl) (Eq.trans (id_3 rfl) (Eq.trans (mv_1 rfl) (mv_2 rfl))))))))))))))))))))))))))))))))
              have hP := wr_PF e9 hP
              have hD := wr_DF e9 hD
              clear e9
              exact W.vret hx hb hr (fun t9_ ht hW => ⟨⟨(a2153, f2153, sg153, wd153, s2153, p2153, (vF 29), (vF 30), (upd (vF 31) ((nI gN)).toNatClampNeg (nI cR)), (vF 32), (vF 33), (upd (vF 34) ((nI gN)).toNatClampNeg (vi 77)), (vF 35), (vF 14), (vF 15), (vF 36), (vF 37), (vF 38), (vF 39), (vF 40), (vF 41), (upd (vF 42) ((nI dN)).toNatClampNeg (nI cR)), (vF 45), (vF 47), (vF 48), (dN + 1), wi, nd, bd, bs, (vi 76), (vi 77), gG), rfl, by (try dsimp only); exact ⟨f153_1, by omega, by omega, Or.inl f153_0, by omega, by omega, hbo⟩, by rw [ht]; exact hP, hD⟩, hS.F ht⟩) hS.2.2 dX12_readFactor_316
        · have ts_6_3 : ¬ (((vF 40) dN)).toInt = 3 := toI_neq s_6_3 rfl (by decide)
          by_cases s_6_4 : ((vF 40) dN) = 4
          · have ts_6_4 : (((vF 40) dN)).toInt = 4 := toI_eq s_6_4 rfl (by decide)
            refine lv_tableIn (off := 190) (tgt := 196) hx hb dX12_readFactor_6 (by rw [s_6_4]; decide) (by rw [s_6_4]; decide) (by rw [s_6_4]; decide) (by decide) ?_
            obtain ⟨hq1, hq2, hq3, hq4, hq5, hq6, hw24, ⟨cR, hres, hcR⟩, gN, dX, hg41, hgl, hgm, hgV, hUn, hg31, hgd, hg32⟩ := hTq.fac4 s_6_4
            have hK0 := RdK.first (gl := gl) hRV (by omega)
            have hKB := hK0.b32 (n := gN) (v := nI cR) hgV hgl (by omega)
            have hKM := hKB.fin2 (p := 51 - 2 * (cw + xe)) hgV hgV hgl (by omega) (by omega) hUn hg31 hgd (Nat.le_refl _) (u_at (by omega) rfl) hcR (by omega) (by omega)
            refine lv_aload_n hx hb dX12_readFactor_196 rfl (lv_at hl 0 rfl) ?_
            refine va_get (D := (dC, dI)) (ci := 12) (v := .ref (a 35)) (C := RX12) (T := TX12) (N := 163) (fs := fM (vS a vi vj)) hx hb hts iwsRX12_readFactor_in12 hown hK hP 0 rfl rfl 59 (by decide) (hts (.fieldLink RX12 128 "OptimaWorksModel" "firstB" "[I") (by decide +kernel)) (fun _ h9 => h9) rfl dX12_readFactor_197 ?_
            refine lv_aload_n hx hb dX12_readFactor_200 rfl (lv_at hl 0 rfl) ?_
            refine va_get (D := (dC, dI)) (ci := 12) (v := .ref (a 41)) (C := RX12) (T := TX12) (N := 163) (fs := fM (vS a vi vj)) hx hb hts iwsRX12_readFactor_in12 hown hK hP 0 rfl rfl 66 (by decide) (hts _ hm_r_X12_readFactor_2) (fun _ h9 => h9) rfl dX12_readFactor_201 ?_
            refine lv_iload_n hx hb dX12_readFactor_204 rfl (lv_at hl 1 rfl) ?_
            refine va_iald (cA := k 41) (n := 120) (f := (vF 41)) hx hb hK hP 42 41 (WR_get 41 (by decide)) (TR_get 41 (by decide)) (vp_in_nI (show dN < 120 by omega) (by omega)) dX12_readFactor_205 ?_
            refine lv_topi (fun y15 hy15 => ?_)
            obtain rfl : ((vF 41) dN) = y15 := (hy15.trans (by rw [nI_clamp (by omega)])).symm
            refine lv_topi (fun y16 hy16 => ?_)
            obtain rfl : (nI gN) = y16 := (hy16.trans (hg41)).symm
            refine lv_aload_n hx hb dX12_readFactor_206 rfl (lv_at hl 0 rfl) ?_
            refine va_get (D := (dC, dI)) (ci := 12) (v := .int (vi 77)) (C := RX12) (T := TX12) (N := 163) (fs := fM (vS a vi vj)) hx hb hts iwsRX12_readFactor_in12 hown hK hP 0 rfl rfl 77 (by decide) (hts _ hm_r_X12_readFactor_3) (fun _ h9 => h9) rfl dX12_readFactor_207 ?_
            refine va_iast (cA := k 35) (n := 4200) (f := (vF 35)) hx hb hK hP hD hS 36 35 (WR_get 35 (by decide)) (TR_get 35 (by decide)) (vp_in_nI (show gN < 4200 by omega) (by omega)) dX12_readFactor_210 (fun H locs hP hD hS => ?_)
            have hP : va_P (dC, dI) vwCl (WR a k h0 vi vj (fT vF 35 (upd (vF 35) ((nI gN)).toNatClampNeg (vi 77))) vG) H := fz_w (WR_F 35 (by decide) _ rfl) hP
            have hD : va_D A (WR a k h0 vi vj (fT vF 35 (upd (vF 35) ((nI gN)).toNatClampNeg (vi 77))) vG) := fz_wD (WR_F 35 (by decide) _ rfl) hD
            refine lv_aload_n hx hb dX12_readFactor_211 rfl (lv_at hl 0 rfl) ?_
            refine va_get (D := (dC, dI)) (ci := 12) (v := .ref (a 32)) (C := RX12) (T := TX12) (N := 163) (fs := fM (vS a vi vj)) hx hb hts iwsRX12_readFactor_in12 hown hK hP 0 rfl rfl 56 (by decide) (hts _ hm_r_X12_readFactor_5) (fun _ h9 => h9) rfl dX12_readFactor_212 ?_
            refine lv_aload_n hx hb dX12_readFactor_215 rfl (lv_at hl 0 rfl) ?_
            refine va_get (D := (dC, dI)) (ci := 12) (v := .ref (a 41)) (C := RX12) (T := TX12) (N := 163) (fs := fM (vS a vi vj)) hx hb hts iwsRX12_readFactor_in12 hown hK hP 0 rfl rfl 66 (by decide) (hts _ hm_r_X12_readFactor_2) (fun _ h9 => h9) rfl dX12_readFactor_216 ?_
            refine lv_iload_n hx hb dX12_readFactor_219 rfl (lv_at hl 1 rfl) ?_
            refine va_iald (cA := k 41) (n := 120) (f := (vF 41)) hx hb hK hP 42 41 (WR_get 41 (by decide)) (TR_get 41 (by decide)) (vp_in_nI (show dN < 120 by omega) (by omega)) dX12_readFactor_220 ?_
            refine lv_topi (fun y17 hy17 => ?_)
            obtain rfl : ((vF 41) dN) = y17 := (hy17.trans (by rw [nI_clamp (by omega)])).symm
            refine lv_topi (fun y18 hy18 => ?_)
            obtain rfl : (nI gN) = y18 := (hy18.trans (hg41)).symm
            refine lv_aload_n hx hb dX12_readFactor_221 rfl (lv_at hl 0 rfl) ?_
            refine va_get (D := (dC, dI)) (ci := 12) (v := .int (vi 76)) (C := RX12) (T := TX12) (N := 163) (fs := fM (vS a vi vj)) hx hb hts iwsRX12_readFactor_in12 hown hK hP 0 rfl rfl 76 (by decide) (hts _ hm_r_X12_readFactor_1) (fun _ h9 => h9) rfl dX12_readFactor_222 ?_
            refine lv_topi (fun y19 hy19 => ?_)
            obtain rfl : (nI cR) = y19 := (hy19.trans (hres)).symm
            refine va_iast (cA := k 32) (n := 4200) (f := (vF 32)) hx hb hK hP hD hS 33 32 (WR_get 32 (by decide)) (TR_get 32 (by decide)) (vp_in_nI (show gN < 4200 by omega) (by omega)) dX12_readFactor_225 (fun H locs hP hD hS => ?_)
            have hP : va_P (dC, dI) vwCl (WR a k h0 vi vj (fT (fT vF 35 (upd (vF 35) ((nI gN)).toNatClampNeg (vi 77))) 32 (upd (vF 32) ((nI gN)).toNatClampNeg (nI cR))) vG) H := fz_w (WR_F 32 (by decide) _ rfl) hP
            have hD : va_D A (WR a k h0 vi vj (fT (fT vF 35 (upd (vF 35) ((nI gN)).toNatClampNeg (vi 77))) 32 (upd (vF 32) ((nI gN)).toNatClampNeg (nI cR))) vG) := fz_wD (WR_F 32 (by decide) _ rfl) hD
            refine lv_aload_n hx hb dX12_readFactor_226 rfl (lv_at hl 0 rfl) ?_
            refine lv_bipush (v := 93) hx hb dX12_readFactor_227 (by decide) ?_
            have hFc := allFree hD hS hA
            refine va_calli (va_runV (As := [.int 93]) (rest := []) ⟨hx, hb, hml, hown, hts⟩ (r_X12_needSign l dC dI a k h0 vi vj (fT (fT vF 35 (upd (vF 35) ((nI gN)).toNatClampNeg (vi 77))) 32 (upd (vF 32) ((nI gN)).toNatClampNeg (nI cR))) vG 93 tp an fn hTp (by first | with_reducible assumption | decide | omega | rfl | assumption) ha0 hfr (by first | with_reducible assumption | decide | omega | rfl | assumption) (by first | with_reducible assumption | decide | omega | rfl | assumption) H.size) (cwV 1 hts gwsRX12_readFactor_3 rfl rfl rfl hd_yX12_needSign_RX12 (by decide +kernel)) (fz_preE (va_recv hK hP (ci := 12) (q0 := 0) rfl rfl) hP hK hD (fun a U g mk qE => qE.same rfl) (fun U hU9 hW => by rw [hU9]; exact (((hE : StrA A s s.heap).kept hS.2.1).narrow (fun q h => hFc q h)).warm hW)) rfl rfl hl.1 rfl (lv_room (Nat.le_of_ble_eq_true rfl)) dX12_readFactor_229 (by decide +kernel)) hS (fun q _ h => hFc q h) hFc (fun r229 u t9_ H locs ht hvm hw9 hB9 hz1 hk1 hS => ?_)
            revert u hw9 hB9
            refine fz_p6 ?_
            intro a2229 f2229 sg229 wd229 s2229 p2229 hw9 hB9
            try dsimp only at hw9 hB9
            have hP : va_P (dC, dI) vwCl (WR a k h0 (fT (fT (fT (fT (fT (fT vi 17 (nI a2229)) 19 (nI f2229)) 20 sg229) 18 wd229) 21 s2229) 22 p2229) vj (fT (fT vF 35 (upd (vF 35) ((nI gN)).toNatClampNeg (vi 77))) 32 (upd (vF 32) ((nI gN)).toNatClampNeg (nI cR))) vG) H := fz_P ht hB9.1
            have hD := fz_sd hP (hB9.2.weaken (fun _ q _ h => hFc q.1 h)) rfl
            rcases hw9 with ⟨rfl, f229_0, f229_1, f229_2, f229_3⟩ | ⟨rfl, f229_0, f229_1, f229_2⟩
            · have f229_3 : (vi 21) = 0 := f229_3
              refine lv_if_eq (tgt := 316) hx hb dX12_readFactor_232 (by decide) (fun c9 => absurd c9 (by decide)) (fun _ => ?_)
              refine lv_aload_n hx hb dX12_readFactor_235 rfl (lv_at hl 0 rfl) ?_
              refine lv_aload_n hx hb dX12_readFactor_236 rfl (lv_at hl 0 rfl) ?_
              refine va_get (D := (dC, dI)) (ci := 12) (v := .ref (a 41)) (C := RX12) (T := TX12) (N := 163) (fs := fM (vS a (fT (fT (fT (fT (fT (fT vi 17 (nI a2229)) 19 (nI f2229)) 20 sg229) 18 wd229) 21 s2229) 22 p2229) vj)) hx hb hts iwsRX12_readFactor_in12 hown hK hP 0 rfl rfl 66 (by decide) (hts _ hm_r_X12_readFactor_2) (fun _ h9 => h9) rfl dX12_readFactor_237 ?_
              refine lv_iload_n hx hb dX12_readFactor_240 rfl (lv_at hl 1 rfl) ?_
              refine va_iald (cA := k 41) (n := 120) (f := (vF 41)) hx hb hK hP 42 41 (WR_get 41 (by decide)) (TR_get 41 (by decide)) (vp_in_nI (show dN < 120 by omega) (by omega)) dX12_readFactor_241 ?_
              refine lv_topi (fun y20 hy20 => ?_)
              obtain rfl : ((vF 41) dN) = y20 := (hy20.trans (by rw [nI_clamp (by omega)])).symm
              refine lv_topi (fun y21 hy21 => ?_)
              obtain rfl : (nI gN) = y21 := (hy21.trans (hg41)).symm
              have hFc := allFree hD hS hA
              refine va_callv (va_runV (As := [.int (nI gN)]) (rest := []) ⟨hx, hb, hml, hown, hts⟩ (r_X12_end1w l dC dI a k h0 (fT (fT (fT (fT (fT (fT vi 17 (nI a2229)) 19 (nI f2229)) 20 sg229) 18 wd229) 21 s2229) 22 p2229) vj (fT (fT vF 35 (upd (vF 35) ((nI gN)).toNatClampNeg (vi 77))) 32 (upd (vF 32) ((nI gN)).toNatClampNeg (nI cR))) vG (nI gN) dN wi xe (hdp) (by first | with_reducible assumption | decide | omega | rfl | assumption) hwi (by first | with_reducible assumption | decide | omega | rfl | assumption) (h48) (by first | with_reducible assumption | decide | omega | rfl | assumption) H.size) (cwV 1 hts gwsRX12_readFactor_2 rfl rfl rfl hd_yX12_end1_RX12 (by decide +kernel)) (fz_pre (va_recv hK hP (ci := 12) (q0 := 0) rfl rfl) hP hK hD) rfl rfl hl.1 rfl (lv_room (Nat.le_of_ble_eq_true rfl)) dX12_readFactor_242 (by decide +kernel)) hS (fun q _ h => hFc q h) hFc (fun u t9_ H locs ht hvm hw9 hB9 hz1 hk1 hS => ?_)
              have hP : va_P (dC, dI) vwCl (WR a k h0 (fT (fT (fT (fT (fT (fT (fT (fT (fT (fT vi 17 (nI a2229)) 19 (nI f2229)) 20 sg229) 18 wd229) 21 s2229) 22 p2229) 74 (nI dN)) 75 (nI (wi - xe))) 76 (nI gN)) 77 ((vF 47) dN)) vj (fT (fT vF 35 (upd (vF 35) ((nI gN)).toNatClampNeg (vi 77))) 32 (upd (vF 32) ((nI gN)).toNatClampNeg (nI cR))) vG) H := fz_P ht hB9.1
              have hD := fz_sd hP (hB9.2.weaken (fun _ q _ h => hFc q.1 h)) rfl
              refine lv_goto (tgt := 316) hx hb dX12_readFactor_245 (by decide) ?_
              refine W.widen (k := 0) (n := 0) (by decide +kernel) (by decide +kernel) ?_
              have e9 : fT (fT (fT (fT (fT (fT (fT (fT (fT (fT (fT (fT (fT vi 21 s2229) 22 p2229) 17 (nI a2229)) 19 (nI f2229)) 20 sg229) 18 wd229) 52 (nI nd)) 60 (nI bs)) 30 (nI bd)) 75 (nI (wi - xe))) 74 (nI dN)) 76 (nI gN)) 77 ((vF 47) dN) = fT (fT (fT (fT (fT (fT (fT (fT (fT (fT vi 17 (nI a2229)) 19 (nI f2229)) 20 sg229) 18 wd229) 21 s2229) 22 p2229) 74 (nI dN)) 75 (nI (wi - xe))) 76 (nI gN)) 77 ((vF 47) dN) := Eq.trans (mv_6 rfl) (Eq.trans (congrArg (fT _ 52) (show nI nd = vi 52 from (by first | with_reducible rfl | with_reducible assumption | (symm; with_reducible assumption) | rfl | assumption | (symm; assumption) | (subst_vars; rfl)))) (Eq.trans (id_12 rfl) (Eq.trans (mv_5 rfl) (Eq.trans (congrArg (fT _ 60) (show nI bs = vi 60 from (by first | with_reducible rfl | with_reducible assumption | (symm; with_reducible assumption) | rfl | assumption | (symm; assumption) | (subst_vars; rfl)))) (Eq.trans (id_11 rfl) (Eq.trans (mv_4 rfl) (Eq.trans (congrArg (fT _ 30) (show nI bd = vi 30 from (by first | with_reducible rfl | with_reducible assumption | (symm; with_reducible assumption) | rfl | assumption | (symm; assumption) | (subst_vars; rfl)))) (Eq.trans (id_10 rfl) (Eq.trans (mv_7 rfl) (Eq.trans (mv_7 rfl) (Eq.trans (mv_7 rfl) (Eq.trans (mv_7 rfl) (Eq.trans (mv_9 rfl) (Eq.trans (mv_9 rfl) (Eq.trans (mv_8 rfl) (Eq.trans (mv_9 rfl) (Eq.trans (mv_9 rfl) (mv_9 rfl))))))))))))))))))
              have hP := wr_Pi e9 hP
              have hD := wr_Di e9 hD
              clear e9
              have e9 : fT (fT (fT (fT (fT (fT (fT (fT (fT (fT (fT (fT (fT (fT (fT (fT (fT (fT (fT vF 45 (vF 45)) 29 (vF 29)) 30 (vF 30)) 31 (vF 31)) 32 (upd (vF 32) ((nI gN)).toNatClampNeg (nI cR))) 33 (vF 33)) 34 (vF 34)) 35 (upd (vF 35) ((nI gN)).toNatClampNeg (vi 77))) 41 (vF 41)) 38 (vF 38)) 37 (vF 37)) 14 (vF 14)) 15 (vF 15)) 36 (vF 36)) 40 (vF 40)) 39 (vF 39)) 42 (vF 42)) 47 (vF 47)) 48 (vF 48) = fT (fT vF 35 (upd (vF 35) ((nI gN)).toNatClampNeg (vi 77))) 32 (upd (vF 32) ((nI gN)).toNatClampNeg (nI cR)) := Eq.trans (mv_18 rfl) (Eq.trans (id_18 rfl) (Eq.trans (mv_17 rfl) (Eq.trans (id_17 rfl) (Eq.trans (mv_16 rfl) (Eq.trans (id_16 rfl) (Eq.trans (mv_15 rfl) (Eq.trans (id_15 rfl) (Eq.trans (mv_13 rfl) (Eq.trans (id_14 rfl) (Eq.trans (mv_12 rfl) (Eq.trans (id_13 rfl) (Eq.trans (mv_10 rfl) (Eq.trans (id_12 rfl) (Eq.trans (mv_9 rfl) (Eq.trans (id_11 rfl) (Eq.trans (mv_8 rfl) (Eq.trans (id_10 rfl) (Eq.trans (mv_7 rfl) (Eq.trans (id_9 rfl) (Eq.trans (mv_6 rfl) (Eq.trans (id_8 rfl) (Eq.trans (mv_5 rfl) (Eq.trans (id_7 rfl) (Eq.trans (mv_4 rfl) (Eq.trans (id_6 rfl) (Eq.trans (mv_3 rfl) (Eq.trans (id_5 rfl) (Eq.trans (mv_2 rfl) (Eq.trans (id_4 rfl) (Eq.trans (mv_1 rfl) (Eq.trans (id_3 rfl) (Eq.trans (id_2 rfl) (mv_1 rfl)))))))))))))))))))))))))))))))))
              have hP := wr_PF e9 hP
              have hD := wr_DF e9 hD
              clear e9
              exact W.vret hx hb hr (fun t9_ ht hW => ⟨⟨(a2229, f2229, sg229, wd229, s2229, p2229, (vF 29), (vF 30), (vF 31), (upd (vF 32) ((nI gN)).toNatClampNeg (nI cR)), (vF 33), (vF 34), (upd (vF 35) ((nI gN)).toNatClampNeg (vi 77)), (vF 14), (vF 15), (vF 36), (vF 37), (vF 38), (vF 39), (vF 40), (vF 41), (vF 42), (vF 45), (vF 47), (vF 48), dN, (wi - xe), nd, bd, bs, (nI gN), ((vF 47) dN), (gG.add gN (gG.wt cR + gG.wt dX + 4) (51 - 2 * (cw + xe)) 0)), rfl, by (try dsimp only); exact ⟨f229_1, by omega, (by rw [f229_0]; decide), Or.inr ⟨by (have e9 : wi - xe = cw := by omega); rw [e9]; exact RdS.pop (ex := xe) hKM.1.1 hBel hKM.1.2.1 (Nat.le_refl _) (fun q hq => ⟨rfl, rfl, rfl, rfl, rfl⟩) (by omega) (fun h8 => by omega) (by decide) (Or.inl ⟨by decide, hKM.2⟩) (by omega) (by show gG.vN + 1 + un ≤ nd; omega) (by omega) (by omega) hKM.1.2.2.2 (by omega), hKM.1.2.1.less (Nat.zero_le _)⟩, by omega, by omega, hbo⟩, by rw [ht]; exact hP, hD⟩, hS.F ht⟩) hS.2.2 dX12_readFactor_316
            · refine lv_if_eq (tgt := 316) hx hb dX12_readFactor_232 (by decide) (fun _ => ?_) (fun c9 => absurd (by decide) c9)
              refine W.widen (k := 0) (n := 0) (by decide +kernel) (by decide +kernel) ?_
              have e9 : fT (fT (fT (fT (fT (fT (fT (fT (fT (fT (fT (fT (fT vi 21 s2229) 22 p2229) 17 (nI a2229)) 19 (nI f2229)) 20 sg229) 18 wd229) 52 (nI nd)) 60 (nI bs)) 30 (nI bd)) 75 (nI wi)) 74 (nI (dN + 1))) 76 (vi 76)) 77 (vi 77) = fT (fT (fT (fT (fT (fT vi 17 (nI a2229)) 19 (nI f2229)) 20 sg229) 18 wd229) 21 s2229) 22 p2229 := Eq.trans (mv_6 rfl) (Eq.trans (congrArg (fT _ 52) (show nI nd = vi 52 from (by first | with_reducible rfl | with_reducible assumption | (symm; with_reducible assumption) | rfl | assumption | (symm; assumption) | (subst_vars; rfl)))) (Eq.trans (id_12 rfl) (Eq.trans (mv_5 rfl) (Eq.trans (congrArg (fT _ 60) (show nI bs = vi 60 from (by first | with_reducible rfl | with_reducible assumption | (symm; with_reducible assumption) | rfl | assumption | (symm; assumption) | (subst_vars; rfl)))) (Eq.trans (id_11 rfl) (Eq.trans (mv_4 rfl) (Eq.trans (congrArg (fT _ 30) (show nI bd = vi 30 from (by first | with_reducible rfl | with_reducible assumption | (symm; with_reducible assumption) | rfl | assumption | (symm; assumption) | (subst_vars; rfl)))) (Eq.trans (id_10 rfl) (Eq.trans (mv_3 rfl) (Eq.trans (congrArg (fT _ 75) (show nI wi = vi 75 from (by first | with_reducible rfl | with_reducible assumption | (symm; with_reducible assumption) | rfl | assumption | (symm; assumption) | (subst_vars; rfl)))) (Eq.trans (id_9 rfl) (Eq.trans (mv_2 rfl) (Eq.trans (congrArg (fT _ 74) (show nI (dN + 1) = vi 74 from (by first | with_reducible rfl | with_reducible assumption | (symm; with_reducible assumption) | rfl | assumption | (symm; assumption) | (subst_vars; rfl)))) (Eq.trans (id_8 rfl) (Eq.trans (mv_1 rfl) (Eq.trans (id_7 rfl) (Eq.trans (id_6 rfl) (Eq.trans (mv_3 rfl) (Eq.trans (mv_3 rfl) (Eq.trans (mv_3 rfl) (Eq.trans (mv_3 rfl) (Eq.trans (mv_5 rfl) (mv_5 rfl)))))))))))))))))))))))
              have hP := wr_Pi e9 hP
              have hD := wr_Di e9 hD
              clear e9
              have e9 : fT (fT (fT (fT (fT (fT (fT (fT (fT (fT (fT (fT (fT (fT (fT (fT (fT (fT (fT vF 45 (vF 45)) 29 (vF 29)) 30 (vF 30)) 31 (vF 31)) 32 (upd (vF 32) ((nI gN)).toNatClampNeg (nI cR))) 33 (vF 33)) 34 (vF 34)) 35 (upd (vF 35) ((nI gN)).toNatClampNeg (vi 77))) 41 (vF 41)) 38 (vF 38)) 37 (vF 37)) 14 (vF 14)) 15 (vF 15)) 36 (vF 36)) 40 (vF 40)) 39 (vF 39)) 42 (vF 42)) 47 (vF 47)) 48 (vF 48) = fT (fT vF 35 (upd (vF 35) ((nI gN)).toNatClampNeg (vi 77))) 32 (upd (vF 32) ((nI gN)).toNatClampNeg (nI cR)) := Eq.trans (mv_18 rfl) (Eq.trans (id_18 rfl) (Eq.trans (mv_17 rfl) (Eq.trans (id_17 rfl) (Eq.trans (mv_16 rfl) (Eq.trans (id_16 rfl) (Eq.trans (mv_15 rfl) (Eq.trans (id_15 rfl) (Eq.trans (mv_13 rfl) (Eq.trans (id_14 rfl) (Eq.trans (mv_12 rfl) (Eq.trans (id_13 rfl) (Eq.trans (mv_10 rfl) (Eq.trans (id_12 rfl) (Eq.trans (mv_9 rfl) (Eq.trans (id_11 rfl) (Eq.trans (mv_8 rfl) (Eq.trans (id_10 rfl) (Eq.trans (mv_7 rfl) (Eq.trans (id_9 rfl) (Eq.trans (mv_6 rfl) (Eq.trans (id_8 rfl) (Eq.trans (mv_5 rfl) (Eq.trans (id_7 rfl) (Eq.trans (mv_4 rfl) (Eq.trans (id_6 rfl) (Eq.trans (mv_3 rfl) (Eq.trans (id_5 rfl) (Eq.trans (mv_2 rfl) (Eq.trans (id_4 rfl) (Eq.trans (mv_1 rfl) (Eq.trans (id_3 rfl) (Eq.trans (id_2 rfl) (mv_1 rfl)))))))))))))))))))))))))))))))))
              have hP := wr_PF e9 hP
              have hD := wr_DF e9 hD
              clear e9
              exact W.vret hx hb hr (fun t9_ ht hW => ⟨⟨(a2229, f2229, sg229, wd229, s2229, p2229, (vF 29), (vF 30), (vF 31), (upd (vF 32) ((nI gN)).toNatClampNeg (nI cR)), (vF 33), (vF 34), (upd (vF 35) ((nI gN)).toNatClampNeg (vi 77)), (vF 14), (vF 15), (vF 36), (vF 37), (vF 38), (vF 39), (vF 40), (vF 41), (vF 42), (vF 45), (vF 47), (vF 48), (dN + 1), wi, nd, bd, bs, (vi 76), (vi 77), gG), rfl, by (try dsimp only); exact ⟨f229_1, by omega, by omega, Or.inl f229_0, by omega, by omega, hbo⟩, by rw [ht]; exact hP, hD⟩, hS.F ht⟩) hS.2.2 dX12_readFactor_316
          · have ts_6_4 : ¬ (((vF 40) dN)).toInt = 4 := toI_neq s_6_4 rfl (by decide)
            by_cases s_6_5 : ((vF 40) dN) = 5
            · have ts_6_5 : (((vF 40) dN)).toInt = 5 := toI_eq s_6_5 rfl (by decide)
              refine lv_tableIn (off := 242) (tgt := 248) hx hb dX12_readFactor_6 (by rw [s_6_5]; decide) (by rw [s_6_5]; decide) (by rw [s_6_5]; decide) (by decide) ?_
              obtain ⟨hq1, hq2, hq3, hq4, hq5, hq6, hw24, ⟨cR, hres, hcR⟩, gN, hg41, hgl, hgm, hgV, hUs, hg31⟩ := hTq.fac5 s_6_5
              have hK0 := RdK.first (gl := gl) hRV (by omega)
              have hKB := hK0.b31 (n := gN) (v := nI cR) hgV hgl (by omega)
              refine lv_aload_n hx hb dX12_readFactor_248 rfl (lv_at hl 0 rfl) ?_
              refine va_get (D := (dC, dI)) (ci := 12) (v := .ref (a 31)) (C := RX12) (T := TX12) (N := 163) (fs := fM (vS a vi vj)) hx hb hts iwsRX12_readFactor_in12 hown hK hP 0 rfl rfl 55 (by decide) (hts _ hm_r_X12_readFactor_4) (fun _ h9 => h9) rfl dX12_readFactor_249 ?_
              refine lv_aload_n hx hb dX12_readFactor_252 rfl (lv_at hl 0 rfl) ?_
              refine va_get (D := (dC, dI)) (ci := 12) (v := .ref (a 41)) (C := RX12) (T := TX12) (N := 163) (fs := fM (vS a vi vj)) hx hb hts iwsRX12_readFactor_in12 hown hK hP 0 rfl rfl 66 (by decide) (hts _ hm_r_X12_readFactor_2) (fun _ h9 => h9) rfl dX12_readFactor_253 ?_
              refine lv_iload_n hx hb dX12_readFactor_256 rfl (lv_at hl 1 rfl) ?_
              refine va_iald (cA := k 41) (n := 120) (f := (vF 41)) hx hb hK hP 42 41 (WR_get 41 (by decide)) (TR_get 41 (by decide)) (vp_in_nI (show dN < 120 by omega) (by omega)) dX12_readFactor_257 ?_
              refine lv_topi (fun y22 hy22 => ?_)
              obtain rfl : ((vF 41) dN) = y22 := (hy22.trans (by rw [nI_clamp (by omega)])).symm
              refine lv_topi (fun y23 hy23 => ?_)
              obtain rfl : (nI gN) = y23 := (hy23.trans (hg41)).symm
              refine lv_aload_n hx hb dX12_readFactor_258 rfl (lv_at hl 0 rfl) ?_
              refine va_get (D := (dC, dI)) (ci := 12) (v := .int (vi 76)) (C := RX12) (T := TX12) (N := 163) (fs := fM (vS a vi vj)) hx hb hts iwsRX12_readFactor_in12 hown hK hP 0 rfl rfl 76 (by decide) (hts _ hm_r_X12_readFactor_1) (fun _ h9 => h9) rfl dX12_readFactor_259 ?_
              refine lv_topi (fun y24 hy24 => ?_)
              obtain rfl : (nI cR) = y24 := (hy24.trans (hres)).symm
              refine va_iast (cA := k 31) (n := 4200) (f := (vF 31)) hx hb hK hP hD hS 32 31 (WR_get 31 (by decide)) (TR_get 31 (by decide)) (vp_in_nI (show gN < 4200 by omega) (by omega)) dX12_readFactor_262 (fun H locs hP hD hS => ?_)
              have hP : va_P (dC, dI) vwCl (WR a k h0 vi vj (fT vF 31 (upd (vF 31) ((nI gN)).toNatClampNeg (nI cR))) vG) H := fz_w (WR_F 31 (by decide) _ rfl) hP
              have hD : va_D A (WR a k h0 vi vj (fT vF 31 (upd (vF 31) ((nI gN)).toNatClampNeg (nI cR))) vG) := fz_wD (WR_F 31 (by decide) _ rfl) hD
              refine lv_aload_n hx hb dX12_readFactor_263 rfl (lv_at hl 0 rfl) ?_
              refine lv_iload_n hx hb dX12_readFactor_264 rfl (lv_at hl 1 rfl) ?_
              have hFc := allFree hD hS hA
              refine va_callv (va_runV (As := [.int (nI dN)]) (rest := []) ⟨hx, hb, hml, hown, hts⟩ (r_X12_closeSum l dC dI a k h0 vi vj (fT vF 31 (upd (vF 31) ((nI gN)).toNatClampNeg (nI cR))) vG dN tp an fn nm se pa va bd wi (by first | with_reducible assumption | decide | omega | rfl | assumption) hTp (by first | with_reducible assumption | decide | omega | rfl | assumption) ha0 hfr (by first | with_reducible assumption | decide | omega | rfl | assumption) (by first | with_reducible assumption | decide | omega | rfl | assumption) hnm (by first | with_reducible assumption | decide | omega | rfl | assumption) (by first | with_reducible assumption | decide | omega | rfl | assumption) (by first | with_reducible assumption | decide | omega | rfl | assumption) hbd (by first | with_reducible assumption | decide | omega | rfl | assumption) (by first | with_reducible assumption | decide | omega | rfl | assumption) (hdp) (hwi) (by first | with_reducible assumption | decide | omega | rfl | assumption) H.size) (cwV 1 hts gwsRX12_readFactor_6 rfl rfl rfl hd_yX12_closeSum_RX12 (by decide +kernel)) (fz_preE (va_recv hK hP (ci := 12) (q0 := 0) rfl rfl) hP hK hD (fun a U g mk qE => qE.same rfl) (fun U hU9 hW => by rw [hU9]; exact (((hE : StrA A s s.heap).kept hS.2.1).narrow (fun q h => hFc q h)).warm hW)) rfl rfl hl.1 rfl (lv_room (Nat.le_of_ble_eq_true rfl)) dX12_readFactor_265 (by decide +kernel)) hS (fun q _ h => hFc q h) hFc (fun u t9_ H locs ht hvm hw9 hB9 hz1 hk1 hS => ?_)
              revert u hw9 hB9
              refine fz_p14 ?_
              intro a2265 f2265 sg265 wd265 s2265 p2265 g39265 g40265 g41265 g42265 g47265 g48265 d2265 w2265 hw9 hB9
              try dsimp only at hw9 hB9
              have hP : va_P (dC, dI) vwCl (WR a k h0 (fT (fT (fT (fT (fT (fT (fT (fT vi 17 (nI a2265)) 19 (nI f2265)) 20 sg265) 18 wd265) 21 s2265) 22 p2265) 75 (nI w2265)) 74 (nI d2265)) vj (fT (fT (fT (fT (fT (fT (fT vF 31 (upd (vF 31) ((nI gN)).toNatClampNeg (nI cR))) 40 g40265) 39 g39265) 41 g41265) 42 g42265) 47 g47265) 48 g48265) vG) H := fz_P ht hB9.1
              have hD := fz_sd hP (hB9.2.weaken (fun _ q _ h => hFc q.1 h)) rfl
              revert hw9
              refine fz_a5 ?_
              intro f265_0 f265_1 f265_2 f265_3 f265_4
              have f265_3 : 0 < (s2265).toInt ∨ (s2265 = 0 ∧ fn < f2265 ∧ BgO 1 wd265 sg265 g39265 g40265 g41265 g42265 g48265 (dN + 1) wi d2265 w2265 ∧ FrmO (dN + 1) (vF 39) (upd (vF 40) (nI dN).toNatClampNeg 6) (vF 41) (vF 42) (vF 48) g39265 g40265 g41265 g42265 g48265) := f265_3
              refine lv_goto (tgt := 316) hx hb dX12_readFactor_268 (by decide) ?_
              refine W.widen (k := 0) (n := 0) (by decide +kernel) (by decide +kernel) ?_
              have e9 : fT (fT (fT (fT (fT (fT (fT (fT (fT (fT (fT (fT (fT vi 21 s2265) 22 p2265) 17 (nI a2265)) 19 (nI f2265)) 20 sg265) 18 wd265) 52 (nI nd)) 60 (nI bs)) 30 (nI bd)) 75 (nI w2265)) 74 (nI d2265)) 76 (vi 76)) 77 (vi 77) = fT (fT (fT (fT (fT (fT (fT (fT vi 17 (nI a2265)) 19 (nI f2265)) 20 sg265) 18 wd265) 21 s2265) 22 p2265) 75 (nI w2265)) 74 (nI d2265) := Eq.trans (mv_6 rfl) (Eq.trans (congrArg (fT _ 52) (show nI nd = vi 52 from (by first | with_reducible rfl | with_reducible assumption | (symm; with_reducible assumption) | rfl | assumption | (symm; assumption) | (subst_vars; rfl)))) (Eq.trans (id_12 rfl) (Eq.trans (mv_5 rfl) (Eq.trans (congrArg (fT _ 60) (show nI bs = vi 60 from (by first | with_reducible rfl | with_reducible assumption | (symm; with_reducible assumption) | rfl | assumption | (symm; assumption) | (subst_vars; rfl)))) (Eq.trans (id_11 rfl) (Eq.trans (mv_4 rfl) (Eq.trans (congrArg (fT _ 30) (show nI bd = vi 30 from (by first | with_reducible rfl | with_reducible assumption | (symm; with_reducible assumption) | rfl | assumption | (symm; assumption) | (subst_vars; rfl)))) (Eq.trans (id_10 rfl) (Eq.trans (mv_1 rfl) (Eq.trans (id_9 rfl) (Eq.trans (id_8 rfl) (Eq.trans (mv_5 rfl) (Eq.trans (mv_5 rfl) (Eq.trans (mv_5 rfl) (Eq.trans (mv_5 rfl) (Eq.trans (mv_7 rfl) (Eq.trans (mv_7 rfl) (Eq.trans (mv_7 rfl) (mv_7 rfl)))))))))))))))))))
              have hP := wr_Pi e9 hP
              have hD := wr_Di e9 hD
              clear e9
              have e9 : fT (fT (fT (fT (fT (fT (fT (fT (fT (fT (fT (fT (fT (fT (fT (fT (fT (fT (fT vF 45 (vF 45)) 29 (vF 29)) 30 (vF 30)) 31 (upd (vF 31) ((nI gN)).toNatClampNeg (nI cR))) 32 (vF 32)) 33 (vF 33)) 34 (vF 34)) 35 (vF 35)) 41 g41265) 38 (vF 38)) 37 (vF 37)) 14 (vF 14)) 15 (vF 15)) 36 (vF 36)) 40 g40265) 39 g39265) 42 g42265) 47 g47265) 48 g48265 = fT (fT (fT (fT (fT (fT (fT vF 31 (upd (vF 31) ((nI gN)).toNatClampNeg (nI cR))) 40 g40265) 39 g39265) 41 g41265) 42 g42265) 47 g47265) 48 g48265 := Eq.trans (mv_18 rfl) (Eq.trans (id_18 rfl) (Eq.trans (mv_17 rfl) (Eq.trans (id_17 rfl) (Eq.trans (mv_16 rfl) (Eq.trans (id_16 rfl) (Eq.trans (mv_14 rfl) (Eq.trans (id_15 rfl) (Eq.trans (mv_13 rfl) (Eq.trans (id_14 rfl) (Eq.trans (mv_12 rfl) (Eq.trans (id_13 rfl) (Eq.trans (mv_11 rfl) (Eq.trans (id_12 rfl) (Eq.trans (mv_9 rfl) (Eq.trans (id_11 rfl) (Eq.trans (mv_8 rfl) (Eq.trans (id_10 rfl) (Eq.trans (mv_7 rfl) (Eq.trans (id_9 rfl) (Eq.trans (mv_6 rfl) (Eq.trans (id_8 rfl) (Eq.trans (mv_5 rfl) (Eq.trans (id_7 rfl) (Eq.trans (mv_4 rfl) (Eq.trans (mv_4 rfl) (Eq.trans (mv_5 rfl) (Eq.trans (mv_5 rfl) (Eq.trans (mv_5 rfl) (mv_5 rfl)))))))))))))))))))))))))))))
              have hP := wr_PF e9 hP
              have hD := wr_DF e9 hD
              clear e9
              exact W.vret hx hb hr (fun t9_ ht hW => ⟨⟨(a2265, f2265, sg265, wd265, s2265, p2265, (vF 29), (vF 30), (upd (vF 31) ((nI gN)).toNatClampNeg (nI cR)), (vF 32), (vF 33), (vF 34), (vF 35), (vF 14), (vF 15), (vF 36), (vF 37), (vF 38), g39265, g40265, g41265, g42265, (vF 45), g47265, g48265, d2265, w2265, nd, bd, bs, (vi 76), (vi 77), gG), rfl, by (try dsimp only); exact ⟨f265_0, by omega, f265_2, by rcases f265_3 with h9 | h9; (exact Or.inl h9); ((have h91 := h9.2.1); (have h92 := f265_0.1); (have h93 := f265_0.2.1); exact Or.inr ⟨RdS.push (gm := gm) hKB.1 hBel hKB.2.1 (Nat.le_refl _) (fun q hq => ⟨rfl, by rw [upd_at (by omega), if_neg (by omega)], rfl, rfl, rfl⟩) h39 (by decide) h48 (by omega) ⟨⟨by omega, fun _ => by omega, fun h8 => absurd h8 (by decide), by omega⟩, Or.inr (Or.inr (Or.inr (Or.inr (Or.inr (Or.inr (Or.inl ⟨rfl, rfl, by rw [upd_at (by omega), if_pos rfl], rfl, rfl, rfl, gN, hg41, by omega, by omega, hgV, hUs, Or.inr ⟨cR, u_at (by omega) rfl, hcR.mono (by omega)⟩⟩))))))⟩ h9.2.2.2 (by rw [← hwc]; exact h9.2.2.1) (show (1 : Int32) = nI 1 by decide) (by decide) (by omega) (by omega) (by omega) (by omega) (by omega) (by show 10 * (4000 - _) + dN + 1 + 1 ≤ mM - 1; omega), hKB.2.1.less (Nat.zero_le _)⟩), by omega, by omega, hbo⟩, by rw [ht]; exact hP, hD⟩, hS.F ht⟩) hS.2.2 dX12_readFactor_316
            · have ts_6_5 : ¬ (((vF 40) dN)).toInt = 5 := toI_neq s_6_5 rfl (by decide)
              refine lv_tableOut (tgt := 271) hx hb dX12_readFactor_6 (by have := lv_neT s_6_0 (show Int32.toInt 0 = 0 by decide); have := lv_neT s_6_1 (show Int32.toInt 1 = 1 by decide); have := lv_neT s_6_2 (show Int32.toInt 2 = 2 by decide); have := lv_neT s_6_3 (show Int32.toInt 3 = 3 by decide); have := lv_neT s_6_4 (show Int32.toInt 4 = 4 by decide); have := lv_neT s_6_5 (show Int32.toInt 5 = 5 by decide); omega) (by decide) ?_
              obtain ⟨hq1, hq2, hq3, hq4, hq5, hq6, hw24, ⟨cR, hres, hcR⟩, gN, hg41, hgl, hgm, hgV, hUs, hg31⟩ := hTq.fac6 s_6_0 s_6_1 s_6_2 s_6_3 s_6_4 s_6_5
              have hK0 := RdK.first (gl := gl) hRV (by omega)
              have hKB := hK0.b32 (n := gN) (v := nI cR) hgV hgl (by omega)
              obtain ⟨wS, yS, hKM, hLM⟩ := hKB.finS (p := 51 - 2 * (cw + xe)) hgV hgV hgl (by omega) (by omega) hSq hse44 hUs (hg31.imp id (fun ⟨d9, h8, h9⟩ => ⟨d9, h8, h9.mono (by omega)⟩)) (u_at (by omega) rfl) hcR (by omega) (by omega)
              obtain ⟨_, bU, hbU, hbb, hb9, _, xU, hxU, hx2⟩ := id hUs
              refine lv_aload_n hx hb dX12_readFactor_271 rfl (lv_at hl 0 rfl) ?_
              refine va_get (D := (dC, dI)) (ci := 12) (v := .ref (a 32)) (C := RX12) (T := TX12) (N := 163) (fs := fM (vS a vi vj)) hx hb hts iwsRX12_readFactor_in12 hown hK hP 0 rfl rfl 56 (by decide) (hts _ hm_r_X12_readFactor_5) (fun _ h9 => h9) rfl dX12_readFactor_272 ?_
              refine lv_aload_n hx hb dX12_readFactor_275 rfl (lv_at hl 0 rfl) ?_
              refine va_get (D := (dC, dI)) (ci := 12) (v := .ref (a 41)) (C := RX12) (T := TX12) (N := 163) (fs := fM (vS a vi vj)) hx hb hts iwsRX12_readFactor_in12 hown hK hP 0 rfl rfl 66 (by decide) (hts _ hm_r_X12_readFactor_2) (fun _ h9 => h9) rfl dX12_readFactor_276 ?_
              refine lv_iload_n hx hb dX12_readFactor_279 rfl (lv_at hl 1 rfl) ?_
              refine va_iald (cA := k 41) (n := 120) (f := (vF 41)) hx hb hK hP 42 41 (WR_get 41 (by decide)) (TR_get 41 (by decide)) (vp_in_nI (show dN < 120 by omega) (by omega)) dX12_readFactor_280 ?_
              refine lv_topi (fun y25 hy25 => ?_)
              obtain rfl : ((vF 41) dN) = y25 := (hy25.trans (by rw [nI_clamp (by omega)])).symm
              refine lv_topi (fun y26 hy26 => ?_)
              obtain rfl : (nI gN) = y26 := (hy26.trans (hg41)).symm
              refine lv_aload_n hx hb dX12_readFactor_281 rfl (lv_at hl 0 rfl) ?_
              refine va_get (D := (dC, dI)) (ci := 12) (v := .int (vi 76)) (C := RX12) (T := TX12) (N := 163) (fs := fM (vS a vi vj)) hx hb hts iwsRX12_readFactor_in12 hown hK hP 0 rfl rfl 76 (by decide) (hts _ hm_r_X12_readFactor_1) (fun _ h9 => h9) rfl dX12_readFactor_282 ?_
              refine lv_topi (fun y27 hy27 => ?_)
              obtain rfl : (nI cR) = y27 := (hy27.trans (hres)).symm
              refine va_iast (cA := k 32) (n := 4200) (f := (vF 32)) hx hb hK hP hD hS 33 32 (WR_get 32 (by decide)) (TR_get 32 (by decide)) (vp_in_nI (show gN < 4200 by omega) (by omega)) dX12_readFactor_285 (fun H locs hP hD hS => ?_)
              have hP : va_P (dC, dI) vwCl (WR a k h0 vi vj (fT vF 32 (upd (vF 32) ((nI gN)).toNatClampNeg (nI cR))) vG) H := fz_w (WR_F 32 (by decide) _ rfl) hP
              have hD : va_D A (WR a k h0 vi vj (fT vF 32 (upd (vF 32) ((nI gN)).toNatClampNeg (nI cR))) vG) := fz_wD (WR_F 32 (by decide) _ rfl) hD
              refine lv_aload_n hx hb dX12_readFactor_286 rfl (lv_at hl 0 rfl) ?_
              refine lv_aload_n hx hb dX12_readFactor_287 rfl (lv_at hl 0 rfl) ?_
              refine va_get (D := (dC, dI)) (ci := 12) (v := .ref (a 38)) (C := RX12) (T := TX12) (N := 163) (fs := fM (vS a vi vj)) hx hb hts iwsRX12_readFactor_in12 hown hK hP 0 rfl rfl 63 (by decide) (hts (.fieldLink RX12 137 "OptimaWorksModel" "bindAt" "[I") (by decide +kernel)) (fun _ h9 => h9) rfl dX12_readFactor_288 ?_
              refine lv_aload_n hx hb dX12_readFactor_291 rfl (lv_at hl 0 rfl) ?_
              refine va_get (D := (dC, dI)) (ci := 12) (v := .ref (a 30)) (C := RX12) (T := TX12) (N := 163) (fs := fM (vS a vi vj)) hx hb hts iwsRX12_readFactor_in12 hown hK hP 0 rfl rfl 54 (by decide) (hts (.fieldLink RX12 113 "OptimaWorksModel" "partA" "[I") (by decide +kernel)) (fun _ h9 => h9) rfl dX12_readFactor_292 ?_
              refine lv_aload_n hx hb dX12_readFactor_295 rfl (lv_at hl 0 rfl) ?_
              refine va_get (D := (dC, dI)) (ci := 12) (v := .ref (a 41)) (C := RX12) (T := TX12) (N := 163) (fs := fM (vS a vi vj)) hx hb hts iwsRX12_readFactor_in12 hown hK hP 0 rfl rfl 66 (by decide) (hts _ hm_r_X12_readFactor_2) (fun _ h9 => h9) rfl dX12_readFactor_296 ?_
              refine lv_iload_n hx hb dX12_readFactor_299 rfl (lv_at hl 1 rfl) ?_
              refine va_iald (cA := k 41) (n := 120) (f := (vF 41)) hx hb hK hP 42 41 (WR_get 41 (by decide)) (TR_get 41 (by decide)) (vp_in_nI (show dN < 120 by omega) (by omega)) dX12_readFactor_300 ?_
              refine lv_topi (fun y28 hy28 => ?_)
              obtain rfl : ((vF 41) dN) = y28 := (hy28.trans (by rw [nI_clamp (by omega)])).symm
              refine lv_topi (fun y29 hy29 => ?_)
              obtain rfl : (nI gN) = y29 := (hy29.trans (hg41)).symm
              refine va_iald (cA := k 30) (n := 4200) (f := (vF 30)) hx hb hK hP 31 30 (WR_get 30 (by decide)) (TR_get 30 (by decide)) (vp_in_nI (show gN < 4200 by omega) (by omega)) dX12_readFactor_301 ?_
              refine lv_topi (fun y30 hy30 => ?_)
              obtain rfl : ((vF 30) gN) = y30 := (hy30.trans (by rw [nI_clamp (by omega)])).symm
              refine lv_topi (fun y31 hy31 => ?_)
              obtain rfl : (nI bU) = y31 := (hy31.trans (hbU)).symm
              refine va_iald (cA := k 38) (n := 900) (f := (vF 38)) hx hb hK hP 39 38 (WR_get 38 (by decide)) (TR_get 38 (by decide)) (vp_in_nI (show bU < 900 by omega) (by omega)) dX12_readFactor_302 ?_
              refine lv_topi (fun y32 hy32 => ?_)
              obtain rfl : ((vF 38) bU) = y32 := (hy32.trans (by rw [nI_clamp (by omega)])).symm
              refine lv_topi (fun y33 hy33 => ?_)
              obtain rfl : (nI xU) = y33 := (hy33.trans (hxU)).symm
              refine va_put (D := (dC, dI)) (ci := 12) (v := .int (nI xU)) (ty := .int) (C := RX12) (T := TX12) (N := 163) (fs := fM (vS a vi vj)) hx hb hts iwsRX12_readFactor_in12 tyX12 tyX12_ok nmX12 hown hK hP hD hS 0 rfl rfl 30 (by decide) (hts (.fieldLink RX12 540 "OptimaWorksModel" "binders" "I") (by decide +kernel)) (fun _ h9 => h9) rfl (by decide +kernel) rfl rfl (Nat.le_of_ble_eq_true rfl) dX12_readFactor_303 (fun H locs hP hD hS => ?_)
              have hP : va_P (dC, dI) vwCl (WR a k h0 (fT vi 30 (nI xU)) vj (fT vF 32 (upd (vF 32) ((nI gN)).toNatClampNeg (nI cR))) vG) H := fz_w (WR_i 30 _ rfl) hP
              have hD : va_D A (WR a k h0 (fT vi 30 (nI xU)) vj (fT vF 32 (upd (vF 32) ((nI gN)).toNatClampNeg (nI cR))) vG) := fz_wD (WR_i 30 _ rfl) hD
              refine lv_aload_n hx hb dX12_readFactor_306 rfl (lv_at hl 0 rfl) ?_
              refine lv_aload_n hx hb dX12_readFactor_307 rfl (lv_at hl 0 rfl) ?_
              refine va_get (D := (dC, dI)) (ci := 12) (v := .ref (a 41)) (C := RX12) (T := TX12) (N := 163) (fs := fM (vS a (fT vi 30 (nI xU)) vj)) hx hb hts iwsRX12_readFactor_in12 hown hK hP 0 rfl rfl 66 (by decide) (hts _ hm_r_X12_readFactor_2) (fun _ h9 => h9) rfl dX12_readFactor_308 ?_
              refine lv_iload_n hx hb dX12_readFactor_311 rfl (lv_at hl 1 rfl) ?_
              refine va_iald (cA := k 41) (n := 120) (f := (vF 41)) hx hb hK hP 42 41 (WR_get 41 (by decide)) (TR_get 41 (by decide)) (vp_in_nI (show dN < 120 by omega) (by omega)) dX12_readFactor_312 ?_
              refine lv_topi (fun y34 hy34 => ?_)
              obtain rfl : ((vF 41) dN) = y34 := (hy34.trans (by rw [nI_clamp (by omega)])).symm
              refine lv_topi (fun y35 hy35 => ?_)
              obtain rfl : (nI gN) = y35 := (hy35.trans (hg41)).symm
              have hFc := allFree hD hS hA
              refine va_callv (va_runV (As := [.int (nI gN)]) (rest := []) ⟨hx, hb, hml, hown, hts⟩ (r_X12_end1w l dC dI a k h0 (fT vi 30 (nI xU)) vj (fT vF 32 (upd (vF 32) ((nI gN)).toNatClampNeg (nI cR))) vG (nI gN) dN wi xe (hdp) (by first | with_reducible assumption | decide | omega | rfl | assumption) hwi (by first | with_reducible assumption | decide | omega | rfl | assumption) (h48) (by first | with_reducible assumption | decide | omega | rfl | assumption) H.size) (cwV 1 hts gwsRX12_readFactor_2 rfl rfl rfl hd_yX12_end1_RX12 (by decide +kernel)) (fz_pre (va_recv hK hP (ci := 12) (q0 := 0) rfl rfl) hP hK hD) rfl rfl hl.1 rfl (lv_room (Nat.le_of_ble_eq_true rfl)) dX12_readFactor_313 (by decide +kernel)) hS (fun q _ h => hFc q h) hFc (fun u t9_ H locs ht hvm hw9 hB9 hz1 hk1 hS => ?_)
              have hP : va_P (dC, dI) vwCl (WR a k h0 (fT (fT (fT (fT (fT vi 30 (nI xU)) 74 (nI dN)) 75 (nI (wi - xe))) 76 (nI gN)) 77 ((vF 47) dN)) vj (fT vF 32 (upd (vF 32) ((nI gN)).toNatClampNeg (nI cR))) vG) H := fz_P ht hB9.1
              have hD := fz_sd hP (hB9.2.weaken (fun _ q _ h => hFc q.1 h)) rfl
              refine W.widen (k := 0) (n := 0) (by decide +kernel) (by decide +kernel) ?_
              have e9 : fT (fT (fT (fT (fT (fT (fT (fT (fT (fT (fT (fT (fT vi 21 (vi 21)) 22 (vi 22)) 17 (nI an)) 19 (nI fn)) 20 (vi 20)) 18 (vi 18)) 52 (nI nd)) 60 (nI bs)) 30 (nI xU)) 75 (nI (wi - xe))) 74 (nI dN)) 76 (nI gN)) 77 ((vF 47) dN) = fT (fT (fT (fT (fT vi 30 (nI xU)) 74 (nI dN)) 75 (nI (wi - xe))) 76 (nI gN)) 77 ((vF 47) dN) := Eq.trans (mv_12 rfl) (Eq.trans (id_12 rfl) (Eq.trans (mv_11 rfl) (Eq.trans (id_11 rfl) (Eq.trans (mv_10 rfl) (Eq.trans (congrArg (fT _ 17) (show nI an = vi 17 from (by first | with_reducible rfl | with_reducible assumption | (symm; with_reducible assumption) | rfl | assumption | (symm; assumption) | (subst_vars; rfl)))) (Eq.trans (id_10 rfl) (Eq.trans (mv_9 rfl) (Eq.trans (congrArg (fT _ 19) (show nI fn = vi 19 from (by first | with_reducible rfl | with_reducible assumption | (symm; with_reducible assumption) | rfl | assumption | (symm; assumption) | (subst_vars; rfl)))) (Eq.trans (id_9 rfl) (Eq.trans (mv_8 rfl) (Eq.trans (id_8 rfl) (Eq.trans (mv_7 rfl) (Eq.trans (id_7 rfl) (Eq.trans (mv_6 rfl) (Eq.trans (congrArg (fT _ 52) (show nI nd = vi 52 from (by first | with_reducible rfl | with_reducible assumption | (symm; with_reducible assumption) | rfl | assumption | (symm; assumption) | (subst_vars; rfl)))) (Eq.trans (id_6 rfl) (Eq.trans (mv_5 rfl) (Eq.trans (congrArg (fT _ 60) (show nI bs = vi 60 from (by first | with_reducible rfl | with_reducible assumption | (symm; with_reducible assumption) | rfl | assumption | (symm; assumption) | (subst_vars; rfl)))) (Eq.trans (id_5 rfl) (Eq.trans (mv_2 rfl) (Eq.trans (mv_3 rfl) (Eq.trans (mv_3 rfl) (mv_3 rfl)))))))))))))))))))))))
              have hP := wr_Pi e9 hP
              have hD := wr_Di e9 hD
              clear e9
              have e9 : fT (fT (fT (fT (fT (fT (fT (fT (fT (fT (fT (fT (fT (fT (fT (fT (fT (fT (fT vF 45 (vF 45)) 29 (vF 29)) 30 (vF 30)) 31 (vF 31)) 32 (upd (vF 32) ((nI gN)).toNatClampNeg (nI cR))) 33 (vF 33)) 34 (vF 34)) 35 (vF 35)) 41 (vF 41)) 38 (vF 38)) 37 (vF 37)) 14 (vF 14)) 15 (vF 15)) 36 (vF 36)) 40 (vF 40)) 39 (vF 39)) 42 (vF 42)) 47 (vF 47)) 48 (vF 48) = fT vF 32 (upd (vF 32) ((nI gN)).toNatClampNeg (nI cR)) := Eq.trans (mv_18 rfl) (Eq.trans (id_18 rfl) (Eq.trans (mv_17 rfl) (Eq.trans (id_17 rfl) (Eq.trans (mv_16 rfl) (Eq.trans (id_16 rfl) (Eq.trans (mv_15 rfl) (Eq.trans (id_15 rfl) (Eq.trans (mv_13 rfl) (Eq.trans (id_14 rfl) (Eq.trans (mv_12 rfl) (Eq.trans (id_13 rfl) (Eq.trans (mv_11 rfl) (Eq.trans (id_12 rfl) (Eq.trans (mv_10 rfl) (Eq.trans (id_11 rfl) (Eq.trans (mv_9 rfl) (Eq.trans (id_10 rfl) (Eq.trans (mv_8 rfl) (Eq.trans (id_9 rfl) (Eq.trans (mv_7 rfl) (Eq.trans (id_8 rfl) (Eq.trans (mv_6 rfl) (Eq.trans (id_7 rfl) (Eq.trans (mv_5 rfl) (Eq.trans (id_6 rfl) (Eq.trans (mv_4 rfl) (Eq.trans (id_5 rfl) (Eq.trans (mv_3 rfl) (Eq.trans (id_4 rfl) (Eq.trans (mv_2 rfl) (Eq.trans (id_3 rfl) (Eq.trans (mv_1 rfl) (Eq.trans (id_2 rfl) (id_1 rfl))))))))))))))))))))))))))))))))))
              have hP := wr_PF e9 hP
              have hD := wr_DF e9 hD
              clear e9
              exact W.vret hx hb hr (fun t9_ ht hW => ⟨⟨(an, fn, (vi 20), (vi 18), (vi 21), (vi 22), (vF 29), (vF 30), (vF 31), (upd (vF 32) ((nI gN)).toNatClampNeg (nI cR)), (vF 33), (vF 34), (vF 35), (vF 14), (vF 15), (vF 36), (vF 37), (vF 38), (vF 39), (vF 40), (vF 41), (vF 42), (vF 45), (vF 47), (vF 48), dN, (wi - xe), nd, xU, bs, (nI gN), ((vF 47) dN), (gG.add gN wS (51 - 2 * (cw + xe)) yS)), rfl, by (try dsimp only); exact ⟨hLx, Nat.le_refl _, hst0, Or.inr ⟨by (have e9 : wi - xe = cw := by omega); rw [e9]; exact RdS.pop (ex := xe) hKM.1 hBel hKM.2.1 (Nat.le_refl _) (fun q hq => ⟨rfl, rfl, rfl, rfl, rfl⟩) (by omega) (fun h8 => by omega) (by decide) (Or.inl ⟨by decide, hLM⟩) (by omega) (by show gG.vN + 1 + un ≤ nd; omega) (by omega) (by omega) hKM.2.2.2 (by omega), hKM.2.1.less (Nat.zero_le _)⟩, by omega, by omega, hbo⟩, by rw [ht]; exact hP, hD⟩, hS.F ht⟩) hS.2.2 dX12_readFactor_316
end
section
theorem Ext.trans {gm bs bs' : Nat} {G G' G'' : RG} {f29 f30 f31 f32 f36 f37 f38 g29 g30 g31 g32 g36 g37 g38 e29 e30 e31 e32 e36 e37 e38 : Nat → Int32} (h1 : Ext gm bs G f29 f30 f31 f32 f36 f37 f38 G' g29 g30 g31 g32 g36 g37 g38) (h2 : Ext gm bs' G' g29 g30 g31 g32 g36 g37 g38 G'' e29 e30 e31 e32 e36 e37 e38) (hb : bs ≤ bs') : Ext gm bs G f29 f30 f31 f32 f36 f37 f38 G'' e29 e30 e31 e32 e36 e37 e38 := by
  refine ⟨fun q hq => ?_, fun q hq => ?_, fun q hq h => h1.2.2.1 q hq (h2.2.2.1 q hq h), fun b hb' => ?_⟩
  · obtain ⟨a1, a2, a3, a4⟩ := h1.1 q hq
    obtain ⟨b1, b2, b3, b4⟩ := h2.1 q hq
    exact ⟨b1.trans a1, b2.trans a2, b3.trans a3, b4.trans a4⟩
  · obtain ⟨a1, a2, a3⟩ := h1.2.1 q hq
    obtain ⟨b1, b2, b3⟩ := h2.2.1 q a1
    exact ⟨b1, b2.trans a2, b3.trans a3⟩
  · obtain ⟨a1, a2, a3⟩ := h1.2.2.2 b hb'
    obtain ⟨b1, b2, b3⟩ := h2.2.2.2 b (by omega)
    exact ⟨b1.trans a1, b2.trans a2, b3.trans a3⟩
/-- an expression has been read -/
def RdF (T : Nat → Nat → Int32) (G : RG) (f29 f30 f31 f32 f36 f37 f38 : Nat → Int32) (G' : RG) (g29 g30 g31 g32 g36 g37 g38 : Nat → Int32) (res : Int32) (se bs bs' r0 wi nd bd fn : Nat) : Prop :=
  RdV T G' g29 g30 g31 g32 g36 g37 g38 se nd bs' ∧ Ext 0 bs G f29 f30 f31 f32 f36 f37 f38 G' g29 g30 g31 g32 g36 g37 g38 ∧ (wi = 0 ∧ nd ≤ fn ∧ G'.vN ≤ nd ∧ 5 * bs' ≤ fn ∧ bd ≤ 2 ∧ bs ≤ bs') ∧ ∃ c, res = nI c ∧ ((r0 ≤ 1 ∧ LinO G' g29 c 51) ∨ (2 ≤ r0 ∧ TruO G' g29 c 51))
theorem RdS.done {T : Nat → Nat → Int32} {G G' : RG} {f29 f30 f31 f32 f36 f37 f38 g29 g30 g31 g32 g36 g37 g38 f39 f40 f41 f42 f48 : Nat → Int32} {wd sg res : Int32} {se bs bs' r0 wi nd bd fn M : Nat} (h : RdS T G' g29 g30 g31 g32 g36 g37 g38 f39 f40 f41 f42 f48 wd sg res se bs' r0 0 wi nd bd fn M) (e : Ext 0 bs G f29 f30 f31 f32 f36 f37 f38 G' g29 g30 g31 g32 g36 g37 g38) (hb : bs ≤ bs') : RdF T G f29 f30 f31 f32 f36 f37 f38 G' g29 g30 g31 g32 g36 g37 g38 res se bs bs' r0 wi nd bd fn := by
  obtain ⟨h1, h2⟩ := h
  rcases h2 with ⟨_, a1, a2, a3, a4, a5, a6⟩ | ⟨d, _, _, _, _, _, _, _, _, _, _, _, _, h, _⟩
  · exact ⟨h1, e, ⟨a1, a2, a3, a4, a5, hb⟩, a6⟩
  · omega
theorem RdS.top {T : Nat → Nat → Int32} {G' : RG} {g29 g30 g31 g32 g36 g37 g38 f39 f40 f41 f42 f48 : Nat → Int32} {wd sg res : Int32} {se bs' r0 de wi nd bd fn M : Nat} (h : RdS T G' g29 g30 g31 g32 g36 g37 g38 f39 f40 f41 f42 f48 wd sg res se bs' r0 de wi nd bd fn M) (hd : 0 < de) : RdV T G' g29 g30 g31 g32 g36 g37 g38 se nd bs' ∧ ∃ ek cw u pe un gl gm ex p1 n1 m1 tw, RdT T G' g29 g30 g31 g32 g36 g37 g38 f39 f40 f41 f42 f48 wd sg res se bs' r0 (de - 1) wi nd bd fn M ek cw u pe un gl gm ex p1 n1 m1 tw := by
  obtain ⟨h1, h2⟩ := h
  rcases h2 with h2 | ⟨d, a1, a2, a3, a4, a5, a6, a7, a8, a9, a10, a11, a12, rfl, h3⟩
  · exact absurd h2.1 (by omega)
  · exact ⟨h1, a1, a2, a3, a4, a5, a6, a7, a8, a9, a10, a11, a12, h3⟩
theorem RTp.least {T : Nat → Nat → Int32} {G : RG} {f29 f30 f31 f32 f36 f37 f38 f40 f41 f42 : Nat → Int32} {wd sg res : Int32} {se bs i ek w u ex gl gm p1 n1 m1 tw : Nat} (h : RTp T G f29 f30 f31 f32 f36 f37 f38 f40 f41 f42 wd sg res se bs i ek w u ex gl gm p1 n1 m1 tw) : 1 ≤ tw ∧ m1 ≤ 1 := by
  rcases h with ⟨_, _, _, ⟨_, _, h1, _⟩, _, _, h2⟩ | ⟨h1, ck, ⟨_, h2⟩, _⟩
  · omega
  · refine ⟨by omega, ?_⟩
    rcases h2 with h | h | h | h | h | h | h | h | h | h | h | h
    all_goals (obtain ⟨_, _, _, _, h5, _⟩ := h; omega)
end

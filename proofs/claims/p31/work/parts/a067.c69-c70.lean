section
theorem dX12_readOne_0 : decode cX12_readOne 0 = .ok (.aload_n 0, 1) := dk_42 (by decide +kernel)
theorem dX12_readOne_1 : decode cX12_readOne 1 = .ok (.getfield 143, 3) := dk_180 (by decide +kernel)
theorem dX12_readOne_4 : decode cX12_readOne 4 = .ok (.iload_n 1, 1) := dk_27 (by decide +kernel)
theorem dX12_readOne_5 : decode cX12_readOne 5 = .ok (.iaload, 1) := dk_46 (by decide +kernel)
theorem dX12_readOne_6 : decode cX12_readOne 6 = .ok (.tableswitch 257 0 3 #[30, 101, 121, 141], 30) := by decide +kernel
theorem dX12_readOne_36 : decode cX12_readOne 36 = .ok (.aload_n 0, 1) := dk_42 (by decide +kernel)
theorem dX12_readOne_37 : decode cX12_readOne 37 = .ok (.bipush 10, 2) := dk_16 (by decide +kernel)
theorem dX12_readOne_39 : decode cX12_readOne 39 = .ok (.invokevirtual 530, 3) := dk_182 (by decide +kernel)
theorem dX12_readOne_42 : decode cX12_readOne 42 = .ok (.ifCond .eq 22, 3) := dk_153 (by decide +kernel)
theorem dX12_readOne_45 : decode cX12_readOne 45 = .ok (.aload_n 0, 1) := dk_42 (by decide +kernel)
theorem dX12_readOne_46 : decode cX12_readOne 46 = .ok (.getfield 143, 3) := dk_180 (by decide +kernel)
theorem dX12_readOne_49 : decode cX12_readOne 49 = .ok (.iload_n 1, 1) := dk_27 (by decide +kernel)
theorem dX12_readOne_50 : decode cX12_readOne 50 = .ok (.iconst 1, 1) := dk_4 (by decide +kernel)
theorem dX12_readOne_51 : decode cX12_readOne 51 = .ok (.iastore, 1) := dk_79 (by decide +kernel)
theorem dX12_readOne_52 : decode cX12_readOne 52 = .ok (.aload_n 0, 1) := dk_42 (by decide +kernel)
theorem dX12_readOne_53 : decode cX12_readOne 53 = .ok (.invokevirtual 524, 3) := dk_182 (by decide +kernel)
theorem dX12_readOne_56 : decode cX12_readOne 56 = .ok (.aload_n 0, 1) := dk_42 (by decide +kernel)
theorem dX12_readOne_57 : decode cX12_readOne 57 = .ok (.iconst 3, 1) := dk_6 (by decide +kernel)
theorem dX12_readOne_58 : decode cX12_readOne 58 = .ok (.invokevirtual 586, 3) := dk_182 (by decide +kernel)
theorem dX12_readOne_61 : decode cX12_readOne 61 = .ok (.goto 253, 3) := dk_167 (by decide +kernel)
theorem dX12_readOne_64 : decode cX12_readOne 64 = .ok (.aload_n 0, 1) := dk_42 (by decide +kernel)
theorem dX12_readOne_65 : decode cX12_readOne 65 = .ok (.bipush 123, 2) := dk_16 (by decide +kernel)
theorem dX12_readOne_67 : decode cX12_readOne 67 = .ok (.invokevirtual 521, 3) := dk_182 (by decide +kernel)
theorem dX12_readOne_70 : decode cX12_readOne 70 = .ok (.ifCond .eq 22, 3) := dk_153 (by decide +kernel)
theorem dX12_readOne_73 : decode cX12_readOne 73 = .ok (.aload_n 0, 1) := dk_42 (by decide +kernel)
theorem dX12_readOne_74 : decode cX12_readOne 74 = .ok (.getfield 143, 3) := dk_180 (by decide +kernel)
theorem dX12_readOne_77 : decode cX12_readOne 77 = .ok (.iload_n 1, 1) := dk_27 (by decide +kernel)
theorem dX12_readOne_78 : decode cX12_readOne 78 = .ok (.iconst 2, 1) := dk_5 (by decide +kernel)
theorem dX12_readOne_79 : decode cX12_readOne 79 = .ok (.iastore, 1) := dk_79 (by decide +kernel)
theorem dX12_readOne_80 : decode cX12_readOne 80 = .ok (.aload_n 0, 1) := dk_42 (by decide +kernel)
theorem dX12_readOne_81 : decode cX12_readOne 81 = .ok (.invokevirtual 524, 3) := dk_182 (by decide +kernel)
theorem dX12_readOne_84 : decode cX12_readOne 84 = .ok (.aload_n 0, 1) := dk_42 (by decide +kernel)
theorem dX12_readOne_85 : decode cX12_readOne 85 = .ok (.iconst 2, 1) := dk_5 (by decide +kernel)
theorem dX12_readOne_86 : decode cX12_readOne 86 = .ok (.invokevirtual 586, 3) := dk_182 (by decide +kernel)
theorem dX12_readOne_89 : decode cX12_readOne 89 = .ok (.goto 225, 3) := dk_167 (by decide +kernel)
theorem dX12_readOne_92 : decode cX12_readOne 92 = .ok (.aload_n 0, 1) := dk_42 (by decide +kernel)
theorem dX12_readOne_93 : decode cX12_readOne 93 = .ok (.getfield 143, 3) := dk_180 (by decide +kernel)
theorem dX12_readOne_96 : decode cX12_readOne 96 = .ok (.iload_n 1, 1) := dk_27 (by decide +kernel)
theorem dX12_readOne_97 : decode cX12_readOne 97 = .ok (.iconst 3, 1) := dk_6 (by decide +kernel)
theorem dX12_readOne_98 : decode cX12_readOne 98 = .ok (.iastore, 1) := dk_79 (by decide +kernel)
theorem dX12_readOne_99 : decode cX12_readOne 99 = .ok (.aload_n 0, 1) := dk_42 (by decide +kernel)
theorem dX12_readOne_100 : decode cX12_readOne 100 = .ok (.iconst 0, 1) := dk_3 (by decide +kernel)
theorem dX12_readOne_101 : decode cX12_readOne 101 = .ok (.invokevirtual 586, 3) := dk_182 (by decide +kernel)
theorem dX12_readOne_104 : decode cX12_readOne 104 = .ok (.goto 210, 3) := dk_167 (by decide +kernel)
theorem dX12_readOne_107 : decode cX12_readOne 107 = .ok (.aload_n 0, 1) := dk_42 (by decide +kernel)
theorem dX12_readOne_108 : decode cX12_readOne 108 = .ok (.aload_n 0, 1) := dk_42 (by decide +kernel)
theorem dX12_readOne_109 : decode cX12_readOne 109 = .ok (.bipush 12, 2) := dk_16 (by decide +kernel)
theorem dX12_readOne_111 : decode cX12_readOne 111 = .ok (.aload_n 0, 1) := dk_42 (by decide +kernel)
theorem dX12_readOne_112 : decode cX12_readOne 112 = .ok (.getfield 580, 3) := dk_180 (by decide +kernel)
theorem dX12_readOne_115 : decode cX12_readOne 115 = .ok (.iconst 0, 1) := dk_3 (by decide +kernel)
theorem dX12_readOne_116 : decode cX12_readOne 116 = .ok (.iconst 0, 1) := dk_3 (by decide +kernel)
theorem dX12_readOne_117 : decode cX12_readOne 117 = .ok (.iconst 0, 1) := dk_3 (by decide +kernel)
theorem dX12_readOne_118 : decode cX12_readOne 118 = .ok (.invokevirtual 601, 3) := dk_182 (by decide +kernel)
theorem dX12_readOne_121 : decode cX12_readOne 121 = .ok (.invokevirtual 605, 3) := dk_182 (by decide +kernel)
theorem dX12_readOne_124 : decode cX12_readOne 124 = .ok (.goto 190, 3) := dk_167 (by decide +kernel)
theorem dX12_readOne_127 : decode cX12_readOne 127 = .ok (.aload_n 0, 1) := dk_42 (by decide +kernel)
theorem dX12_readOne_128 : decode cX12_readOne 128 = .ok (.bipush 125, 2) := dk_16 (by decide +kernel)
theorem dX12_readOne_130 : decode cX12_readOne 130 = .ok (.invokevirtual 611, 3) := dk_182 (by decide +kernel)
theorem dX12_readOne_133 : decode cX12_readOne 133 = .ok (.ifCond .eq 181, 3) := dk_153 (by decide +kernel)
theorem dX12_readOne_136 : decode cX12_readOne 136 = .ok (.aload_n 0, 1) := dk_42 (by decide +kernel)
theorem dX12_readOne_137 : decode cX12_readOne 137 = .ok (.aload_n 0, 1) := dk_42 (by decide +kernel)
theorem dX12_readOne_138 : decode cX12_readOne 138 = .ok (.getfield 580, 3) := dk_180 (by decide +kernel)
theorem dX12_readOne_141 : decode cX12_readOne 141 = .ok (.invokevirtual 605, 3) := dk_182 (by decide +kernel)
theorem dX12_readOne_144 : decode cX12_readOne 144 = .ok (.goto 170, 3) := dk_167 (by decide +kernel)
theorem dX12_readOne_147 : decode cX12_readOne 147 = .ok (.aload_n 0, 1) := dk_42 (by decide +kernel)
theorem dX12_readOne_148 : decode cX12_readOne 148 = .ok (.getfield 146, 3) := dk_180 (by decide +kernel)
theorem dX12_readOne_151 : decode cX12_readOne 151 = .ok (.iload_n 1, 1) := dk_27 (by decide +kernel)
theorem dX12_readOne_152 : decode cX12_readOne 152 = .ok (.aload_n 0, 1) := dk_42 (by decide +kernel)
theorem dX12_readOne_153 : decode cX12_readOne 153 = .ok (.getfield 580, 3) := dk_180 (by decide +kernel)
theorem dX12_readOne_156 : decode cX12_readOne 156 = .ok (.iastore, 1) := dk_79 (by decide +kernel)
theorem dX12_readOne_157 : decode cX12_readOne 157 = .ok (.aload_n 0, 1) := dk_42 (by decide +kernel)
theorem dX12_readOne_158 : decode cX12_readOne 158 = .ok (.getfield 161, 3) := dk_180 (by decide +kernel)
theorem dX12_readOne_161 : decode cX12_readOne 161 = .ok (.iload_n 1, 1) := dk_27 (by decide +kernel)
theorem dX12_readOne_162 : decode cX12_readOne 162 = .ok (.aload_n 0, 1) := dk_42 (by decide +kernel)
theorem dX12_readOne_163 : decode cX12_readOne 163 = .ok (.getfield 583, 3) := dk_180 (by decide +kernel)
theorem dX12_readOne_166 : decode cX12_readOne 166 = .ok (.iastore, 1) := dk_79 (by decide +kernel)
theorem dX12_readOne_167 : decode cX12_readOne 167 = .ok (.aload_n 0, 1) := dk_42 (by decide +kernel)
theorem dX12_readOne_168 : decode cX12_readOne 168 = .ok (.getfield 494, 3) := dk_180 (by decide +kernel)
theorem dX12_readOne_171 : decode cX12_readOne 171 = .ok (.iconst 4, 1) := dk_7 (by decide +kernel)
theorem dX12_readOne_172 : decode cX12_readOne 172 = .ok (.if_icmp .ne 57, 3) := dk_160 (by decide +kernel)
theorem dX12_readOne_175 : decode cX12_readOne 175 = .ok (.aload_n 0, 1) := dk_42 (by decide +kernel)
theorem dX12_readOne_176 : decode cX12_readOne 176 = .ok (.getfield 491, 3) := dk_180 (by decide +kernel)
theorem dX12_readOne_179 : decode cX12_readOne 179 = .ok (.bipush 76, 2) := dk_16 (by decide +kernel)
theorem dX12_readOne_181 : decode cX12_readOne 181 = .ok (.if_icmp .eq 53, 3) := dk_159 (by decide +kernel)
theorem dX12_readOne_184 : decode cX12_readOne 184 = .ok (.aload_n 0, 1) := dk_42 (by decide +kernel)
theorem dX12_readOne_185 : decode cX12_readOne 185 = .ok (.getfield 491, 3) := dk_180 (by decide +kernel)
theorem dX12_readOne_188 : decode cX12_readOne 188 = .ok (.bipush 71, 2) := dk_16 (by decide +kernel)
theorem dX12_readOne_190 : decode cX12_readOne 190 = .ok (.if_icmp .eq 44, 3) := dk_159 (by decide +kernel)
theorem dX12_readOne_193 : decode cX12_readOne 193 = .ok (.aload_n 0, 1) := dk_42 (by decide +kernel)
theorem dX12_readOne_194 : decode cX12_readOne 194 = .ok (.getfield 491, 3) := dk_180 (by decide +kernel)
theorem dX12_readOne_197 : decode cX12_readOne 197 = .ok (.bipush 60, 2) := dk_16 (by decide +kernel)
theorem dX12_readOne_199 : decode cX12_readOne 199 = .ok (.if_icmp .eq 35, 3) := dk_159 (by decide +kernel)
theorem dX12_readOne_202 : decode cX12_readOne 202 = .ok (.aload_n 0, 1) := dk_42 (by decide +kernel)
theorem dX12_readOne_203 : decode cX12_readOne 203 = .ok (.getfield 491, 3) := dk_180 (by decide +kernel)
theorem dX12_readOne_206 : decode cX12_readOne 206 = .ok (.bipush 62, 2) := dk_16 (by decide +kernel)
theorem dX12_readOne_208 : decode cX12_readOne 208 = .ok (.if_icmp .eq 26, 3) := dk_159 (by decide +kernel)
theorem dX12_readOne_211 : decode cX12_readOne 211 = .ok (.aload_n 0, 1) := dk_42 (by decide +kernel)
theorem dX12_readOne_212 : decode cX12_readOne 212 = .ok (.getfield 491, 3) := dk_180 (by decide +kernel)
theorem dX12_readOne_215 : decode cX12_readOne 215 = .ok (.bipush 61, 2) := dk_16 (by decide +kernel)
theorem dX12_readOne_217 : decode cX12_readOne 217 = .ok (.if_icmp .eq 17, 3) := dk_159 (by decide +kernel)
theorem dX12_readOne_220 : decode cX12_readOne 220 = .ok (.aload_n 0, 1) := dk_42 (by decide +kernel)
theorem dX12_readOne_221 : decode cX12_readOne 221 = .ok (.getfield 491, 3) := dk_180 (by decide +kernel)
theorem dX12_readOne_224 : decode cX12_readOne 224 = .ok (.bipush 78, 2) := dk_16 (by decide +kernel)
theorem dX12_readOne_226 : decode cX12_readOne 226 = .ok (.if_icmp .eq 8, 3) := dk_159 (by decide +kernel)
theorem dX12_readOne_229 : decode cX12_readOne 229 = .ok (.aload_n 0, 1) := dk_42 (by decide +kernel)
theorem dX12_readOne_230 : decode cX12_readOne 230 = .ok (.invokevirtual 527, 3) := dk_182 (by decide +kernel)
theorem dX12_readOne_233 : decode cX12_readOne 233 = .ok (.return_, 1) := dk_177 (by decide +kernel)
theorem dX12_readOne_234 : decode cX12_readOne 234 = .ok (.aload_n 0, 1) := dk_42 (by decide +kernel)
theorem dX12_readOne_235 : decode cX12_readOne 235 = .ok (.getfield 152, 3) := dk_180 (by decide +kernel)
theorem dX12_readOne_238 : decode cX12_readOne 238 = .ok (.iload_n 1, 1) := dk_27 (by decide +kernel)
theorem dX12_readOne_239 : decode cX12_readOne 239 = .ok (.aload_n 0, 1) := dk_42 (by decide +kernel)
theorem dX12_readOne_240 : decode cX12_readOne 240 = .ok (.getfield 491, 3) := dk_180 (by decide +kernel)
theorem dX12_readOne_243 : decode cX12_readOne 243 = .ok (.iastore, 1) := dk_79 (by decide +kernel)
theorem dX12_readOne_244 : decode cX12_readOne 244 = .ok (.aload_n 0, 1) := dk_42 (by decide +kernel)
theorem dX12_readOne_245 : decode cX12_readOne 245 = .ok (.invokevirtual 524, 3) := dk_182 (by decide +kernel)
theorem dX12_readOne_248 : decode cX12_readOne 248 = .ok (.aload_n 0, 1) := dk_42 (by decide +kernel)
theorem dX12_readOne_249 : decode cX12_readOne 249 = .ok (.getfield 143, 3) := dk_180 (by decide +kernel)
theorem dX12_readOne_252 : decode cX12_readOne 252 = .ok (.iload_n 1, 1) := dk_27 (by decide +kernel)
theorem dX12_readOne_253 : decode cX12_readOne 253 = .ok (.iconst 4, 1) := dk_7 (by decide +kernel)
theorem dX12_readOne_254 : decode cX12_readOne 254 = .ok (.iastore, 1) := dk_79 (by decide +kernel)
theorem dX12_readOne_255 : decode cX12_readOne 255 = .ok (.aload_n 0, 1) := dk_42 (by decide +kernel)
theorem dX12_readOne_256 : decode cX12_readOne 256 = .ok (.iconst 0, 1) := dk_3 (by decide +kernel)
theorem dX12_readOne_257 : decode cX12_readOne 257 = .ok (.invokevirtual 586, 3) := dk_182 (by decide +kernel)
theorem dX12_readOne_260 : decode cX12_readOne 260 = .ok (.goto 54, 3) := dk_167 (by decide +kernel)
theorem dX12_readOne_263 : decode cX12_readOne 263 = .ok (.aload_n 0, 1) := dk_42 (by decide +kernel)
theorem dX12_readOne_264 : decode cX12_readOne 264 = .ok (.bipush 13, 2) := dk_16 (by decide +kernel)
theorem dX12_readOne_266 : decode cX12_readOne 266 = .ok (.aload_n 0, 1) := dk_42 (by decide +kernel)
theorem dX12_readOne_267 : decode cX12_readOne 267 = .ok (.getfield 146, 3) := dk_180 (by decide +kernel)
theorem dX12_readOne_270 : decode cX12_readOne 270 = .ok (.iload_n 1, 1) := dk_27 (by decide +kernel)
theorem dX12_readOne_271 : decode cX12_readOne 271 = .ok (.iaload, 1) := dk_46 (by decide +kernel)
theorem dX12_readOne_272 : decode cX12_readOne 272 = .ok (.aload_n 0, 1) := dk_42 (by decide +kernel)
theorem dX12_readOne_273 : decode cX12_readOne 273 = .ok (.getfield 580, 3) := dk_180 (by decide +kernel)
theorem dX12_readOne_276 : decode cX12_readOne 276 = .ok (.aload_n 0, 1) := dk_42 (by decide +kernel)
theorem dX12_readOne_277 : decode cX12_readOne 277 = .ok (.getfield 152, 3) := dk_180 (by decide +kernel)
theorem dX12_readOne_280 : decode cX12_readOne 280 = .ok (.iload_n 1, 1) := dk_27 (by decide +kernel)
theorem dX12_readOne_281 : decode cX12_readOne 281 = .ok (.iaload, 1) := dk_46 (by decide +kernel)
theorem dX12_readOne_282 : decode cX12_readOne 282 = .ok (.iconst 0, 1) := dk_3 (by decide +kernel)
theorem dX12_readOne_283 : decode cX12_readOne 283 = .ok (.invokevirtual 601, 3) := dk_182 (by decide +kernel)
theorem dX12_readOne_286 : decode cX12_readOne 286 = .ok (.istore_n 2, 1) := dk_61 (by decide +kernel)
theorem dX12_readOne_287 : decode cX12_readOne 287 = .ok (.aload_n 0, 1) := dk_42 (by decide +kernel)
theorem dX12_readOne_288 : decode cX12_readOne 288 = .ok (.getfield 125, 3) := dk_180 (by decide +kernel)
theorem dX12_readOne_291 : decode cX12_readOne 291 = .ok (.iload_n 2, 1) := dk_28 (by decide +kernel)
theorem dX12_readOne_292 : decode cX12_readOne 292 = .ok (.aload_n 0, 1) := dk_42 (by decide +kernel)
theorem dX12_readOne_293 : decode cX12_readOne 293 = .ok (.getfield 161, 3) := dk_180 (by decide +kernel)
theorem dX12_readOne_296 : decode cX12_readOne 296 = .ok (.iload_n 1, 1) := dk_27 (by decide +kernel)
theorem dX12_readOne_297 : decode cX12_readOne 297 = .ok (.iaload, 1) := dk_46 (by decide +kernel)
theorem dX12_readOne_298 : decode cX12_readOne 298 = .ok (.iastore, 1) := dk_79 (by decide +kernel)
theorem dX12_readOne_299 : decode cX12_readOne 299 = .ok (.aload_n 0, 1) := dk_42 (by decide +kernel)
theorem dX12_readOne_300 : decode cX12_readOne 300 = .ok (.getfield 128, 3) := dk_180 (by decide +kernel)
theorem dX12_readOne_303 : decode cX12_readOne 303 = .ok (.iload_n 2, 1) := dk_28 (by decide +kernel)
theorem dX12_readOne_304 : decode cX12_readOne 304 = .ok (.aload_n 0, 1) := dk_42 (by decide +kernel)
theorem dX12_readOne_305 : decode cX12_readOne 305 = .ok (.getfield 583, 3) := dk_180 (by decide +kernel)
theorem dX12_readOne_308 : decode cX12_readOne 308 = .ok (.iastore, 1) := dk_79 (by decide +kernel)
theorem dX12_readOne_309 : decode cX12_readOne 309 = .ok (.aload_n 0, 1) := dk_42 (by decide +kernel)
theorem dX12_readOne_310 : decode cX12_readOne 310 = .ok (.iload_n 2, 1) := dk_28 (by decide +kernel)
theorem dX12_readOne_311 : decode cX12_readOne 311 = .ok (.invokevirtual 605, 3) := dk_182 (by decide +kernel)
theorem dX12_readOne_314 : decode cX12_readOne 314 = .ok (.return_, 1) := dk_177 (by decide +kernel)
def wsRX12_readOne : List Cond := .code yX12_readOne cX12_readOne 3 none :: ([.fieldLink RX12 143 "OptimaWorksModel" "step" "[I", .fieldLink RX12 580 "OptimaWorksModel" "result" "I", .fieldLink RX12 146 "OptimaWorksModel" "got1" "[I", .fieldLink RX12 161 "OptimaWorksModel" "at2" "[I", .fieldLink RX12 583 "OptimaWorksModel" "resultFirst" "I", .fieldLink RX12 494 "OptimaWorksModel" "word" "I", .fieldLink RX12 491 "OptimaWorksModel" "sign0" "I", .fieldLink RX12 152 "OptimaWorksModel" "sign1" "[I", .fieldLink RX12 125 "OptimaWorksModel" "firstA" "[I", .fieldLink RX12 128 "OptimaWorksModel" "firstB" "[I"] ++ wsX120 ++ (wsV RX12 530 RX12 yX12_isKey wsRX12_isKey) ++ (wsV RX12 524 RX12 yX12_next wsRX12_next) ++ (wsV RX12 586 RX12 yX12_begin1 wsRX12_begin1) ++ (wsV RX12 521 RX12 yX12_isSign wsRX12_isSign) ++ (wsV RX12 601 RX12 yX12_node wsRX12_node) ++ (wsV RX12 605 RX12 yX12_end1 wsRend1w) ++ (wsV RX12 611 RX12 yX12_needSign wsRX12_needSign) ++ (wsV RX12 527 RX12 yX12_wrong wsRX12_wrong))
theorem iwsRX12_readOne_in12 : ∀ w ∈ wsX120, w ∈ wsRX12_readOne := fun _ h => List.mem_cons_of_mem _ (List.mem_append_left _ (List.mem_append_left _ (List.mem_append_left _ (List.mem_append_left _ (List.mem_append_left _ (List.mem_append_left _ (List.mem_append_left _ (List.mem_append_left _ (List.mem_append_right _ h)))))))))
theorem gwsRX12_readOne_0 : GoodIn wsRX12_readOne (wsV RX12 530 RX12 yX12_isKey wsRX12_isKey) := goodIn_sub (fun _ h => List.mem_cons_of_mem _ (List.mem_append_left _ (List.mem_append_left _ (List.mem_append_left _ (List.mem_append_left _ (List.mem_append_left _ (List.mem_append_left _ (List.mem_append_left _ (List.mem_append_right _ h))))))))) (gdV (by decide +kernel) gdwsRX12_isKey)
theorem gwsRX12_readOne_1 : GoodIn wsRX12_readOne (wsV RX12 524 RX12 yX12_next wsRX12_next) := goodIn_sub (fun _ h => List.mem_cons_of_mem _ (List.mem_append_left _ (List.mem_append_left _ (List.mem_append_left _ (List.mem_append_left _ (List.mem_append_left _ (List.mem_append_left _ (List.mem_append_right _ h)))))))) (gdV (by decide +kernel) gdwsRX12_next)
theorem gwsRX12_readOne_2 : GoodIn wsRX12_readOne (wsV RX12 586 RX12 yX12_begin1 wsRX12_begin1) := goodIn_sub (fun _ h => List.mem_cons_of_mem _ (List.mem_append_left _ (List.mem_append_left _ (List.mem_append_left _ (List.mem_append_left _ (List.mem_append_left _ (List.mem_append_right _ h))))))) (gdV (by decide +kernel) gdwsRX12_begin1)
theorem gwsRX12_readOne_3 : GoodIn wsRX12_readOne (wsV RX12 521 RX12 yX12_isSign wsRX12_isSign) := goodIn_sub (fun _ h => List.mem_cons_of_mem _ (List.mem_append_left _ (List.mem_append_left _ (List.mem_append_left _ (List.mem_append_left _ (List.mem_append_right _ h)))))) (gdV (by decide +kernel) gdwsRX12_isSign)
theorem gwsRX12_readOne_4 : GoodIn wsRX12_readOne (wsV RX12 601 RX12 yX12_node wsRX12_node) := goodIn_sub (fun _ h => List.mem_cons_of_mem _ (List.mem_append_left _ (List.mem_append_left _ (List.mem_append_left _ (List.mem_append_right _ h))))) (gdV (by decide +kernel) gdwsRX12_node)
theorem gwsRX12_readOne_5 : GoodIn wsRX12_readOne (wsV RX12 605 RX12 yX12_end1 wsRend1w) := goodIn_sub (fun _ h => List.mem_cons_of_mem _ (List.mem_append_left _ (List.mem_append_left _ (List.mem_append_right _ h)))) (gdV (by decide +kernel) gdwsRend1w)
theorem gwsRX12_readOne_6 : GoodIn wsRX12_readOne (wsV RX12 611 RX12 yX12_needSign wsRX12_needSign) := goodIn_sub (fun _ h => List.mem_cons_of_mem _ (List.mem_append_left _ (List.mem_append_right _ h))) (gdV (by decide +kernel) gdwsRX12_needSign)
theorem gwsRX12_readOne_7 : GoodIn wsRX12_readOne (wsV RX12 527 RX12 yX12_wrong wsRX12_wrong) := goodIn_sub (fun _ h => List.mem_cons_of_mem _ (List.mem_append_right _ h)) (gdV (by decide +kernel) gdwsRX12_wrong)
theorem gdwsRX12_readOne : wsRX12_readOne.all goodWord = true := gdC rfl (gdA (gdA (gdA (gdA (gdA (gdA (gdA (gdA (gdA (by decide +kernel : ([.fieldLink RX12 143 "OptimaWorksModel" "step" "[I", .fieldLink RX12 580 "OptimaWorksModel" "result" "I", .fieldLink RX12 146 "OptimaWorksModel" "got1" "[I", .fieldLink RX12 161 "OptimaWorksModel" "at2" "[I", .fieldLink RX12 583 "OptimaWorksModel" "resultFirst" "I", .fieldLink RX12 494 "OptimaWorksModel" "word" "I", .fieldLink RX12 491 "OptimaWorksModel" "sign0" "I", .fieldLink RX12 152 "OptimaWorksModel" "sign1" "[I", .fieldLink RX12 125 "OptimaWorksModel" "firstA" "[I", .fieldLink RX12 128 "OptimaWorksModel" "firstB" "[I"] : List Cond).all goodWord = true) gdwsX120) (gdV (by decide +kernel) gdwsRX12_isKey)) (gdV (by decide +kernel) gdwsRX12_next)) (gdV (by decide +kernel) gdwsRX12_begin1)) (gdV (by decide +kernel) gdwsRX12_isSign)) (gdV (by decide +kernel) gdwsRX12_node)) (gdV (by decide +kernel) gdwsRend1w)) (gdV (by decide +kernel) gdwsRX12_needSign)) (gdV (by decide +kernel) gdwsRX12_wrong))
theorem hm_r_X12_readOne_0 : (.fieldLink RX12 143 "OptimaWorksModel" "step" "[I" : Cond) ∈ wsRX12_readOne := by decide +kernel
theorem hm_r_X12_readOne_1 : (.fieldLink RX12 580 "OptimaWorksModel" "result" "I" : Cond) ∈ wsRX12_readOne := by decide +kernel
theorem hm_r_X12_readOne_2 : (.fieldLink RX12 146 "OptimaWorksModel" "got1" "[I" : Cond) ∈ wsRX12_readOne := by decide +kernel
theorem hm_r_X12_readOne_3 : (.fieldLink RX12 161 "OptimaWorksModel" "at2" "[I" : Cond) ∈ wsRX12_readOne := by decide +kernel
theorem hm_r_X12_readOne_4 : (.fieldLink RX12 583 "OptimaWorksModel" "resultFirst" "I" : Cond) ∈ wsRX12_readOne := by decide +kernel
theorem hm_r_X12_readOne_5 : (.fieldLink RX12 491 "OptimaWorksModel" "sign0" "I" : Cond) ∈ wsRX12_readOne := by decide +kernel
theorem hm_r_X12_readOne_6 : (.fieldLink RX12 152 "OptimaWorksModel" "sign1" "[I" : Cond) ∈ wsRX12_readOne := by decide +kernel
set_option maxHeartbeats 4000000 in
set_option maxRecDepth 100000 in
/-- readOne(d) -/
theorem r_X12_readOne (l : Launch) (dC : Nat → ClassId) (dI : Nat → Nat → Nat) (a : Nat → Nat) (k : Nat → ClassId) (h0 : Nat) (vi : Nat → Int32) (vj : Nat → Int64) (vF : Nat → Nat → Int32) (vG : Nat → Nat → Int64) (tp : Nat) (an : Nat) (fn : Nat) (nm : Nat) (se : Nat) (pa : Nat) (va : Nat) (bd : Nat) (tT : Nat → Nat → Int32) (gG : RG) (bs : Nat) (r0 : Nat) (dN : Nat) (wi : Nat) (nd : Nat) (mM : Nat) (cw : Nat) (uu : Nat) (pe : Nat) (un : Nat) (gl : Nat) (gm : Nat) (xe : Nat) (p1 : Nat) (n1 : Nat) (m1 : Nat) (tw : Nat) (hTp : vi 16 = nI tp) (htp : tp ≤ 4000) (ha0 : vi 17 = nI an) (hfr : vi 19 = nI fn) (hLx : LxO tp fn an (vi 18) (vi 20)) (hst0 : 0 ≤ (vi 21).toInt) (hnm : vi 25 = nI nm) (hnm40 : nm ≤ 40) (hno : NmO (vF 11) (vF 12) nm) (hNk : NkO (vF 10) (vF 13) nm se pa va) (hbd : vi 30 = nI bd) (hbd60 : bd ≤ 60) (hbo : NmO (vF 14) (vF 15) 60) (hse44 : se ≤ 44) (hRV : RdV tT gG (vF 29) (vF 30) (vF 31) (vF 32) (vF 36) (vF 37) (vF 38) se nd bs) (hRT : RdT tT gG (vF 29) (vF 30) (vF 31) (vF 32) (vF 36) (vF 37) (vF 38) (vF 39) (vF 40) (vF 41) (vF 42) (vF 48) (vi 18) (vi 20) (vi 76) se bs r0 dN wi nd bd fn mM 3 cw uu pe un gl gm xe p1 n1 m1 tw) (hdp : vi 74 = nI (dN + 1)) (hwi : vi 75 = nI wi) (hnd : vi 52 = nI nd) (sz : Nat) : Met l yX12_readOne wsRX12_readOne ({ frames := 9, cells := 0, slots := 0, locals := 194 }) (va_Pc [.ref h0, .int (nI dN)] (fun U => U.heap.size = sz ∧ va_P (dC, dI) vwCl (WR a k h0 vi vj vF vG) U.heap ∧ va_K (dC, dI) vwCl (tX12 k) U ∧ va_D (fun _ => True) (WR a k h0 vi vj vF vG) ∧ StrA (va_A (WR a k h0 vi vj vF vG) sz) U U.heap)) (va_Qv (fun (u : (Nat) × (Nat) × (Int32) × (Int32) × (Int32) × (Int32) × (Nat → Int32) × (Nat → Int32) × (Nat → Int32) × (Nat → Int32) × (Nat → Int32) × (Nat → Int32) × (Nat → Int32) × (Nat → Int32) × (Nat → Int32) × (Nat → Int32) × (Nat → Int32) × (Nat → Int32) × (Nat → Int32) × (Nat → Int32) × (Nat → Int32) × (Nat) × (Nat) × (Nat) × (Int32) × (Int32) × (RG)) => (LxO tp (u.2.1) (u.1) (u.2.2.2.1) (u.2.2.1)) ∧ (fn ≤ (u.2.1)) ∧ (0 ≤ ((u.2.2.2.2.1)).toInt) ∧ (0 < ((u.2.2.2.2.1)).toInt ∨ (RdS tT (u.2.2.2.2.2.2.2.2.2.2.2.2.2.2.2.2.2.2.2.2.2.2.2.2.2.2) (u.2.2.2.2.2.2.1) (u.2.2.2.2.2.2.2.1) (u.2.2.2.2.2.2.2.2.1) (u.2.2.2.2.2.2.2.2.2.1) (vF 36) (vF 37) (vF 38) (u.2.2.2.2.2.2.2.2.2.2.2.2.2.1) (u.2.2.2.2.2.2.2.2.2.2.2.2.2.2.1) (u.2.2.2.2.2.2.2.2.2.2.2.2.2.2.2.1) (u.2.2.2.2.2.2.2.2.2.2.2.2.2.2.2.2.1) (u.2.2.2.2.2.2.2.2.2.2.2.2.2.2.2.2.2.2.2.2.1) (u.2.2.2.1) (u.2.2.1) (u.2.2.2.2.2.2.2.2.2.2.2.2.2.2.2.2.2.2.2.2.2.2.2.2.1) se bs r0 (u.2.2.2.2.2.2.2.2.2.2.2.2.2.2.2.2.2.2.2.2.2.1) (u.2.2.2.2.2.2.2.2.2.2.2.2.2.2.2.2.2.2.2.2.2.2.1) (u.2.2.2.2.2.2.2.2.2.2.2.2.2.2.2.2.2.2.2.2.2.2.2.1) bd (u.2.1) (mM - 1) ∧ Ext 0 bs gG (vF 29) (vF 30) (vF 31) (vF 32) (vF 36) (vF 37) (vF 38) (u.2.2.2.2.2.2.2.2.2.2.2.2.2.2.2.2.2.2.2.2.2.2.2.2.2.2) (u.2.2.2.2.2.2.1) (u.2.2.2.2.2.2.2.1) (u.2.2.2.2.2.2.2.2.1) (u.2.2.2.2.2.2.2.2.2.1) (vF 36) (vF 37) (vF 38))) ∧ ((u.2.2.2.2.2.2.2.2.2.2.2.2.2.2.2.2.2.2.2.2.2.1) ≤ dN + 2)) (fun (u : (Nat) × (Nat) × (Int32) × (Int32) × (Int32) × (Int32) × (Nat → Int32) × (Nat → Int32) × (Nat → Int32) × (Nat → Int32) × (Nat → Int32) × (Nat → Int32) × (Nat → Int32) × (Nat → Int32) × (Nat → Int32) × (Nat → Int32) × (Nat → Int32) × (Nat → Int32) × (Nat → Int32) × (Nat → Int32) × (Nat → Int32) × (Nat) × (Nat) × (Nat) × (Int32) × (Int32) × (RG)) t => va_P (dC, dI) vwCl (WR a k h0 (fT (fT (fT (fT (fT (fT (fT (fT (fT (fT (fT vi 17 (nI (u.1))) 19 (nI (u.2.1))) 20 (u.2.2.1)) 18 (u.2.2.2.1)) 21 (u.2.2.2.2.1)) 22 (u.2.2.2.2.2.1)) 74 (nI (u.2.2.2.2.2.2.2.2.2.2.2.2.2.2.2.2.2.2.2.2.2.1))) 75 (nI (u.2.2.2.2.2.2.2.2.2.2.2.2.2.2.2.2.2.2.2.2.2.2.1))) 76 (u.2.2.2.2.2.2.2.2.2.2.2.2.2.2.2.2.2.2.2.2.2.2.2.2.1)) 77 (u.2.2.2.2.2.2.2.2.2.2.2.2.2.2.2.2.2.2.2.2.2.2.2.2.2.1)) 52 (nI (u.2.2.2.2.2.2.2.2.2.2.2.2.2.2.2.2.2.2.2.2.2.2.2.1))) vj (fT (fT (fT (fT (fT (fT (fT (fT (fT (fT (fT (fT (fT (fT (fT vF 41 (u.2.2.2.2.2.2.2.2.2.2.2.2.2.2.2.1)) 46 (u.2.2.2.2.2.2.2.2.2.2.2.2.2.2.2.2.2.2.1)) 43 (u.2.2.2.2.2.2.2.2.2.2.2.2.2.2.2.2.2.1)) 40 (u.2.2.2.2.2.2.2.2.2.2.2.2.2.2.1)) 39 (u.2.2.2.2.2.2.2.2.2.2.2.2.2.1)) 42 (u.2.2.2.2.2.2.2.2.2.2.2.2.2.2.2.2.1)) 47 (u.2.2.2.2.2.2.2.2.2.2.2.2.2.2.2.2.2.2.2.1)) 48 (u.2.2.2.2.2.2.2.2.2.2.2.2.2.2.2.2.2.2.2.2.1)) 29 (u.2.2.2.2.2.2.1)) 30 (u.2.2.2.2.2.2.2.1)) 31 (u.2.2.2.2.2.2.2.2.1)) 32 (u.2.2.2.2.2.2.2.2.2.1)) 33 (u.2.2.2.2.2.2.2.2.2.2.1)) 34 (u.2.2.2.2.2.2.2.2.2.2.2.1)) 35 (u.2.2.2.2.2.2.2.2.2.2.2.2.1)) vG) t.heap ∧ va_D (va_A (WR a k h0 vi vj vF vG) sz) (WR a k h0 (fT (fT (fT (fT (fT (fT (fT (fT (fT (fT (fT vi 17 (nI (u.1))) 19 (nI (u.2.1))) 20 (u.2.2.1)) 18 (u.2.2.2.1)) 21 (u.2.2.2.2.1)) 22 (u.2.2.2.2.2.1)) 74 (nI (u.2.2.2.2.2.2.2.2.2.2.2.2.2.2.2.2.2.2.2.2.2.1))) 75 (nI (u.2.2.2.2.2.2.2.2.2.2.2.2.2.2.2.2.2.2.2.2.2.2.1))) 76 (u.2.2.2.2.2.2.2.2.2.2.2.2.2.2.2.2.2.2.2.2.2.2.2.2.1)) 77 (u.2.2.2.2.2.2.2.2.2.2.2.2.2.2.2.2.2.2.2.2.2.2.2.2.2.1)) 52 (nI (u.2.2.2.2.2.2.2.2.2.2.2.2.2.2.2.2.2.2.2.2.2.2.2.1))) vj (fT (fT (fT (fT (fT (fT (fT (fT (fT (fT (fT (fT (fT (fT (fT vF 41 (u.2.2.2.2.2.2.2.2.2.2.2.2.2.2.2.1)) 46 (u.2.2.2.2.2.2.2.2.2.2.2.2.2.2.2.2.2.2.1)) 43 (u.2.2.2.2.2.2.2.2.2.2.2.2.2.2.2.2.2.1)) 40 (u.2.2.2.2.2.2.2.2.2.2.2.2.2.2.1)) 39 (u.2.2.2.2.2.2.2.2.2.2.2.2.2.1)) 42 (u.2.2.2.2.2.2.2.2.2.2.2.2.2.2.2.2.1)) 47 (u.2.2.2.2.2.2.2.2.2.2.2.2.2.2.2.2.2.2.2.1)) 48 (u.2.2.2.2.2.2.2.2.2.2.2.2.2.2.2.2.2.2.2.2.1)) 29 (u.2.2.2.2.2.2.1)) 30 (u.2.2.2.2.2.2.2.1)) 31 (u.2.2.2.2.2.2.2.2.1)) 32 (u.2.2.2.2.2.2.2.2.2.1)) 33 (u.2.2.2.2.2.2.2.2.2.2.1)) 34 (u.2.2.2.2.2.2.2.2.2.2.2.1)) 35 (u.2.2.2.2.2.2.2.2.2.2.2.2.1)) vG)) (va_A (WR a k h0 vi vj vF vG) sz)) 0 0 (va_A (WR a k h0 vi vj vF vG) sz) := by
  refine Met.ofW (cc := cX12_readOne) (maxL := 3) (ret := none) (by decide) rfl ?_
  intro p e s m args below meth c s₁ B hml hv
  obtain ⟨rfl, hsz, hP, hK, hD0, hE⟩ := hv
  have hx := B.exec
  have hb := B.bytes
  have hr := B.returns
  have hts := atoms_spec (ws := wsRX12_readOne) B.pre
  have hown : s.vm.findClass RX12 = some m.cls := findClass_of_methodNamed B.named
  have hlocks := B.notSynchronized
  subst hsz
  have hD := hD0.self (sz := s.heap.size)
  generalize hAe : va_A (WR a k h0 vi vj vF vG) s.heap.size = A at hD hE ⊢
  have hA : ∀ q : Nat, s.heap.size ≤ q → A q := fun q h => by rw [← hAe]; exact Or.inr h
  have hS : va_S A s.heap s.heap [] := va_S.rf
  have hl := lv_entry ([.ref h0, .int (nI dN)]) (n := 3) (Nat.le_of_ble_eq_true rfl)
  rw [lg_entry_eq]
  generalize (lg_sl ([.ref h0, .int (nI dN)]) ++ List.replicate (3 - (lg_sl ([.ref h0, .int (nI dN)])).length) Slot.unset).toArray = ls at hl ⊢
  have hl : lv_has ls 3 [(0, .ref h0), (1, .int (nI dN))] := hl
  have hfa := hLx.1
  have han := hLx.2.1
  have han4 : an ≤ 4000 := by omega
  obtain ⟨⟨h39, _, h48⟩, hBel, ⟨h25, hwc⟩, hTq, hc1, hc2, hc3, hc4, hc5, hc6⟩ := hRT
  have hdd := hBel.deep
  refine lv_aload_n hx hb dX12_readOne_0 rfl (lv_at hl 0 rfl) ?_
  refine va_get (D := (dC, dI)) (ci := 12) (v := .ref (a 40)) (C := RX12) (T := TX12) (N := 163) (fs := fM (vS a vi vj)) hx hb hts iwsRX12_readOne_in12 hown hK hP 0 rfl rfl 65 (by decide) (hts _ hm_r_X12_readOne_0) (fun _ h9 => h9) rfl dX12_readOne_1 ?_
  refine lv_iload_n hx hb dX12_readOne_4 rfl (lv_at hl 1 rfl) ?_
  refine va_iald (cA := k 40) (n := 120) (f := (vF 40)) hx hb hK hP 41 40 (WR_get 40 (by decide)) (TR_get 40 (by decide)) (vp_in_nI (show dN < 120 by omega) (by omega)) dX12_readOne_5 ?_
  refine lv_topi (fun y1 hy1 => ?_)
  obtain rfl : ((vF 40) dN) = y1 := (hy1.trans (by rw [nI_clamp (by omega)])).symm
  by_cases s_6_0 : ((vF 40) dN) = 0
  · have ts_6_0 : (((vF 40) dN)).toInt = 0 := toI_eq s_6_0 rfl (by decide)
    refine lv_tableIn (off := 30) (tgt := 36) hx hb dX12_readOne_6 (by rw [s_6_0]; decide) (by rw [s_6_0]; decide) (by rw [s_6_0]; decide) (by decide) ?_
    have hz := hTq.one0 s_6_0
    have hK0 := RdK.first (gl := gl) hRV (by omega)
    refine lv_aload_n hx hb dX12_readOne_36 rfl (lv_at hl 0 rfl) ?_
    refine lv_bipush (v := 10) hx hb dX12_readOne_37 (by decide) ?_
    have hFc := allFree hD hS hA
    refine va_calli (va_runV (As := [.int 10]) (rest := []) ⟨hx, hb, hml, hown, hts⟩ (r_X12_isKey l dC dI a k h0 vi vj vF vG 10 s.heap.size) (cwV 1 hts gwsRX12_readOne_0 rfl rfl rfl hd_yX12_isKey_RX12 (by decide +kernel)) (fz_pre (va_recv hK hP (ci := 12) (q0 := 0) rfl rfl) hP hK hD) rfl rfl hl.1 rfl (lv_room (Nat.le_of_ble_eq_true rfl)) dX12_readOne_39 (by decide +kernel)) hS (fun q _ h => hFc q h) hFc (fun r39 u t9_ H locs ht hvm hw9 hB9 hz1 hk1 hS => ?_)
    have hP : va_P (dC, dI) vwCl (WR a k h0 vi vj vF vG) H := fz_P ht hB9.1
    have hD := fz_sd hP (hB9.2.weaken (fun _ q _ h => hFc q.1 h)) rfl
    rcases hw9 with ⟨rfl, f39_0, f39_1⟩ | ⟨rfl, f39_0⟩
    · have f39_0 : (vi 18).toInt = 2 := f39_0
      have f39_1 : (vi 20) = 10 := f39_1
      refine lv_if_eq (tgt := 64) hx hb dX12_readOne_42 (by decide) (fun c9 => absurd c9 (by decide)) (fun _ => ?_)
      have hx1 : xe = 1 := hz.2.2.2.2.2.2.2.1 (Int32.toInt_inj.mp (f39_0.trans (by decide))) f39_1
      have hfl : fn < an := hLx.2.2.1.resolve_left (fun h => by first | (rw [h] at f39_0; exact absurd f39_0 (by decide)))
      refine lv_aload_n hx hb dX12_readOne_45 rfl (lv_at hl 0 rfl) ?_
      refine va_get (D := (dC, dI)) (ci := 12) (v := .ref (a 40)) (C := RX12) (T := TX12) (N := 163) (fs := fM (vS a vi vj)) hx hb hts iwsRX12_readOne_in12 hown hK hP 0 rfl rfl 65 (by decide) (hts _ hm_r_X12_readOne_0) (fun _ h9 => h9) rfl dX12_readOne_46 ?_
      refine lv_iload_n hx hb dX12_readOne_49 rfl (lv_at hl 1 rfl) ?_
      refine lv_iconst (v := 1) hx hb dX12_readOne_50 (by decide) ?_
      refine va_iast (cA := k 40) (n := 120) (f := (vF 40)) hx hb hK hP hD hS 41 40 (WR_get 40 (by decide)) (TR_get 40 (by decide)) (vp_in_nI (show dN < 120 by omega) (by omega)) dX12_readOne_51 (fun H locs hP hD hS => ?_)
      have hP : va_P (dC, dI) vwCl (WR a k h0 vi vj (fT vF 40 (upd (vF 40) ((nI dN)).toNatClampNeg 1)) vG) H := fz_w (WR_F 40 (by decide) _ rfl) hP
      have hD : va_D A (WR a k h0 vi vj (fT vF 40 (upd (vF 40) ((nI dN)).toNatClampNeg 1)) vG) := fz_wD (WR_F 40 (by decide) _ rfl) hD
      refine lv_aload_n hx hb dX12_readOne_52 rfl (lv_at hl 0 rfl) ?_
      have hFc := allFree hD hS hA
      refine va_callv (va_runV (As := []) (rest := []) ⟨hx, hb, hml, hown, hts⟩ (r_X12_next l dC dI a k h0 vi vj (fT vF 40 (upd (vF 40) ((nI dN)).toNatClampNeg 1)) vG tp an hTp (by first | with_reducible assumption | decide | omega | rfl | assumption) ha0 (by first | with_reducible assumption | decide | omega | rfl | assumption) H.size) (cwV 0 hts gwsRX12_readOne_1 rfl rfl rfl hd_yX12_next_RX12 (by decide +kernel)) (fz_preE (va_recv hK hP (ci := 12) (q0 := 0) rfl rfl) hP hK hD (fun a U g mk qE => qE.same rfl) (fun U hU9 hW => by rw [hU9]; exact (((hE : StrA A s s.heap).kept hS.2.1).narrow (fun q h => hFc q h)).warm hW)) rfl rfl hl.1 rfl (lv_room (Nat.le_of_ble_eq_true rfl)) dX12_readOne_53 (by decide +kernel)) hS (fun q _ h => hFc q h) hFc (fun u t9_ H locs ht hvm hw9 hB9 hz1 hk1 hS => ?_)
      revert u hw9 hB9
      refine fz_p4 ?_
      intro a253 f253 sg53 wd53 hw9 hB9
      try dsimp only at hw9 hB9
      have hP : va_P (dC, dI) vwCl (WR a k h0 (fT (fT (fT (fT vi 17 (nI a253)) 19 (nI f253)) 20 sg53) 18 wd53) vj (fT vF 40 (upd (vF 40) ((nI dN)).toNatClampNeg 1)) vG) H := fz_P ht hB9.1
      have hD := fz_sd hP (hB9.2.weaken (fun _ q _ h => hFc q.1 h)) rfl
      revert hw9
      refine fz_a2 ?_
      intro f53_0 f53_1
      have hl1 := f53_0.1
      have hl2 := f53_0.2.1
      refine lv_aload_n hx hb dX12_readOne_56 rfl (lv_at hl 0 rfl) ?_
      refine lv_iconst (v := 3) hx hb dX12_readOne_57 (by decide) ?_
      have hFc := allFree hD hS hA
      refine va_callv (va_runV (As := [.int 3]) (rest := []) ⟨hx, hb, hml, hown, hts⟩ (r_X12_begin1 l dC dI a k h0 (fT (fT (fT (fT vi 17 (nI a253)) 19 (nI f253)) 20 sg53) 18 wd53) vj (fT vF 40 (upd (vF 40) ((nI dN)).toNatClampNeg 1)) vG 3 tp a253 f253 nm se pa va bd (dN + 1) wi hTp (by first | with_reducible assumption | decide | omega | rfl | assumption) rfl rfl (f53_0) (by first | with_reducible assumption | decide | omega | rfl | assumption) hnm (by first | with_reducible assumption | decide | omega | rfl | assumption) (by first | with_reducible assumption | decide | omega | rfl | assumption) (by first | with_reducible assumption | decide | omega | rfl | assumption) hbd (by first | with_reducible assumption | decide | omega | rfl | assumption) (by first | with_reducible assumption | decide | omega | rfl | assumption) (hdp) (by first | with_reducible assumption | decide | omega | rfl | assumption) hwi (by first | with_reducible assumption | decide | omega | rfl | assumption) H.size) (cwV 1 hts gwsRX12_readOne_2 rfl rfl rfl hd_yX12_begin1_RX12 (by decide +kernel)) (fz_pre (va_recv hK hP (ci := 12) (q0 := 0) rfl rfl) hP hK hD) rfl rfl hl.1 rfl (lv_room (Nat.le_of_ble_eq_true rfl)) dX12_readOne_58 (by decide +kernel)) hS (fun q _ h => hFc q h) hFc (fun u t9_ H locs ht hvm hw9 hB9 hz1 hk1 hS => ?_)
      revert u hw9 hB9
      refine fz_p10 ?_
      intro s258 p258 g3958 g4058 g4158 g4258 g4758 g4858 d258 w258 hw9 hB9
      try dsimp only at hw9 hB9
      have e9F : fT (fT (fT (fT (fT (fT vF 40 g4058) 39 g3958) 41 g4158) 42 g4258) 47 g4758) 48 g4858 = fT (fT (fT (fT (fT (fT (fT vF 40 (upd (vF 40) ((nI dN)).toNatClampNeg 1)) 39 g3958) 40 g4058) 41 g4158) 42 g4258) 47 g4758) 48 g4858 := (congrArg (fun g9 => fT (fT (fT (fT g9 41 g4158) 42 g4258) 47 g4758) 48 g4858) ((fT_sw _ _ _ (Nat.ne_of_beq_eq_false rfl)).trans (congrArg (fun g9 => fT g9 39 g3958) (fT_sm _ _ _ _)))).symm
      have hP := wr_PF e9F (fz_P ht hB9.1)
      have hD := wr_DF e9F (hB9.2.weaken (fun _ q _ h => hFc q.1 h))
      clear e9F
      revert hw9
      refine fz_a4 ?_
      intro f58_0 f58_1 f58_2 f58_3
      have f58_1 : 0 < (s258).toInt ∨ (s258 = (vi 21) ∧ BgO 3 wd53 sg53 g3958 g4058 g4158 g4258 g4858 (dN + 1) wi d258 w258) := f58_1
      have f58_2 : FrmO (dN + 1) (vF 39) (upd (vF 40) ((nI dN)).toNatClampNeg 1) (vF 41) (vF 42) (vF 48) g3958 g4058 g4158 g4258 g4858 := f58_2
      refine lv_goto (tgt := 314) hx hb dX12_readOne_61 (by decide) ?_
      refine W.widen (k := 0) (n := 0) (by decide +kernel) (by decide +kernel) ?_
      have e9 : fT (fT (fT (fT (fT (fT (fT (fT (fT (fT (fT vi 17 (nI a253)) 19 (nI f253)) 20 sg53) 18 wd53) 21 s258) 22 p258) 74 (nI d258)) 75 (nI w258)) 76 (vi 76)) 77 (vi 77)) 52 (nI nd) = fT (fT (fT (fT (fT (fT (fT (fT vi 17 (nI a253)) 19 (nI f253)) 20 sg53) 18 wd53) 75 (nI w258)) 74 (nI d258)) 21 s258) 22 p258 := ch_E vi [nI a253, nI f253, sg53, wd53, s258, p258, nI d258, nI w258, nI nd] [(52, 9), (77, 0), (76, 0), (75, 8), (74, 7), (22, 6), (21, 5), (18, 4), (20, 3), (19, 2), (17, 1)] [(22, 6), (21, 5), (74, 7), (75, 8), (18, 4), (20, 3), (19, 2), (17, 1)] [52] ⟨show nI nd = vi 52 from (by first | with_reducible rfl | with_reducible assumption | (symm; with_reducible assumption) | rfl | assumption | (symm; assumption) | (subst_vars; rfl)), trivial⟩ (by decide +kernel)
      have hP := wr_Pi e9 hP
      have hD := wr_Di e9 hD
      clear e9
      have e9 : fT (fT (fT (fT (fT (fT (fT (fT (fT (fT (fT (fT (fT (fT (fT vF 41 g4158) 46 (vF 46)) 43 (vF 43)) 40 g4058) 39 g3958) 42 g4258) 47 g4758) 48 g4858) 29 (vF 29)) 30 (vF 30)) 31 (vF 31)) 32 (vF 32)) 33 (vF 33)) 34 (vF 34)) 35 (vF 35) = fT (fT (fT (fT (fT (fT vF 40 g4058) 39 g3958) 41 g4158) 42 g4258) 47 g4758) 48 g4858 := ch_E vF [g4158, g4058, g3958, g4258, g4758, g4858] [(35, 0), (34, 0), (33, 0), (32, 0), (31, 0), (30, 0), (29, 0), (48, 6), (47, 5), (42, 4), (39, 3), (40, 2), (43, 0), (46, 0), (41, 1)] [(48, 6), (47, 5), (42, 4), (41, 1), (39, 3), (40, 2)] [] trivial (by decide +kernel)
      have hP := wr_PF e9 hP
      have hD := wr_DF e9 hD
      clear e9
      exact W.vret hx hb hr (fun t9_ ht hW => ⟨⟨(a253, f253, sg53, wd53, s258, p258, (vF 29), (vF 30), (vF 31), (vF 32), (vF 33), (vF 34), (vF 35), g3958, g4058, g4158, g4258, (vF 43), (vF 46), g4758, g4858, d258, w258, nd, (vi 76), (vi 77), gG), rfl, by (try dsimp only); exact ⟨f53_0, by omega, f58_0, by rcases f58_1 with h9 | h9; (exact Or.inl h9); (exact Or.inr ⟨RdS.push (gm := gl) hK0.1 hBel hK0.2.1 (Nat.le_refl _) (fun q hq => ⟨rfl, by rw [upd_at (by omega), if_neg (by omega)], rfl, rfl, rfl⟩) h39 (by decide) h48 (by omega) ⟨⟨by omega, fun h8 => absurd rfl h8, fun _ => by omega, Nat.le_refl _⟩, Or.inr (Or.inr (Or.inr (Or.inr (Or.inr (Or.inr (Or.inr (Or.inr (Or.inl ⟨rfl, rfl, by rw [upd_at (by omega), if_pos rfl], rfl, rfl, rfl⟩))))))))⟩ f58_2 (by rw [← hwc]; exact h9.2) (show (3 : Int32) = nI 3 by decide) (by decide) (by omega) (by omega) (by omega) (by omega) (by omega) (by show 10 * (4000 - _) + dN + 1 + 5 ≤ mM - 1; omega), hK0.2.1.less (Nat.zero_le _)⟩), by omega⟩, by rw [ht]; exact hP, hD⟩, hS.F ht⟩) hS.2.2 dX12_readOne_314
    · have f39_0 : ¬ ((vi 18).toInt = 2 ∧ (vi 20) = 10) := f39_0
      refine lv_if_eq (tgt := 64) hx hb dX12_readOne_42 (by decide) (fun _ => ?_) (fun c9 => absurd (by decide) c9)
      refine lv_aload_n hx hb dX12_readOne_64 rfl (lv_at hl 0 rfl) ?_
      refine lv_bipush (v := 123) hx hb dX12_readOne_65 (by decide) ?_
      have hFc := allFree hD hS hA
      refine va_calli (va_runV (As := [.int 123]) (rest := []) ⟨hx, hb, hml, hown, hts⟩ (r_X12_isSign l dC dI a k h0 vi vj vF vG 123 H.size) (cwV 1 hts gwsRX12_readOne_3 rfl rfl rfl hd_yX12_isSign_RX12 (by decide +kernel)) (fz_pre (va_recv hK hP (ci := 12) (q0 := 0) rfl rfl) hP hK hD) rfl rfl hl.1 rfl (lv_room (Nat.le_of_ble_eq_true rfl)) dX12_readOne_67 (by decide +kernel)) hS (fun q _ h => hFc q h) hFc (fun r67 u t9_ H locs ht hvm hw9 hB9 hz1 hk1 hS => ?_)
      have hP : va_P (dC, dI) vwCl (WR a k h0 vi vj vF vG) H := fz_P ht hB9.1
      have hD := fz_sd hP (hB9.2.weaken (fun _ q _ h => hFc q.1 h)) rfl
      rcases hw9 with ⟨rfl, f67_0, f67_1⟩ | ⟨rfl, f67_0⟩
      · have f67_0 : (vi 18).toInt = 4 := f67_0
        have f67_1 : (vi 20) = 123 := f67_1
        refine lv_if_eq (tgt := 92) hx hb dX12_readOne_70 (by decide) (fun c9 => absurd c9 (by decide)) (fun _ => ?_)
        have hfl : fn < an := hLx.2.2.1.resolve_left (fun h => by first | (rw [h] at f67_0; exact absurd f67_0 (by decide)))
        refine lv_aload_n hx hb dX12_readOne_73 rfl (lv_at hl 0 rfl) ?_
        refine va_get (D := (dC, dI)) (ci := 12) (v := .ref (a 40)) (C := RX12) (T := TX12) (N := 163) (fs := fM (vS a vi vj)) hx hb hts iwsRX12_readOne_in12 hown hK hP 0 rfl rfl 65 (by decide) (hts _ hm_r_X12_readOne_0) (fun _ h9 => h9) rfl dX12_readOne_74 ?_
        refine lv_iload_n hx hb dX12_readOne_77 rfl (lv_at hl 1 rfl) ?_
        refine lv_iconst (v := 2) hx hb dX12_readOne_78 (by decide) ?_
        refine va_iast (cA := k 40) (n := 120) (f := (vF 40)) hx hb hK hP hD hS 41 40 (WR_get 40 (by decide)) (TR_get 40 (by decide)) (vp_in_nI (show dN < 120 by omega) (by omega)) dX12_readOne_79 (fun H locs hP hD hS => ?_)
        have hP : va_P (dC, dI) vwCl (WR a k h0 vi vj (fT vF 40 (upd (vF 40) ((nI dN)).toNatClampNeg 2)) vG) H := fz_w (WR_F 40 (by decide) _ rfl) hP
        have hD : va_D A (WR a k h0 vi vj (fT vF 40 (upd (vF 40) ((nI dN)).toNatClampNeg 2)) vG) := fz_wD (WR_F 40 (by decide) _ rfl) hD
        refine lv_aload_n hx hb dX12_readOne_80 rfl (lv_at hl 0 rfl) ?_
        have hFc := allFree hD hS hA
        refine va_callv (va_runV (As := []) (rest := []) ⟨hx, hb, hml, hown, hts⟩ (r_X12_next l dC dI a k h0 vi vj (fT vF 40 (upd (vF 40) ((nI dN)).toNatClampNeg 2)) vG tp an hTp (by first | with_reducible assumption | decide | omega | rfl | assumption) ha0 (by first | with_reducible assumption | decide | omega | rfl | assumption) H.size) (cwV 0 hts gwsRX12_readOne_1 rfl rfl rfl hd_yX12_next_RX12 (by decide +kernel)) (fz_preE (va_recv hK hP (ci := 12) (q0 := 0) rfl rfl) hP hK hD (fun a U g mk qE => qE.same rfl) (fun U hU9 hW => by rw [hU9]; exact (((hE : StrA A s s.heap).kept hS.2.1).narrow (fun q h => hFc q h)).warm hW)) rfl rfl hl.1 rfl (lv_room (Nat.le_of_ble_eq_true rfl)) dX12_readOne_81 (by decide +kernel)) hS (fun q _ h => hFc q h) hFc (fun u t9_ H locs ht hvm hw9 hB9 hz1 hk1 hS => ?_)
        revert u hw9 hB9
        refine fz_p4 ?_
        intro a281 f281 sg81 wd81 hw9 hB9
        try dsimp only at hw9 hB9
        have hP : va_P (dC, dI) vwCl (WR a k h0 (fT (fT (fT (fT vi 17 (nI a281)) 19 (nI f281)) 20 sg81) 18 wd81) vj (fT vF 40 (upd (vF 40) ((nI dN)).toNatClampNeg 2)) vG) H := fz_P ht hB9.1
        have hD := fz_sd hP (hB9.2.weaken (fun _ q _ h => hFc q.1 h)) rfl
        revert hw9
        refine fz_a2 ?_
        intro f81_0 f81_1
        have hl1 := f81_0.1
        have hl2 := f81_0.2.1
        refine lv_aload_n hx hb dX12_readOne_84 rfl (lv_at hl 0 rfl) ?_
        refine lv_iconst (v := 2) hx hb dX12_readOne_85 (by decide) ?_
        have hFc := allFree hD hS hA
        refine va_callv (va_runV (As := [.int 2]) (rest := []) ⟨hx, hb, hml, hown, hts⟩ (r_X12_begin1 l dC dI a k h0 (fT (fT (fT (fT vi 17 (nI a281)) 19 (nI f281)) 20 sg81) 18 wd81) vj (fT vF 40 (upd (vF 40) ((nI dN)).toNatClampNeg 2)) vG 2 tp a281 f281 nm se pa va bd (dN + 1) wi hTp (by first | with_reducible assumption | decide | omega | rfl | assumption) rfl rfl (f81_0) (by first | with_reducible assumption | decide | omega | rfl | assumption) hnm (by first | with_reducible assumption | decide | omega | rfl | assumption) (by first | with_reducible assumption | decide | omega | rfl | assumption) (by first | with_reducible assumption | decide | omega | rfl | assumption) hbd (by first | with_reducible assumption | decide | omega | rfl | assumption) (by first | with_reducible assumption | decide | omega | rfl | assumption) (hdp) (by first | with_reducible assumption | decide | omega | rfl | assumption) hwi (by first | with_reducible assumption | decide | omega | rfl | assumption) H.size) (cwV 1 hts gwsRX12_readOne_2 rfl rfl rfl hd_yX12_begin1_RX12 (by decide +kernel)) (fz_pre (va_recv hK hP (ci := 12) (q0 := 0) rfl rfl) hP hK hD) rfl rfl hl.1 rfl (lv_room (Nat.le_of_ble_eq_true rfl)) dX12_readOne_86 (by decide +kernel)) hS (fun q _ h => hFc q h) hFc (fun u t9_ H locs ht hvm hw9 hB9 hz1 hk1 hS => ?_)
        revert u hw9 hB9
        refine fz_p10 ?_
        intro s286 p286 g3986 g4086 g4186 g4286 g4786 g4886 d286 w286 hw9 hB9
        try dsimp only at hw9 hB9
        have e9F : fT (fT (fT (fT (fT (fT vF 40 g4086) 39 g3986) 41 g4186) 42 g4286) 47 g4786) 48 g4886 = fT (fT (fT (fT (fT (fT (fT vF 40 (upd (vF 40) ((nI dN)).toNatClampNeg 2)) 39 g3986) 40 g4086) 41 g4186) 42 g4286) 47 g4786) 48 g4886 := (congrArg (fun g9 => fT (fT (fT (fT g9 41 g4186) 42 g4286) 47 g4786) 48 g4886) ((fT_sw _ _ _ (Nat.ne_of_beq_eq_false rfl)).trans (congrArg (fun g9 => fT g9 39 g3986) (fT_sm _ _ _ _)))).symm
        have hP := wr_PF e9F (fz_P ht hB9.1)
        have hD := wr_DF e9F (hB9.2.weaken (fun _ q _ h => hFc q.1 h))
        clear e9F
        revert hw9
        refine fz_a4 ?_
        intro f86_0 f86_1 f86_2 f86_3
        have f86_1 : 0 < (s286).toInt ∨ (s286 = (vi 21) ∧ BgO 2 wd81 sg81 g3986 g4086 g4186 g4286 g4886 (dN + 1) wi d286 w286) := f86_1
        have f86_2 : FrmO (dN + 1) (vF 39) (upd (vF 40) ((nI dN)).toNatClampNeg 2) (vF 41) (vF 42) (vF 48) g3986 g4086 g4186 g4286 g4886 := f86_2
        refine lv_goto (tgt := 314) hx hb dX12_readOne_89 (by decide) ?_
        refine W.widen (k := 0) (n := 0) (by decide +kernel) (by decide +kernel) ?_
        have e9 : fT (fT (fT (fT (fT (fT (fT (fT (fT (fT (fT vi 17 (nI a281)) 19 (nI f281)) 20 sg81) 18 wd81) 21 s286) 22 p286) 74 (nI d286)) 75 (nI w286)) 76 (vi 76)) 77 (vi 77)) 52 (nI nd) = fT (fT (fT (fT (fT (fT (fT (fT vi 17 (nI a281)) 19 (nI f281)) 20 sg81) 18 wd81) 75 (nI w286)) 74 (nI d286)) 21 s286) 22 p286 := ch_E vi [nI a281, nI f281, sg81, wd81, s286, p286, nI d286, nI w286, nI nd] [(52, 9), (77, 0), (76, 0), (75, 8), (74, 7), (22, 6), (21, 5), (18, 4), (20, 3), (19, 2), (17, 1)] [(22, 6), (21, 5), (74, 7), (75, 8), (18, 4), (20, 3), (19, 2), (17, 1)] [52] ⟨show nI nd = vi 52 from (by first | with_reducible rfl | with_reducible assumption | (symm; with_reducible assumption) | rfl | assumption | (symm; assumption) | (subst_vars; rfl)), trivial⟩ (by decide +kernel)
        have hP := wr_Pi e9 hP
        have hD := wr_Di e9 hD
        clear e9
        have e9 : fT (fT (fT (fT (fT (fT (fT (fT (fT (fT (fT (fT (fT (fT (fT vF 41 g4186) 46 (vF 46)) 43 (vF 43)) 40 g4086) 39 g3986) 42 g4286) 47 g4786) 48 g4886) 29 (vF 29)) 30 (vF 30)) 31 (vF 31)) 32 (vF 32)) 33 (vF 33)) 34 (vF 34)) 35 (vF 35) = fT (fT (fT (fT (fT (fT vF 40 g4086) 39 g3986) 41 g4186) 42 g4286) 47 g4786) 48 g4886 := ch_E vF [g4186, g4086, g3986, g4286, g4786, g4886] [(35, 0), (34, 0), (33, 0), (32, 0), (31, 0), (30, 0), (29, 0), (48, 6), (47, 5), (42, 4), (39, 3), (40, 2), (43, 0), (46, 0), (41, 1)] [(48, 6), (47, 5), (42, 4), (41, 1), (39, 3), (40, 2)] [] trivial (by decide +kernel)
        have hP := wr_PF e9 hP
        have hD := wr_DF e9 hD
        clear e9
        exact W.vret hx hb hr (fun t9_ ht hW => ⟨⟨(a281, f281, sg81, wd81, s286, p286, (vF 29), (vF 30), (vF 31), (vF 32), (vF 33), (vF 34), (vF 35), g3986, g4086, g4186, g4286, (vF 43), (vF 46), g4786, g4886, d286, w286, nd, (vi 76), (vi 77), gG), rfl, by (try dsimp only); exact ⟨f81_0, by omega, f86_0, by rcases f86_1 with h9 | h9; (exact Or.inl h9); (exact Or.inr ⟨RdS.push (gm := gl) hK0.1 hBel hK0.2.1 (Nat.le_refl _) (fun q hq => ⟨rfl, by rw [upd_at (by omega), if_neg (by omega)], rfl, rfl, rfl⟩) h39 (by decide) h48 (by omega) ⟨⟨by omega, fun h8 => absurd rfl h8, fun h8 => absurd h8 (by decide), Nat.le_refl _⟩, Or.inr (Or.inr (Or.inr (Or.inr (Or.inr (Or.inr (Or.inr (Or.inr (Or.inr (Or.inl ⟨rfl, rfl, by rw [upd_at (by omega), if_pos rfl], rfl, rfl, rfl⟩)))))))))⟩ f86_2 (by rw [← hwc]; exact h9.2) (show (2 : Int32) = nI 2 by decide) (by decide) (by omega) (by omega) (by omega) (by omega) (by omega) (by show 10 * (4000 - _) + dN + 1 + 7 ≤ mM - 1; omega), hK0.2.1.less (Nat.zero_le _)⟩), by omega⟩, by rw [ht]; exact hP, hD⟩, hS.F ht⟩) hS.2.2 dX12_readOne_314
      · have f67_0 : ¬ ((vi 18).toInt = 4 ∧ (vi 20) = 123) := f67_0
        refine lv_if_eq (tgt := 92) hx hb dX12_readOne_70 (by decide) (fun _ => ?_) (fun c9 => absurd (by decide) c9)
        refine lv_aload_n hx hb dX12_readOne_92 rfl (lv_at hl 0 rfl) ?_
        refine va_get (D := (dC, dI)) (ci := 12) (v := .ref (a 40)) (C := RX12) (T := TX12) (N := 163) (fs := fM (vS a vi vj)) hx hb hts iwsRX12_readOne_in12 hown hK hP 0 rfl rfl 65 (by decide) (hts _ hm_r_X12_readOne_0) (fun _ h9 => h9) rfl dX12_readOne_93 ?_
        refine lv_iload_n hx hb dX12_readOne_96 rfl (lv_at hl 1 rfl) ?_
        refine lv_iconst (v := 3) hx hb dX12_readOne_97 (by decide) ?_
        refine va_iast (cA := k 40) (n := 120) (f := (vF 40)) hx hb hK hP hD hS 41 40 (WR_get 40 (by decide)) (TR_get 40 (by decide)) (vp_in_nI (show dN < 120 by omega) (by omega)) dX12_readOne_98 (fun H locs hP hD hS => ?_)
        have hP : va_P (dC, dI) vwCl (WR a k h0 vi vj (fT vF 40 (upd (vF 40) ((nI dN)).toNatClampNeg 3)) vG) H := fz_w (WR_F 40 (by decide) _ rfl) hP
        have hD : va_D A (WR a k h0 vi vj (fT vF 40 (upd (vF 40) ((nI dN)).toNatClampNeg 3)) vG) := fz_wD (WR_F 40 (by decide) _ rfl) hD
        refine lv_aload_n hx hb dX12_readOne_99 rfl (lv_at hl 0 rfl) ?_
        refine lv_iconst (v := 0) hx hb dX12_readOne_100 (by decide) ?_
        have hFc := allFree hD hS hA
        refine va_callv (va_runV (As := [.int 0]) (rest := []) ⟨hx, hb, hml, hown, hts⟩ (r_X12_begin1 l dC dI a k h0 vi vj (fT vF 40 (upd (vF 40) ((nI dN)).toNatClampNeg 3)) vG 0 tp an fn nm se pa va bd (dN + 1) wi hTp (by first | with_reducible assumption | decide | omega | rfl | assumption) ha0 hfr (by first | with_reducible assumption | decide | omega | rfl | assumption) (by first | with_reducible assumption | decide | omega | rfl | assumption) hnm (by first | with_reducible assumption | decide | omega | rfl | assumption) (by first | with_reducible assumption | decide | omega | rfl | assumption) (by first | with_reducible assumption | decide | omega | rfl | assumption) hbd (by first | with_reducible assumption | decide | omega | rfl | assumption) (by first | with_reducible assumption | decide | omega | rfl | assumption) (hdp) (by first | with_reducible assumption | decide | omega | rfl | assumption) hwi (by first | with_reducible assumption | decide | omega | rfl | assumption) H.size) (cwV 1 hts gwsRX12_readOne_2 rfl rfl rfl hd_yX12_begin1_RX12 (by decide +kernel)) (fz_pre (va_recv hK hP (ci := 12) (q0 := 0) rfl rfl) hP hK hD) rfl rfl hl.1 rfl (lv_room (Nat.le_of_ble_eq_true rfl)) dX12_readOne_101 (by decide +kernel)) hS (fun q _ h => hFc q h) hFc (fun u t9_ H locs ht hvm hw9 hB9 hz1 hk1 hS => ?_)
        revert u hw9 hB9
        refine fz_p10 ?_
        intro s2101 p2101 g39101 g40101 g41101 g42101 g47101 g48101 d2101 w2101 hw9 hB9
        try dsimp only at hw9 hB9
        have e9F : fT (fT (fT (fT (fT (fT vF 40 g40101) 39 g39101) 41 g41101) 42 g42101) 47 g47101) 48 g48101 = fT (fT (fT (fT (fT (fT (fT vF 40 (upd (vF 40) ((nI dN)).toNatClampNeg 3)) 39 g39101) 40 g40101) 41 g41101) 42 g42101) 47 g47101) 48 g48101 := (congrArg (fun g9 => fT (fT (fT (fT g9 41 g41101) 42 g42101) 47 g47101) 48 g48101) ((fT_sw _ _ _ (Nat.ne_of_beq_eq_false rfl)).trans (congrArg (fun g9 => fT g9 39 g39101) (fT_sm _ _ _ _)))).symm
        have hP := wr_PF e9F (fz_P ht hB9.1)
        have hD := wr_DF e9F (hB9.2.weaken (fun _ q _ h => hFc q.1 h))
        clear e9F
        revert hw9
        refine fz_a4 ?_
        intro f101_0 f101_1 f101_2 f101_3
        have f101_1 : 0 < (s2101).toInt ∨ (s2101 = (vi 21) ∧ BgO 0 (vi 18) (vi 20) g39101 g40101 g41101 g42101 g48101 (dN + 1) wi d2101 w2101) := f101_1
        have f101_2 : FrmO (dN + 1) (vF 39) (upd (vF 40) ((nI dN)).toNatClampNeg 3) (vF 41) (vF 42) (vF 48) g39101 g40101 g41101 g42101 g48101 := f101_2
        refine lv_goto (tgt := 314) hx hb dX12_readOne_104 (by decide) ?_
        refine W.widen (k := 0) (n := 0) (by decide +kernel) (by decide +kernel) ?_
        have e9 : fT (fT (fT (fT (fT (fT (fT (fT (fT (fT (fT vi 17 (nI an)) 19 (nI fn)) 20 (vi 20)) 18 (vi 18)) 21 s2101) 22 p2101) 74 (nI d2101)) 75 (nI w2101)) 76 (vi 76)) 77 (vi 77)) 52 (nI nd) = fT (fT (fT (fT vi 75 (nI w2101)) 74 (nI d2101)) 21 s2101) 22 p2101 := ch_E vi [nI an, nI fn, s2101, p2101, nI d2101, nI w2101, nI nd] [(52, 7), (77, 0), (76, 0), (75, 6), (74, 5), (22, 4), (21, 3), (18, 0), (20, 0), (19, 2), (17, 1)] [(22, 4), (21, 3), (74, 5), (75, 6)] [17, 19, 52] ⟨show nI an = vi 17 from (by first | with_reducible rfl | with_reducible assumption | (symm; with_reducible assumption) | rfl | assumption | (symm; assumption) | (subst_vars; rfl)), show nI fn = vi 19 from (by first | with_reducible rfl | with_reducible assumption | (symm; with_reducible assumption) | rfl | assumption | (symm; assumption) | (subst_vars; rfl)), show nI nd = vi 52 from (by first | with_reducible rfl | with_reducible assumption | (symm; with_reducible assumption) | rfl | assumption | (symm; assumption) | (subst_vars; rfl)), trivial⟩ (by decide +kernel)
        have hP := wr_Pi e9 hP
        have hD := wr_Di e9 hD
        clear e9
        have e9 : fT (fT (fT (fT (fT (fT (fT (fT (fT (fT (fT (fT (fT (fT (fT vF 41 g41101) 46 (vF 46)) 43 (vF 43)) 40 g40101) 39 g39101) 42 g42101) 47 g47101) 48 g48101) 29 (vF 29)) 30 (vF 30)) 31 (vF 31)) 32 (vF 32)) 33 (vF 33)) 34 (vF 34)) 35 (vF 35) = fT (fT (fT (fT (fT (fT vF 40 g40101) 39 g39101) 41 g41101) 42 g42101) 47 g47101) 48 g48101 := ch_E vF [g41101, g40101, g39101, g42101, g47101, g48101] [(35, 0), (34, 0), (33, 0), (32, 0), (31, 0), (30, 0), (29, 0), (48, 6), (47, 5), (42, 4), (39, 3), (40, 2), (43, 0), (46, 0), (41, 1)] [(48, 6), (47, 5), (42, 4), (41, 1), (39, 3), (40, 2)] [] trivial (by decide +kernel)
        have hP := wr_PF e9 hP
        have hD := wr_DF e9 hD
        clear e9
        exact W.vret hx hb hr (fun t9_ ht hW => ⟨⟨(an, fn, (vi 20), (vi 18), s2101, p2101, (vF 29), (vF 30), (vF 31), (vF 32), (vF 33), (vF 34), (vF 35), g39101, g40101, g41101, g42101, (vF 43), (vF 46), g47101, g48101, d2101, w2101, nd, (vi 76), (vi 77), gG), rfl, by (try dsimp only); exact ⟨hLx, by omega, f101_0, by rcases f101_1 with h9 | h9; (exact Or.inl h9); (exact Or.inr ⟨RdS.push (gm := gl) hK0.1 hBel hK0.2.1 (Nat.le_refl _) (fun q hq => ⟨rfl, by rw [upd_at (by omega), if_neg (by omega)], rfl, rfl, rfl⟩) h39 (by decide) h48 (by omega) ⟨⟨by omega, fun h8 => absurd rfl h8, fun h8 => absurd h8 (by decide), Nat.le_refl _⟩, Or.inr (Or.inr (Or.inr (Or.inr (Or.inr (Or.inr (Or.inr (Or.inr (Or.inr (Or.inr (Or.inl ⟨rfl, rfl, by rw [upd_at (by omega), if_pos rfl], rfl, rfl, rfl⟩))))))))))⟩ f101_2 (by rw [← hwc]; exact h9.2) (show (0 : Int32) = nI 0 by decide) (by decide) (by omega) (by omega) (by omega) (by omega) (by omega) (by show 10 * (4000 - _) + dN + 1 + 3 ≤ mM - 1; omega), hK0.2.1.less (Nat.zero_le _)⟩), by omega⟩, by rw [ht]; exact hP, hD⟩, hS.F ht⟩) hS.2.2 dX12_readOne_314
  · have ts_6_0 : ¬ (((vF 40) dN)).toInt = 0 := toI_neq s_6_0 rfl (by decide)
    by_cases s_6_1 : ((vF 40) dN) = 1
    · have ts_6_1 : (((vF 40) dN)).toInt = 1 := toI_eq s_6_1 rfl (by decide)
      refine lv_tableIn (off := 101) (tgt := 107) hx hb dX12_readOne_6 (by rw [s_6_1]; decide) (by rw [s_6_1]; decide) (by rw [s_6_1]; decide) (by decide) ?_
      obtain ⟨hq1, hq2, hq3, hq4, hq5, hq6, cR, hres, hcR⟩ := hTq.one1 s_6_1
      have hK0 := RdK.first (gl := gl) hRV (by omega)
      have hKK := hK0.mkNot (kv := 12) (av := nI cR) (bv := 0) (cv := 0) (by omega) (show (12 : Int32) = nI 12 by decide) rfl hcR (Nat.le_refl _)
      have hKN := hKK.1
      have hLN := hKK.2
      refine lv_aload_n hx hb dX12_readOne_107 rfl (lv_at hl 0 rfl) ?_
      refine lv_aload_n hx hb dX12_readOne_108 rfl (lv_at hl 0 rfl) ?_
      refine lv_bipush (v := 12) hx hb dX12_readOne_109 (by decide) ?_
      refine lv_aload_n hx hb dX12_readOne_111 rfl (lv_at hl 0 rfl) ?_
      refine va_get (D := (dC, dI)) (ci := 12) (v := .int (vi 76)) (C := RX12) (T := TX12) (N := 163) (fs := fM (vS a vi vj)) hx hb hts iwsRX12_readOne_in12 hown hK hP 0 rfl rfl 76 (by decide) (hts _ hm_r_X12_readOne_1) (fun _ h9 => h9) rfl dX12_readOne_112 ?_
      refine lv_topi (fun y2 hy2 => ?_)
      obtain rfl : (nI cR) = y2 := (hy2.trans (hres)).symm
      refine lv_iconst (v := 0) hx hb dX12_readOne_115 (by decide) ?_
      refine lv_iconst (v := 0) hx hb dX12_readOne_116 (by decide) ?_
      refine lv_iconst (v := 0) hx hb dX12_readOne_117 (by decide) ?_
      have hFc := allFree hD hS hA
      refine va_calli (va_runV (As := [.int 12, .int (nI cR), .int 0, .int 0, .int 0]) (rest := [.ref h0]) ⟨hx, hb, hml, hown, hts⟩ (r_X12_node l dC dI a k h0 vi vj vF vG nd 12 (nI cR) 0 0 0 hnd (by first | with_reducible assumption | decide | omega | rfl | assumption) s.heap.size) (cwV 5 hts gwsRX12_readOne_4 rfl rfl rfl hd_yX12_node_RX12 (by decide +kernel)) (fz_pre (va_recv hK hP (ci := 12) (q0 := 0) rfl rfl) hP hK hD) rfl rfl hl.1 rfl (lv_room (Nat.le_of_ble_eq_true rfl)) dX12_readOne_118 (by decide +kernel)) hS (fun q _ h => hFc q h) hFc (fun r118 u t9_ H locs ht hvm hw9 hB9 hz1 hk1 hS => ?_)
      have hP : va_P (dC, dI) vwCl (WR a k h0 (fT vi 52 (nI (nd + 1))) vj (fT (fT (fT (fT (fT (fT (fT vF 29 (upd (vF 29) (nI nd).toNatClampNeg 12)) 30 (upd (vF 30) (nI nd).toNatClampNeg (nI cR))) 31 (upd (vF 31) (nI nd).toNatClampNeg 0)) 32 (upd (vF 32) (nI nd).toNatClampNeg 0)) 33 (upd (vF 33) (nI nd).toNatClampNeg 0)) 34 (upd (vF 34) (nI nd).toNatClampNeg 0)) 35 (upd (vF 35) (nI nd).toNatClampNeg 0)) vG) H := fz_P ht hB9.1
      have hD := fz_sd hP (hB9.2.weaken (fun _ q _ h => hFc q.1 h)) rfl
      obtain rfl := hw9
      have hFc := allFree hD hS hA
      refine va_callv (va_runV (As := [.int (nI nd)]) (rest := []) ⟨hx, hb, hml, hown, hts⟩ (r_X12_end1w l dC dI a k h0 (fT vi 52 (nI (nd + 1))) vj (fT (fT (fT (fT (fT (fT (fT vF 29 (upd (vF 29) (nI nd).toNatClampNeg 12)) 30 (upd (vF 30) (nI nd).toNatClampNeg (nI cR))) 31 (upd (vF 31) (nI nd).toNatClampNeg 0)) 32 (upd (vF 32) (nI nd).toNatClampNeg 0)) 33 (upd (vF 33) (nI nd).toNatClampNeg 0)) 34 (upd (vF 34) (nI nd).toNatClampNeg 0)) 35 (upd (vF 35) (nI nd).toNatClampNeg 0)) vG (nI nd) dN wi xe (hdp) (by first | with_reducible assumption | decide | omega | rfl | assumption) hwi (by first | with_reducible assumption | decide | omega | rfl | assumption) (h48) (by first | with_reducible assumption | decide | omega | rfl | assumption) H.size) (cwV 1 hts gwsRX12_readOne_5 rfl rfl rfl hd_yX12_end1_RX12 (by decide +kernel)) (fz_pre (va_recv hK hP (ci := 12) (q0 := 0) rfl rfl) hP hK hD) rfl rfl hl.1 rfl (lv_room (Nat.le_of_ble_eq_true rfl)) dX12_readOne_121 (by decide +kernel)) hS (fun q _ h => hFc q h) hFc (fun u t9_ H locs ht hvm hw9 hB9 hz1 hk1 hS => ?_)
      have hP : va_P (dC, dI) vwCl (WR a k h0 (fT (fT (fT (fT (fT vi 52 (nI (nd + 1))) 74 (nI dN)) 75 (nI (wi - xe))) 76 (nI nd)) 77 ((vF 47) dN)) vj (fT (fT (fT (fT (fT (fT (fT vF 29 (upd (vF 29) (nI nd).toNatClampNeg 12)) 30 (upd (vF 30) (nI nd).toNatClampNeg (nI cR))) 31 (upd (vF 31) (nI nd).toNatClampNeg 0)) 32 (upd (vF 32) (nI nd).toNatClampNeg 0)) 33 (upd (vF 33) (nI nd).toNatClampNeg 0)) 34 (upd (vF 34) (nI nd).toNatClampNeg 0)) 35 (upd (vF 35) (nI nd).toNatClampNeg 0)) vG) H := fz_P ht hB9.1
      have hD := fz_sd hP (hB9.2.weaken (fun _ q _ h => hFc q.1 h)) rfl
      refine lv_goto (tgt := 314) hx hb dX12_readOne_124 (by decide) ?_
      refine W.widen (k := 0) (n := 0) (by decide +kernel) (by decide +kernel) ?_
      have e9 : fT (fT (fT (fT (fT (fT (fT (fT (fT (fT (fT vi 17 (nI an)) 19 (nI fn)) 20 (vi 20)) 18 (vi 18)) 21 (vi 21)) 22 (vi 22)) 74 (nI dN)) 75 (nI (wi - xe))) 76 (nI nd)) 77 ((vF 47) dN)) 52 (nI (nd + 1)) = fT (fT (fT (fT (fT vi 52 (nI (nd + 1))) 74 (nI dN)) 75 (nI (wi - xe))) 76 (nI nd)) 77 ((vF 47) dN) := ch_E vi [nI an, nI fn, nI dN, nI (wi - xe), nI nd, (vF 47) dN, nI (nd + 1)] [(52, 7), (77, 6), (76, 5), (75, 4), (74, 3), (22, 0), (21, 0), (18, 0), (20, 0), (19, 2), (17, 1)] [(77, 6), (76, 5), (75, 4), (74, 3), (52, 7)] [17, 19] ⟨show nI an = vi 17 from (by first | with_reducible rfl | with_reducible assumption | (symm; with_reducible assumption) | rfl | assumption | (symm; assumption) | (subst_vars; rfl)), show nI fn = vi 19 from (by first | with_reducible rfl | with_reducible assumption | (symm; with_reducible assumption) | rfl | assumption | (symm; assumption) | (subst_vars; rfl)), trivial⟩ (by decide +kernel)
      have hP := wr_Pi e9 hP
      have hD := wr_Di e9 hD
      clear e9
      have e9 : fT (fT (fT (fT (fT (fT (fT (fT (fT (fT (fT (fT (fT (fT (fT vF 41 (vF 41)) 46 (vF 46)) 43 (vF 43)) 40 (vF 40)) 39 (vF 39)) 42 (vF 42)) 47 (vF 47)) 48 (vF 48)) 29 (upd (vF 29) (nI nd).toNatClampNeg 12)) 30 (upd (vF 30) (nI nd).toNatClampNeg (nI cR))) 31 (upd (vF 31) (nI nd).toNatClampNeg 0)) 32 (upd (vF 32) (nI nd).toNatClampNeg 0)) 33 (upd (vF 33) (nI nd).toNatClampNeg 0)) 34 (upd (vF 34) (nI nd).toNatClampNeg 0)) 35 (upd (vF 35) (nI nd).toNatClampNeg 0) = fT (fT (fT (fT (fT (fT (fT vF 29 (upd (vF 29) (nI nd).toNatClampNeg 12)) 30 (upd (vF 30) (nI nd).toNatClampNeg (nI cR))) 31 (upd (vF 31) (nI nd).toNatClampNeg 0)) 32 (upd (vF 32) (nI nd).toNatClampNeg 0)) 33 (upd (vF 33) (nI nd).toNatClampNeg 0)) 34 (upd (vF 34) (nI nd).toNatClampNeg 0)) 35 (upd (vF 35) (nI nd).toNatClampNeg 0) := ch_E vF [upd (vF 29) (nI nd).toNatClampNeg 12, upd (vF 30) (nI nd).toNatClampNeg (nI cR), upd (vF 31) (nI nd).toNatClampNeg 0, upd (vF 32) (nI nd).toNatClampNeg 0, upd (vF 33) (nI nd).toNatClampNeg 0, upd (vF 34) (nI nd).toNatClampNeg 0, upd (vF 35) (nI nd).toNatClampNeg 0] [(35, 7), (34, 6), (33, 5), (32, 4), (31, 3), (30, 2), (29, 1), (48, 0), (47, 0), (42, 0), (39, 0), (40, 0), (43, 0), (46, 0), (41, 0)] [(35, 7), (34, 6), (33, 5), (32, 4), (31, 3), (30, 2), (29, 1)] [] trivial (by decide +kernel)
      have hP := wr_PF e9 hP
      have hD := wr_DF e9 hD
      clear e9
      exact W.vret hx hb hr (fun t9_ ht hW => ⟨⟨(an, fn, (vi 20), (vi 18), (vi 21), (vi 22), (upd (vF 29) (nI nd).toNatClampNeg 12), (upd (vF 30) (nI nd).toNatClampNeg (nI cR)), (upd (vF 31) (nI nd).toNatClampNeg 0), (upd (vF 32) (nI nd).toNatClampNeg 0), (upd (vF 33) (nI nd).toNatClampNeg 0), (upd (vF 34) (nI nd).toNatClampNeg 0), (upd (vF 35) (nI nd).toNatClampNeg 0), (vF 39), (vF 40), (vF 41), (vF 42), (vF 43), (vF 46), (vF 47), (vF 48), dN, (wi - xe), (nd + 1), (nI nd), ((vF 47) dN), (gG.add nd (gG.wt cR + 3) (51 - 2 * (cw + xe)) 0)), rfl, by (try dsimp only); exact ⟨hLx, Nat.le_refl _, hst0, Or.inr ⟨by (have e9 : wi - xe = cw := by omega); rw [e9]; exact RdS.pop (ex := xe) hKN.1 hBel hKN.2.1 (Nat.le_refl _) (fun q hq => ⟨rfl, rfl, rfl, rfl, rfl⟩) (by omega) (fun h8 => absurd rfl h8) (by decide) (Or.inr ⟨by decide, hLN⟩) (by omega) (by show gG.vN + 1 + un ≤ nd + 1; omega) (by omega) (by omega) hKN.2.2.2 (by omega), hKN.2.1.less (Nat.zero_le _)⟩, by omega⟩, by rw [ht]; exact hP, hD⟩, hS.F ht⟩) hS.2.2 dX12_readOne_314
    · have ts_6_1 : ¬ (((vF 40) dN)).toInt = 1 := toI_neq s_6_1 rfl (by decide)
      by_cases s_6_2 : ((vF 40) dN) = 2
      · have ts_6_2 : (((vF 40) dN)).toInt = 2 := toI_eq s_6_2 rfl (by decide)
        refine lv_tableIn (off := 121) (tgt := 127) hx hb dX12_readOne_6 (by rw [s_6_2]; decide) (by rw [s_6_2]; decide) (by rw [s_6_2]; decide) (by decide) ?_
        obtain ⟨hq1, hq2, hq3, hq4, hq5, hq6, hw24, cR, hres, hcR⟩ := hTq.one2 s_6_2
        have hK0 := RdK.first (gl := gl) hRV (by omega)
        refine lv_aload_n hx hb dX12_readOne_127 rfl (lv_at hl 0 rfl) ?_
        refine lv_bipush (v := 125) hx hb dX12_readOne_128 (by decide) ?_
        have hFc := allFree hD hS hA
        refine va_calli (va_runV (As := [.int 125]) (rest := []) ⟨hx, hb, hml, hown, hts⟩ (r_X12_needSign l dC dI a k h0 vi vj vF vG 125 tp an fn hTp (by first | with_reducible assumption | decide | omega | rfl | assumption) ha0 hfr (by first | with_reducible assumption | decide | omega | rfl | assumption) (by first | with_reducible assumption | decide | omega | rfl | assumption) s.heap.size) (cwV 1 hts gwsRX12_readOne_6 rfl rfl rfl hd_yX12_needSign_RX12 (by decide +kernel)) (fz_preE (va_recv hK hP (ci := 12) (q0 := 0) rfl rfl) hP hK hD (fun a U g mk qE => qE.same rfl) (fun U hU9 hW => by rw [hU9]; exact (((hE : StrA A s s.heap).kept hS.2.1).narrow (fun q h => hFc q h)).warm hW)) rfl rfl hl.1 rfl (lv_room (Nat.le_of_ble_eq_true rfl)) dX12_readOne_130 (by decide +kernel)) hS (fun q _ h => hFc q h) hFc (fun r130 u t9_ H locs ht hvm hw9 hB9 hz1 hk1 hS => ?_)
        revert u hw9 hB9
        refine fz_p6 ?_
        intro a2130 f2130 sg130 wd130 s2130 p2130 hw9 hB9
        try dsimp only at hw9 hB9
        have hP : va_P (dC, dI) vwCl (WR a k h0 (fT (fT (fT (fT (fT (fT vi 17 (nI a2130)) 19 (nI f2130)) 20 sg130) 18 wd130) 21 s2130) 22 p2130) vj vF vG) H := fz_P ht hB9.1
        have hD := fz_sd hP (hB9.2.weaken (fun _ q _ h => hFc q.1 h)) rfl
        rcases hw9 with ⟨rfl, f130_0, f130_1, f130_2, f130_3⟩ | ⟨rfl, f130_0, f130_1, f130_2⟩
        · have f130_3 : (vi 21) = 0 := f130_3
          refine lv_if_eq (tgt := 314) hx hb dX12_readOne_133 (by decide) (fun c9 => absurd c9 (by decide)) (fun _ => ?_)
          refine lv_aload_n hx hb dX12_readOne_136 rfl (lv_at hl 0 rfl) ?_
          refine lv_aload_n hx hb dX12_readOne_137 rfl (lv_at hl 0 rfl) ?_
          refine va_get (D := (dC, dI)) (ci := 12) (v := .int (vi 76)) (C := RX12) (T := TX12) (N := 163) (fs := fM (vS a (fT (fT (fT (fT (fT (fT vi 17 (nI a2130)) 19 (nI f2130)) 20 sg130) 18 wd130) 21 s2130) 22 p2130) vj)) hx hb hts iwsRX12_readOne_in12 hown hK hP 0 rfl rfl 76 (by decide) (hts _ hm_r_X12_readOne_1) (fun _ h9 => h9) rfl dX12_readOne_138 ?_
          refine lv_topi (fun y3 hy3 => ?_)
          obtain rfl : (nI cR) = y3 := (hy3.trans (hres)).symm
          have hFc := allFree hD hS hA
          refine va_callv (va_runV (As := [.int (nI cR)]) (rest := []) ⟨hx, hb, hml, hown, hts⟩ (r_X12_end1w l dC dI a k h0 (fT (fT (fT (fT (fT (fT vi 17 (nI a2130)) 19 (nI f2130)) 20 sg130) 18 wd130) 21 s2130) 22 p2130) vj vF vG (nI cR) dN wi xe (hdp) (by first | with_reducible assumption | decide | omega | rfl | assumption) hwi (by first | with_reducible assumption | decide | omega | rfl | assumption) (h48) (by first | with_reducible assumption | decide | omega | rfl | assumption) H.size) (cwV 1 hts gwsRX12_readOne_5 rfl rfl rfl hd_yX12_end1_RX12 (by decide +kernel)) (fz_pre (va_recv hK hP (ci := 12) (q0 := 0) rfl rfl) hP hK hD) rfl rfl hl.1 rfl (lv_room (Nat.le_of_ble_eq_true rfl)) dX12_readOne_141 (by decide +kernel)) hS (fun q _ h => hFc q h) hFc (fun u t9_ H locs ht hvm hw9 hB9 hz1 hk1 hS => ?_)
          have hP : va_P (dC, dI) vwCl (WR a k h0 (fT (fT (fT (fT (fT (fT (fT (fT (fT (fT vi 17 (nI a2130)) 19 (nI f2130)) 20 sg130) 18 wd130) 21 s2130) 22 p2130) 74 (nI dN)) 75 (nI (wi - xe))) 76 (nI cR)) 77 ((vF 47) dN)) vj vF vG) H := fz_P ht hB9.1
          have hD := fz_sd hP (hB9.2.weaken (fun _ q _ h => hFc q.1 h)) rfl
          refine lv_goto (tgt := 314) hx hb dX12_readOne_144 (by decide) ?_
          refine W.widen (k := 0) (n := 0) (by decide +kernel) (by decide +kernel) ?_
          have e9 : fT (fT (fT (fT (fT (fT (fT (fT (fT (fT (fT vi 17 (nI a2130)) 19 (nI f2130)) 20 sg130) 18 wd130) 21 s2130) 22 p2130) 74 (nI dN)) 75 (nI (wi - xe))) 76 (nI cR)) 77 ((vF 47) dN)) 52 (nI nd) = fT (fT (fT (fT (fT (fT (fT (fT (fT (fT vi 17 (nI a2130)) 19 (nI f2130)) 20 sg130) 18 wd130) 21 s2130) 22 p2130) 74 (nI dN)) 75 (nI (wi - xe))) 76 (nI cR)) 77 ((vF 47) dN) := ch_E vi [nI a2130, nI f2130, sg130, wd130, s2130, p2130, nI dN, nI (wi - xe), nI cR, (vF 47) dN, nI nd] [(52, 11), (77, 10), (76, 9), (75, 8), (74, 7), (22, 6), (21, 5), (18, 4), (20, 3), (19, 2), (17, 1)] [(77, 10), (76, 9), (75, 8), (74, 7), (22, 6), (21, 5), (18, 4), (20, 3), (19, 2), (17, 1)] [52] ⟨show nI nd = vi 52 from (by first | with_reducible rfl | with_reducible assumption | (symm; with_reducible assumption) | rfl | assumption | (symm; assumption) | (subst_vars; rfl)), trivial⟩ (by decide +kernel)
          have hP := wr_Pi e9 hP
          have hD := wr_Di e9 hD
          clear e9
          have e9 : fT (fT (fT (fT (fT (fT (fT (fT (fT (fT (fT (fT (fT (fT (fT vF 41 (vF 41)) 46 (vF 46)) 43 (vF 43)) 40 (vF 40)) 39 (vF 39)) 42 (vF 42)) 47 (vF 47)) 48 (vF 48)) 29 (vF 29)) 30 (vF 30)) 31 (vF 31)) 32 (vF 32)) 33 (vF 33)) 34 (vF 34)) 35 (vF 35) = vF := ch_E vF [] [(35, 0), (34, 0), (33, 0), (32, 0), (31, 0), (30, 0), (29, 0), (48, 0), (47, 0), (42, 0), (39, 0), (40, 0), (43, 0), (46, 0), (41, 0)] [] [] trivial (by decide +kernel)
          have hP := wr_PF e9 hP
          have hD := wr_DF e9 hD
          clear e9
          exact W.vret hx hb hr (fun t9_ ht hW => ⟨⟨(a2130, f2130, sg130, wd130, s2130, p2130, (vF 29), (vF 30), (vF 31), (vF 32), (vF 33), (vF 34), (vF 35), (vF 39), (vF 40), (vF 41), (vF 42), (vF 43), (vF 46), (vF 47), (vF 48), dN, (wi - xe), nd, (nI cR), ((vF 47) dN), gG), rfl, by (try dsimp only); exact ⟨f130_1, by omega, by rw [f130_0]; decide, Or.inr ⟨by (have e9 : wi - xe = cw := by omega); rw [e9]; exact RdS.pop (ex := xe) hK0.1 hBel hK0.2.1 (Nat.le_refl _) (fun q hq => ⟨rfl, rfl, rfl, rfl, rfl⟩) (by omega) (fun h8 => absurd rfl h8) (by decide) (Or.inr ⟨by decide, hcR.mono (by omega)⟩) (by omega) (by omega) (by omega) (by omega) hK0.2.2.2 (by omega), hK0.2.1.less (Nat.zero_le _)⟩, by omega⟩, by rw [ht]; exact hP, hD⟩, hS.F ht⟩) hS.2.2 dX12_readOne_314
        · refine lv_if_eq (tgt := 314) hx hb dX12_readOne_133 (by decide) (fun _ => ?_) (fun c9 => absurd (by decide) c9)
          refine W.widen (k := 0) (n := 0) (by decide +kernel) (by decide +kernel) ?_
          have e9 : fT (fT (fT (fT (fT (fT (fT (fT (fT (fT (fT vi 17 (nI a2130)) 19 (nI f2130)) 20 sg130) 18 wd130) 21 s2130) 22 p2130) 74 (nI (dN + 1))) 75 (nI wi)) 76 (vi 76)) 77 (vi 77)) 52 (nI nd) = fT (fT (fT (fT (fT (fT vi 17 (nI a2130)) 19 (nI f2130)) 20 sg130) 18 wd130) 21 s2130) 22 p2130 := ch_E vi [nI a2130, nI f2130, sg130, wd130, s2130, p2130, nI (dN + 1), nI wi, nI nd] [(52, 9), (77, 0), (76, 0), (75, 8), (74, 7), (22, 6), (21, 5), (18, 4), (20, 3), (19, 2), (17, 1)] [(22, 6), (21, 5), (18, 4), (20, 3), (19, 2), (17, 1)] [74, 75, 52] ⟨show nI (dN + 1) = vi 74 from (by first | with_reducible rfl | with_reducible assumption | (symm; with_reducible assumption) | rfl | assumption | (symm; assumption) | (subst_vars; rfl)), show nI wi = vi 75 from (by first | with_reducible rfl | with_reducible assumption | (symm; with_reducible assumption) | rfl | assumption | (symm; assumption) | (subst_vars; rfl)), show nI nd = vi 52 from (by first | with_reducible rfl | with_reducible assumption | (symm; with_reducible assumption) | rfl | assumption | (symm; assumption) | (subst_vars; rfl)), trivial⟩ (by decide +kernel)
          have hP := wr_Pi e9 hP
          have hD := wr_Di e9 hD
          clear e9
          have e9 : fT (fT (fT (fT (fT (fT (fT (fT (fT (fT (fT (fT (fT (fT (fT vF 41 (vF 41)) 46 (vF 46)) 43 (vF 43)) 40 (vF 40)) 39 (vF 39)) 42 (vF 42)) 47 (vF 47)) 48 (vF 48)) 29 (vF 29)) 30 (vF 30)) 31 (vF 31)) 32 (vF 32)) 33 (vF 33)) 34 (vF 34)) 35 (vF 35) = vF := ch_E vF [] [(35, 0), (34, 0), (33, 0), (32, 0), (31, 0), (30, 0), (29, 0), (48, 0), (47, 0), (42, 0), (39, 0), (40, 0), (43, 0), (46, 0), (41, 0)] [] [] trivial (by decide +kernel)
          have hP := wr_PF e9 hP
          have hD := wr_DF e9 hD
          clear e9
          exact W.vret hx hb hr (fun t9_ ht hW => ⟨⟨(a2130, f2130, sg130, wd130, s2130, p2130, (vF 29), (vF 30), (vF 31), (vF 32), (vF 33), (vF 34), (vF 35), (vF 39), (vF 40), (vF 41), (vF 42), (vF 43), (vF 46), (vF 47), (vF 48), (dN + 1), wi, nd, (vi 76), (vi 77), gG), rfl, by (try dsimp only); exact ⟨f130_1, by omega, by omega, Or.inl f130_0, by omega⟩, by rw [ht]; exact hP, hD⟩, hS.F ht⟩) hS.2.2 dX12_readOne_314
      · have ts_6_2 : ¬ (((vF 40) dN)).toInt = 2 := toI_neq s_6_2 rfl (by decide)
        by_cases s_6_3 : ((vF 40) dN) = 3
        · have ts_6_3 : (((vF 40) dN)).toInt = 3 := toI_eq s_6_3 rfl (by decide)
          refine lv_tableIn (off := 141) (tgt := 147) hx hb dX12_readOne_6 (by rw [s_6_3]; decide) (by rw [s_6_3]; decide) (by rw [s_6_3]; decide) (by decide) ?_
          obtain ⟨hq1, hq2, hq3, hq4, hq5, hq6, hw24, cR, hres, hcR⟩ := hTq.one3 s_6_3
          have hK0 := RdK.first (gl := gl) hRV (by omega)
          refine lv_aload_n hx hb dX12_readOne_147 rfl (lv_at hl 0 rfl) ?_
          refine va_get (D := (dC, dI)) (ci := 12) (v := .ref (a 41)) (C := RX12) (T := TX12) (N := 163) (fs := fM (vS a vi vj)) hx hb hts iwsRX12_readOne_in12 hown hK hP 0 rfl rfl 66 (by decide) (hts _ hm_r_X12_readOne_2) (fun _ h9 => h9) rfl dX12_readOne_148 ?_
          refine lv_iload_n hx hb dX12_readOne_151 rfl (lv_at hl 1 rfl) ?_
          refine lv_aload_n hx hb dX12_readOne_152 rfl (lv_at hl 0 rfl) ?_
          refine va_get (D := (dC, dI)) (ci := 12) (v := .int (vi 76)) (C := RX12) (T := TX12) (N := 163) (fs := fM (vS a vi vj)) hx hb hts iwsRX12_readOne_in12 hown hK hP 0 rfl rfl 76 (by decide) (hts _ hm_r_X12_readOne_1) (fun _ h9 => h9) rfl dX12_readOne_153 ?_
          refine lv_topi (fun y4 hy4 => ?_)
          obtain rfl : (nI cR) = y4 := (hy4.trans (hres)).symm
          refine va_iast (cA := k 41) (n := 120) (f := (vF 41)) hx hb hK hP hD hS 42 41 (WR_get 41 (by decide)) (TR_get 41 (by decide)) (vp_in_nI (show dN < 120 by omega) (by omega)) dX12_readOne_156 (fun H locs hP hD hS => ?_)
          have hP : va_P (dC, dI) vwCl (WR a k h0 vi vj (fT vF 41 (upd (vF 41) ((nI dN)).toNatClampNeg (nI cR))) vG) H := fz_w (WR_F 41 (by decide) _ rfl) hP
          have hD : va_D A (WR a k h0 vi vj (fT vF 41 (upd (vF 41) ((nI dN)).toNatClampNeg (nI cR))) vG) := fz_wD (WR_F 41 (by decide) _ rfl) hD
          refine lv_aload_n hx hb dX12_readOne_157 rfl (lv_at hl 0 rfl) ?_
          refine va_get (D := (dC, dI)) (ci := 12) (v := .ref (a 46)) (C := RX12) (T := TX12) (N := 163) (fs := fM (vS a vi vj)) hx hb hts iwsRX12_readOne_in12 hown hK hP 0 rfl rfl 71 (by decide) (hts _ hm_r_X12_readOne_3) (fun _ h9 => h9) rfl dX12_readOne_158 ?_
          refine lv_iload_n hx hb dX12_readOne_161 rfl (lv_at hl 1 rfl) ?_
          refine lv_aload_n hx hb dX12_readOne_162 rfl (lv_at hl 0 rfl) ?_
          refine va_get (D := (dC, dI)) (ci := 12) (v := .int (vi 77)) (C := RX12) (T := TX12) (N := 163) (fs := fM (vS a vi vj)) hx hb hts iwsRX12_readOne_in12 hown hK hP 0 rfl rfl 77 (by decide) (hts _ hm_r_X12_readOne_4) (fun _ h9 => h9) rfl dX12_readOne_163 ?_
          refine va_iast (cA := k 46) (n := 120) (f := (vF 46)) hx hb hK hP hD hS 47 46 (WR_get 46 (by decide)) (TR_get 46 (by decide)) (vp_in_nI (show dN < 120 by omega) (by omega)) dX12_readOne_166 (fun H locs hP hD hS => ?_)
          have hP : va_P (dC, dI) vwCl (WR a k h0 vi vj (fT (fT vF 41 (upd (vF 41) ((nI dN)).toNatClampNeg (nI cR))) 46 (upd (vF 46) ((nI dN)).toNatClampNeg (vi 77))) vG) H := fz_w (WR_F 46 (by decide) _ rfl) hP
          have hD : va_D A (WR a k h0 vi vj (fT (fT vF 41 (upd (vF 41) ((nI dN)).toNatClampNeg (nI cR))) 46 (upd (vF 46) ((nI dN)).toNatClampNeg (vi 77))) vG) := fz_wD (WR_F 46 (by decide) _ rfl) hD
          refine lv_aload_n hx hb dX12_readOne_167 rfl (lv_at hl 0 rfl) ?_
          refine va_get (D := (dC, dI)) (ci := 12) (v := .int (vi 18)) (C := RX12) (T := TX12) (N := 163) (fs := fM (vS a vi vj)) hx hb hts iwsRX12_readOne_in12 hown hK hP 0 rfl rfl 18 (by decide) (hts (.fieldLink RX12 494 "OptimaWorksModel" "word" "I") (by decide +kernel)) (fun _ h9 => h9) rfl dX12_readOne_168 ?_
          refine lv_iconst (v := 4) hx hb dX12_readOne_171 (by decide) ?_
          refine lv_icmp_ne (tgt := 229) hx hb dX12_readOne_172 (by decide) (fun c_172 => ?_) (fun c_172 => ?_)
          · have t_172 : ((vi 18)).toInt ≠ 4 := toI_ne c_172 rfl (by decide)
            refine lv_aload_n hx hb dX12_readOne_229 rfl (lv_at hl 0 rfl) ?_
            have hFc := allFree hD hS hA
            refine va_callv (va_runV (As := []) (rest := []) ⟨hx, hb, hml, hown, hts⟩ (r_X12_wrong l dC dI a k h0 vi vj (fT (fT vF 41 (upd (vF 41) ((nI dN)).toNatClampNeg (nI cR))) 46 (upd (vF 46) ((nI dN)).toNatClampNeg (vi 77))) vG H.size) (cwV 0 hts gwsRX12_readOne_7 rfl rfl rfl hd_yX12_wrong_RX12 (by decide +kernel)) (fz_pre (va_recv hK hP (ci := 12) (q0 := 0) rfl rfl) hP hK hD) rfl rfl hl.1 rfl (lv_room (Nat.le_of_ble_eq_true rfl)) dX12_readOne_230 (by decide +kernel)) hS (fun q _ h => hFc q h) hFc (fun u t9_ H locs ht hvm hw9 hB9 hz1 hk1 hS => ?_)
            revert u hw9 hB9
            refine fz_p2 ?_
            intro s2230 p2230 hw9 hB9
            try dsimp only at hw9 hB9
            have hP : va_P (dC, dI) vwCl (WR a k h0 (fT (fT vi 21 s2230) 22 p2230) vj (fT (fT vF 41 (upd (vF 41) ((nI dN)).toNatClampNeg (nI cR))) 46 (upd (vF 46) ((nI dN)).toNatClampNeg (vi 77))) vG) H := fz_P ht hB9.1
            have hD := fz_sd hP (hB9.2.weaken (fun _ q _ h => hFc q.1 h)) rfl
            revert hw9
            refine fz_a2 ?_
            intro f230_0 f230_1
            have f230_0 : (0 < (vi 21).toInt ∧ s2230 = (vi 21) ∧ p2230 = (vi 22)) ∨ (¬ 0 < (vi 21).toInt ∧ (s2230 = 1 ∨ s2230 = 2) ∧ p2230 = (vi 19)) := f230_0
            refine W.widen (k := 0) (n := 0) (by decide +kernel) (by decide +kernel) ?_
            have e9 : fT (fT (fT (fT (fT (fT (fT (fT (fT (fT (fT vi 17 (nI an)) 19 (nI fn)) 20 (vi 20)) 18 (vi 18)) 21 s2230) 22 p2230) 74 (nI (dN + 1))) 75 (nI wi)) 76 (vi 76)) 77 (vi 77)) 52 (nI nd) = fT (fT vi 21 s2230) 22 p2230 := ch_E vi [nI an, nI fn, s2230, p2230, nI (dN + 1), nI wi, nI nd] [(52, 7), (77, 0), (76, 0), (75, 6), (74, 5), (22, 4), (21, 3), (18, 0), (20, 0), (19, 2), (17, 1)] [(22, 4), (21, 3)] [17, 19, 74, 75, 52] ⟨show nI an = vi 17 from (by first | with_reducible rfl | with_reducible assumption | (symm; with_reducible assumption) | rfl | assumption | (symm; assumption) | (subst_vars; rfl)), show nI fn = vi 19 from (by first | with_reducible rfl | with_reducible assumption | (symm; with_reducible assumption) | rfl | assumption | (symm; assumption) | (subst_vars; rfl)), show nI (dN + 1) = vi 74 from (by first | with_reducible rfl | with_reducible assumption | (symm; with_reducible assumption) | rfl | assumption | (symm; assumption) | (subst_vars; rfl)), show nI wi = vi 75 from (by first | with_reducible rfl | with_reducible assumption | (symm; with_reducible assumption) | rfl | assumption | (symm; assumption) | (subst_vars; rfl)), show nI nd = vi 52 from (by first | with_reducible rfl | with_reducible assumption | (symm; with_reducible assumption) | rfl | assumption | (symm; assumption) | (subst_vars; rfl)), trivial⟩ (by decide +kernel)
            have hP := wr_Pi e9 hP
            have hD := wr_Di e9 hD
            clear e9
            have e9 : fT (fT (fT (fT (fT (fT (fT (fT (fT (fT (fT (fT (fT (fT (fT vF 41 (upd (vF 41) ((nI dN)).toNatClampNeg (nI cR))) 46 (upd (vF 46) ((nI dN)).toNatClampNeg (vi 77))) 43 (vF 43)) 40 (vF 40)) 39 (vF 39)) 42 (vF 42)) 47 (vF 47)) 48 (vF 48)) 29 (vF 29)) 30 (vF 30)) 31 (vF 31)) 32 (vF 32)) 33 (vF 33)) 34 (vF 34)) 35 (vF 35) = fT (fT vF 41 (upd (vF 41) ((nI dN)).toNatClampNeg (nI cR))) 46 (upd (vF 46) ((nI dN)).toNatClampNeg (vi 77)) := ch_E vF [upd (vF 41) ((nI dN)).toNatClampNeg (nI cR), upd (vF 46) ((nI dN)).toNatClampNeg (vi 77)] [(35, 0), (34, 0), (33, 0), (32, 0), (31, 0), (30, 0), (29, 0), (48, 0), (47, 0), (42, 0), (39, 0), (40, 0), (43, 0), (46, 2), (41, 1)] [(46, 2), (41, 1)] [] trivial (by decide +kernel)
            have hP := wr_PF e9 hP
            have hD := wr_DF e9 hD
            clear e9
            exact W.vret hx hb hr (fun t9_ ht hW => ⟨⟨(an, fn, (vi 20), (vi 18), s2230, p2230, (vF 29), (vF 30), (vF 31), (vF 32), (vF 33), (vF 34), (vF 35), (vF 39), (vF 40), (upd (vF 41) ((nI dN)).toNatClampNeg (nI cR)), (vF 42), (vF 43), (upd (vF 46) ((nI dN)).toNatClampNeg (vi 77)), (vF 47), (vF 48), (dN + 1), wi, nd, (vi 76), (vi 77), gG), rfl, by (try dsimp only); exact ⟨hLx, by omega, by omega, Or.inl f230_1, by omega⟩, by rw [ht]; exact hP, hD⟩, hS.F ht⟩) hS.2.2 dX12_readOne_233
          · have t_172 : ((vi 18)).toInt = 4 := toI_nne c_172 rfl (by decide)
            refine lv_aload_n hx hb dX12_readOne_175 rfl (lv_at hl 0 rfl) ?_
            refine va_get (D := (dC, dI)) (ci := 12) (v := .int (vi 20)) (C := RX12) (T := TX12) (N := 163) (fs := fM (vS a vi vj)) hx hb hts iwsRX12_readOne_in12 hown hK hP 0 rfl rfl 20 (by decide) (hts _ hm_r_X12_readOne_5) (fun _ h9 => h9) rfl dX12_readOne_176 ?_
            refine lv_bipush (v := 76) hx hb dX12_readOne_179 (by decide) ?_
            refine lv_icmp_eq (tgt := 234) hx hb dX12_readOne_181 (by decide) (fun c_181 => ?_) (fun c_181 => ?_)
            · have t_181 : ((vi 20)).toInt = 76 := toI_eq c_181 rfl (by decide)
              have hfl : fn < an := hLx.2.2.1.resolve_left (fun h => absurd (show (vi 18).toInt = 0 by rw [h]; decide) (by omega))
              refine lv_aload_n hx hb dX12_readOne_234 rfl (lv_at hl 0 rfl) ?_
              refine va_get (D := (dC, dI)) (ci := 12) (v := .ref (a 43)) (C := RX12) (T := TX12) (N := 163) (fs := fM (vS a vi vj)) hx hb hts iwsRX12_readOne_in12 hown hK hP 0 rfl rfl 68 (by decide) (hts _ hm_r_X12_readOne_6) (fun _ h9 => h9) rfl dX12_readOne_235 ?_
              refine lv_iload_n hx hb dX12_readOne_238 rfl (lv_at hl 1 rfl) ?_
              refine lv_aload_n hx hb dX12_readOne_239 rfl (lv_at hl 0 rfl) ?_
              refine va_get (D := (dC, dI)) (ci := 12) (v := .int (vi 20)) (C := RX12) (T := TX12) (N := 163) (fs := fM (vS a vi vj)) hx hb hts iwsRX12_readOne_in12 hown hK hP 0 rfl rfl 20 (by decide) (hts _ hm_r_X12_readOne_5) (fun _ h9 => h9) rfl dX12_readOne_240 ?_
              refine va_iast (cA := k 43) (n := 120) (f := (vF 43)) hx hb hK hP hD hS 44 43 (WR_get 43 (by decide)) (TR_get 43 (by decide)) (vp_in_nI (show dN < 120 by omega) (by omega)) dX12_readOne_243 (fun H locs hP hD hS => ?_)
              have hP : va_P (dC, dI) vwCl (WR a k h0 vi vj (fT (fT (fT vF 41 (upd (vF 41) ((nI dN)).toNatClampNeg (nI cR))) 46 (upd (vF 46) ((nI dN)).toNatClampNeg (vi 77))) 43 (upd (vF 43) ((nI dN)).toNatClampNeg (vi 20))) vG) H := fz_w (WR_F 43 (by decide) _ rfl) hP
              have hD : va_D A (WR a k h0 vi vj (fT (fT (fT vF 41 (upd (vF 41) ((nI dN)).toNatClampNeg (nI cR))) 46 (upd (vF 46) ((nI dN)).toNatClampNeg (vi 77))) 43 (upd (vF 43) ((nI dN)).toNatClampNeg (vi 20))) vG) := fz_wD (WR_F 43 (by decide) _ rfl) hD
              refine lv_aload_n hx hb dX12_readOne_244 rfl (lv_at hl 0 rfl) ?_
              have hFc := allFree hD hS hA
              refine va_callv (va_runV (As := []) (rest := []) ⟨hx, hb, hml, hown, hts⟩ (r_X12_next l dC dI a k h0 vi vj (fT (fT (fT vF 41 (upd (vF 41) ((nI dN)).toNatClampNeg (nI cR))) 46 (upd (vF 46) ((nI dN)).toNatClampNeg (vi 77))) 43 (upd (vF 43) ((nI dN)).toNatClampNeg (vi 20))) vG tp an hTp (by first | with_reducible assumption | decide | omega | rfl | assumption) ha0 (by first | with_reducible assumption | decide | omega | rfl | assumption) H.size) (cwV 0 hts gwsRX12_readOne_1 rfl rfl rfl hd_yX12_next_RX12 (by decide +kernel)) (fz_preE (va_recv hK hP (ci := 12) (q0 := 0) rfl rfl) hP hK hD (fun a U g mk qE => qE.same rfl) (fun U hU9 hW => by rw [hU9]; exact (((hE : StrA A s s.heap).kept hS.2.1).narrow (fun q h => hFc q h)).warm hW)) rfl rfl hl.1 rfl (lv_room (Nat.le_of_ble_eq_true rfl)) dX12_readOne_245 (by decide +kernel)) hS (fun q _ h => hFc q h) hFc (fun u t9_ H locs ht hvm hw9 hB9 hz1 hk1 hS => ?_)
              revert u hw9 hB9
              refine fz_p4 ?_
              intro a2245 f2245 sg245 wd245 hw9 hB9
              try dsimp only at hw9 hB9
              have hP : va_P (dC, dI) vwCl (WR a k h0 (fT (fT (fT (fT vi 17 (nI a2245)) 19 (nI f2245)) 20 sg245) 18 wd245) vj (fT (fT (fT vF 41 (upd (vF 41) ((nI dN)).toNatClampNeg (nI cR))) 46 (upd (vF 46) ((nI dN)).toNatClampNeg (vi 77))) 43 (upd (vF 43) ((nI dN)).toNatClampNeg (vi 20))) vG) H := fz_P ht hB9.1
              have hD := fz_sd hP (hB9.2.weaken (fun _ q _ h => hFc q.1 h)) rfl
              revert hw9
              refine fz_a2 ?_
              intro f245_0 f245_1
              have hl1 := f245_0.1
              have hl2 := f245_0.2.1
              refine lv_aload_n hx hb dX12_readOne_248 rfl (lv_at hl 0 rfl) ?_
              refine va_get (D := (dC, dI)) (ci := 12) (v := .ref (a 40)) (C := RX12) (T := TX12) (N := 163) (fs := fM (vS a (fT (fT (fT (fT vi 17 (nI a2245)) 19 (nI f2245)) 20 sg245) 18 wd245) vj)) hx hb hts iwsRX12_readOne_in12 hown hK hP 0 rfl rfl 65 (by decide) (hts _ hm_r_X12_readOne_0) (fun _ h9 => h9) rfl dX12_readOne_249 ?_
              refine lv_iload_n hx hb dX12_readOne_252 rfl (lv_at hl 1 rfl) ?_
              refine lv_iconst (v := 4) hx hb dX12_readOne_253 (by decide) ?_
              refine va_iast (cA := k 40) (n := 120) (f := (vF 40)) hx hb hK hP hD hS 41 40 (WR_get 40 (by decide)) (TR_get 40 (by decide)) (vp_in_nI (show dN < 120 by omega) (by omega)) dX12_readOne_254 (fun H locs hP hD hS => ?_)
              have hP : va_P (dC, dI) vwCl (WR a k h0 (fT (fT (fT (fT vi 17 (nI a2245)) 19 (nI f2245)) 20 sg245) 18 wd245) vj (fT (fT (fT (fT vF 41 (upd (vF 41) ((nI dN)).toNatClampNeg (nI cR))) 46 (upd (vF 46) ((nI dN)).toNatClampNeg (vi 77))) 43 (upd (vF 43) ((nI dN)).toNatClampNeg (vi 20))) 40 (upd (vF 40) ((nI dN)).toNatClampNeg 4)) vG) H := fz_w (WR_F 40 (by decide) _ rfl) hP
              have hD : va_D A (WR a k h0 (fT (fT (fT (fT vi 17 (nI a2245)) 19 (nI f2245)) 20 sg245) 18 wd245) vj (fT (fT (fT (fT vF 41 (upd (vF 41) ((nI dN)).toNatClampNeg (nI cR))) 46 (upd (vF 46) ((nI dN)).toNatClampNeg (vi 77))) 43 (upd (vF 43) ((nI dN)).toNatClampNeg (vi 20))) 40 (upd (vF 40) ((nI dN)).toNatClampNeg 4)) vG) := fz_wD (WR_F 40 (by decide) _ rfl) hD
              refine lv_aload_n hx hb dX12_readOne_255 rfl (lv_at hl 0 rfl) ?_
              refine lv_iconst (v := 0) hx hb dX12_readOne_256 (by decide) ?_
              have hFc := allFree hD hS hA
              refine va_callv (va_runV (As := [.int 0]) (rest := []) ⟨hx, hb, hml, hown, hts⟩ (r_X12_begin1 l dC dI a k h0 (fT (fT (fT (fT vi 17 (nI a2245)) 19 (nI f2245)) 20 sg245) 18 wd245) vj (fT (fT (fT (fT vF 41 (upd (vF 41) ((nI dN)).toNatClampNeg (nI cR))) 46 (upd (vF 46) ((nI dN)).toNatClampNeg (vi 77))) 43 (upd (vF 43) ((nI dN)).toNatClampNeg (vi 20))) 40 (upd (vF 40) ((nI dN)).toNatClampNeg 4)) vG 0 tp a2245 f2245 nm se pa va bd (dN + 1) wi hTp (by first | with_reducible assumption | decide | omega | rfl | assumption) rfl rfl (f245_0) (by first | with_reducible assumption | decide | omega | rfl | assumption) hnm (by first | with_reducible assumption | decide | omega | rfl | assumption) (by first | with_reducible assumption | decide | omega | rfl | assumption) (by first | with_reducible assumption | decide | omega | rfl | assumption) hbd (by first | with_reducible assumption | decide | omega | rfl | assumption) (by first | with_reducible assumption | decide | omega | rfl | assumption) (hdp) (by first | with_reducible assumption | decide | omega | rfl | assumption) hwi (by first | with_reducible assumption | decide | omega | rfl | assumption) H.size) (cwV 1 hts gwsRX12_readOne_2 rfl rfl rfl hd_yX12_begin1_RX12 (by decide +kernel)) (fz_pre (va_recv hK hP (ci := 12) (q0 := 0) rfl rfl) hP hK hD) rfl rfl hl.1 rfl (lv_room (Nat.le_of_ble_eq_true rfl)) dX12_readOne_257 (by decide +kernel)) hS (fun q _ h => hFc q h) hFc (fun u t9_ H locs ht hvm hw9 hB9 hz1 hk1 hS => ?_)
              revert u hw9 hB9
              refine fz_p10 ?_
              intro s2257 p2257 g39257 g40257 g41257 g42257 g47257 g48257 d2257 w2257 hw9 hB9
              try dsimp only at hw9 hB9
              have e9F : fT (fT (fT (fT (fT (fT (fT (fT vF 41 g41257) 46 (upd (vF 46) ((nI dN)).toNatClampNeg (vi 77))) 43 (upd (vF 43) ((nI dN)).toNatClampNeg (vi 20))) 40 g40257) 39 g39257) 42 g42257) 47 g47257) 48 g48257 = fT (fT (fT (fT (fT (fT (fT (fT (fT (fT vF 41 (upd (vF 41) ((nI dN)).toNatClampNeg (nI cR))) 46 (upd (vF 46) ((nI dN)).toNatClampNeg (vi 77))) 43 (upd (vF 43) ((nI dN)).toNatClampNeg (vi 20))) 40 (upd (vF 40) ((nI dN)).toNatClampNeg 4)) 39 g39257) 40 g40257) 41 g41257) 42 g42257) 47 g47257) 48 g48257 := ch_E vF [g41257, upd (vF 46) ((nI dN)).toNatClampNeg (vi 77), upd (vF 43) ((nI dN)).toNatClampNeg (vi 20), g40257, g39257, g42257, g47257, g48257, upd (vF 41) ((nI dN)).toNatClampNeg (nI cR), upd (vF 40) ((nI dN)).toNatClampNeg 4] [(48, 8), (47, 7), (42, 6), (39, 5), (40, 4), (43, 3), (46, 2), (41, 1)] [(48, 8), (47, 7), (42, 6), (41, 1), (40, 4), (39, 5), (40, 10), (43, 3), (46, 2), (41, 9)] [] trivial (by decide +kernel)
              have hP := wr_PF e9F (fz_P ht hB9.1)
              have hD := wr_DF e9F (hB9.2.weaken (fun _ q _ h => hFc q.1 h))
              clear e9F
              revert hw9
              refine fz_a4 ?_
              intro f257_0 f257_1 f257_2 f257_3
              have f257_1 : 0 < (s2257).toInt ∨ (s2257 = (vi 21) ∧ BgO 0 wd245 sg245 g39257 g40257 g41257 g42257 g48257 (dN + 1) wi d2257 w2257) := f257_1
              have f257_2 : FrmO (dN + 1) (vF 39) (upd (vF 40) ((nI dN)).toNatClampNeg 4) (upd (vF 41) ((nI dN)).toNatClampNeg (nI cR)) (vF 42) (vF 48) g39257 g40257 g41257 g42257 g48257 := f257_2
              refine lv_goto (tgt := 314) hx hb dX12_readOne_260 (by decide) ?_
              refine W.widen (k := 0) (n := 0) (by decide +kernel) (by decide +kernel) ?_
              have e9 : fT (fT (fT (fT (fT (fT (fT (fT (fT (fT (fT vi 17 (nI a2245)) 19 (nI f2245)) 20 sg245) 18 wd245) 21 s2257) 22 p2257) 74 (nI d2257)) 75 (nI w2257)) 76 (vi 76)) 77 (vi 77)) 52 (nI nd) = fT (fT (fT (fT (fT (fT (fT (fT vi 17 (nI a2245)) 19 (nI f2245)) 20 sg245) 18 wd245) 75 (nI w2257)) 74 (nI d2257)) 21 s2257) 22 p2257 := ch_E vi [nI a2245, nI f2245, sg245, wd245, s2257, p2257, nI d2257, nI w2257, nI nd] [(52, 9), (77, 0), (76, 0), (75, 8), (74, 7), (22, 6), (21, 5), (18, 4), (20, 3), (19, 2), (17, 1)] [(22, 6), (21, 5), (74, 7), (75, 8), (18, 4), (20, 3), (19, 2), (17, 1)] [52] ⟨show nI nd = vi 52 from (by first | with_reducible rfl | with_reducible assumption | (symm; with_reducible assumption) | rfl | assumption | (symm; assumption) | (subst_vars; rfl)), trivial⟩ (by decide +kernel)
              have hP := wr_Pi e9 hP
              have hD := wr_Di e9 hD
              clear e9
              have e9 : fT (fT (fT (fT (fT (fT (fT (fT (fT (fT (fT (fT (fT (fT (fT vF 41 g41257) 46 (upd (vF 46) ((nI dN)).toNatClampNeg (vi 77))) 43 (upd (vF 43) ((nI dN)).toNatClampNeg (vi 20))) 40 g40257) 39 g39257) 42 g42257) 47 g47257) 48 g48257) 29 (vF 29)) 30 (vF 30)) 31 (vF 31)) 32 (vF 32)) 33 (vF 33)) 34 (vF 34)) 35 (vF 35) = fT (fT (fT (fT (fT (fT (fT (fT vF 41 g41257) 46 (upd (vF 46) ((nI dN)).toNatClampNeg (vi 77))) 43 (upd (vF 43) ((nI dN)).toNatClampNeg (vi 20))) 40 g40257) 39 g39257) 42 g42257) 47 g47257) 48 g48257 := ch_E vF [g41257, upd (vF 46) ((nI dN)).toNatClampNeg (vi 77), upd (vF 43) ((nI dN)).toNatClampNeg (vi 20), g40257, g39257, g42257, g47257, g48257] [(35, 0), (34, 0), (33, 0), (32, 0), (31, 0), (30, 0), (29, 0), (48, 8), (47, 7), (42, 6), (39, 5), (40, 4), (43, 3), (46, 2), (41, 1)] [(48, 8), (47, 7), (42, 6), (39, 5), (40, 4), (43, 3), (46, 2), (41, 1)] [] trivial (by decide +kernel)
              have hP := wr_PF e9 hP
              have hD := wr_DF e9 hD
              clear e9
              exact W.vret hx hb hr (fun t9_ ht hW => ⟨⟨(a2245, f2245, sg245, wd245, s2257, p2257, (vF 29), (vF 30), (vF 31), (vF 32), (vF 33), (vF 34), (vF 35), g39257, g40257, g41257, g42257, (upd (vF 43) ((nI dN)).toNatClampNeg (vi 20)), (upd (vF 46) ((nI dN)).toNatClampNeg (vi 77)), g47257, g48257, d2257, w2257, nd, (vi 76), (vi 77), gG), rfl, by (try dsimp only); exact ⟨f245_0, by omega, f257_0, by rcases f257_1 with h9 | h9; (exact Or.inl h9); (exact Or.inr ⟨RdS.push (gm := gl) hK0.1 hBel hK0.2.1 (Nat.le_refl _) (fun q hq => ⟨rfl, by rw [upd_at (by omega), if_neg (by omega)], by rw [upd_at (by omega), if_neg (by omega)], rfl, rfl⟩) h39 (by decide) h48 (by omega) ⟨⟨by omega, fun h8 => absurd rfl h8, fun h8 => absurd h8 (by decide), Nat.le_refl _⟩, Or.inr (Or.inr (Or.inr (Or.inr (Or.inr (Or.inr (Or.inr (Or.inr (Or.inr (Or.inr (Or.inr (⟨rfl, rfl, by rw [upd_at (by omega), if_pos rfl], rfl, rfl, rfl, cR, by rw [upd_at (by omega), if_pos rfl], hcR.mono (by omega)⟩)))))))))))⟩ f257_2 (by rw [← hwc]; exact h9.2) (show (0 : Int32) = nI 0 by decide) (by decide) (by omega) (by omega) (by omega) (by omega) (by omega) (by show 10 * (4000 - _) + dN + 1 + 3 ≤ mM - 1; omega), hK0.2.1.less (Nat.zero_le _)⟩), by omega⟩, by rw [ht]; exact hP, hD⟩, hS.F ht⟩) hS.2.2 dX12_readOne_314
            · have t_181 : ¬ ((vi 20)).toInt = 76 := toI_neq c_181 rfl (by decide)
              refine lv_aload_n hx hb dX12_readOne_184 rfl (lv_at hl 0 rfl) ?_
              refine va_get (D := (dC, dI)) (ci := 12) (v := .int (vi 20)) (C := RX12) (T := TX12) (N := 163) (fs := fM (vS a vi vj)) hx hb hts iwsRX12_readOne_in12 hown hK hP 0 rfl rfl 20 (by decide) (hts _ hm_r_X12_readOne_5) (fun _ h9 => h9) rfl dX12_readOne_185 ?_
              refine lv_bipush (v := 71) hx hb dX12_readOne_188 (by decide) ?_
              refine lv_icmp_eq (tgt := 234) hx hb dX12_readOne_190 (by decide) (fun c_190 => ?_) (fun c_190 => ?_)
              · have t_190 : ((vi 20)).toInt = 71 := toI_eq c_190 rfl (by decide)
                have hfl : fn < an := hLx.2.2.1.resolve_left (fun h => absurd (show (vi 18).toInt = 0 by rw [h]; decide) (by omega))
                refine lv_aload_n hx hb dX12_readOne_234 rfl (lv_at hl 0 rfl) ?_
                refine va_get (D := (dC, dI)) (ci := 12) (v := .ref (a 43)) (C := RX12) (T := TX12) (N := 163) (fs := fM (vS a vi vj)) hx hb hts iwsRX12_readOne_in12 hown hK hP 0 rfl rfl 68 (by decide) (hts _ hm_r_X12_readOne_6) (fun _ h9 => h9) rfl dX12_readOne_235 ?_
                refine lv_iload_n hx hb dX12_readOne_238 rfl (lv_at hl 1 rfl) ?_
                refine lv_aload_n hx hb dX12_readOne_239 rfl (lv_at hl 0 rfl) ?_
                refine va_get (D := (dC, dI)) (ci := 12) (v := .int (vi 20)) (C := RX12) (T := TX12) (N := 163) (fs := fM (vS a vi vj)) hx hb hts iwsRX12_readOne_in12 hown hK hP 0 rfl rfl 20 (by decide) (hts _ hm_r_X12_readOne_5) (fun _ h9 => h9) rfl dX12_readOne_240 ?_
                refine va_iast (cA := k 43) (n := 120) (f := (vF 43)) hx hb hK hP hD hS 44 43 (WR_get 43 (by decide)) (TR_get 43 (by decide)) (vp_in_nI (show dN < 120 by omega) (by omega)) dX12_readOne_243 (fun H locs hP hD hS => ?_)
                have hP : va_P (dC, dI) vwCl (WR a k h0 vi vj (fT (fT (fT vF 41 (upd (vF 41) ((nI dN)).toNatClampNeg (nI cR))) 46 (upd (vF 46) ((nI dN)).toNatClampNeg (vi 77))) 43 (upd (vF 43) ((nI dN)).toNatClampNeg (vi 20))) vG) H := fz_w (WR_F 43 (by decide) _ rfl) hP
                have hD : va_D A (WR a k h0 vi vj (fT (fT (fT vF 41 (upd (vF 41) ((nI dN)).toNatClampNeg (nI cR))) 46 (upd (vF 46) ((nI dN)).toNatClampNeg (vi 77))) 43 (upd (vF 43) ((nI dN)).toNatClampNeg (vi 20))) vG) := fz_wD (WR_F 43 (by decide) _ rfl) hD
                refine lv_aload_n hx hb dX12_readOne_244 rfl (lv_at hl 0 rfl) ?_
                have hFc := allFree hD hS hA
                refine va_callv (va_runV (As := []) (rest := []) ⟨hx, hb, hml, hown, hts⟩ (r_X12_next l dC dI a k h0 vi vj (fT (fT (fT vF 41 (upd (vF 41) ((nI dN)).toNatClampNeg (nI cR))) 46 (upd (vF 46) ((nI dN)).toNatClampNeg (vi 77))) 43 (upd (vF 43) ((nI dN)).toNatClampNeg (vi 20))) vG tp an hTp (by first | with_reducible assumption | decide | omega | rfl | assumption) ha0 (by first | with_reducible assumption | decide | omega | rfl | assumption) H.size) (cwV 0 hts gwsRX12_readOne_1 rfl rfl rfl hd_yX12_next_RX12 (by decide +kernel)) (fz_preE (va_recv hK hP (ci := 12) (q0 := 0) rfl rfl) hP hK hD (fun a U g mk qE => qE.same rfl) (fun U hU9 hW => by rw [hU9]; exact (((hE : StrA A s s.heap).kept hS.2.1).narrow (fun q h => hFc q h)).warm hW)) rfl rfl hl.1 rfl (lv_room (Nat.le_of_ble_eq_true rfl)) dX12_readOne_245 (by decide +kernel)) hS (fun q _ h => hFc q h) hFc (fun u t9_ H locs ht hvm hw9 hB9 hz1 hk1 hS => ?_)
                revert u hw9 hB9
                refine fz_p4 ?_
                intro a2245_1 f2245_1 sg245_1 wd245_1 hw9 hB9
                try dsimp only at hw9 hB9
                have hP : va_P (dC, dI) vwCl (WR a k h0 (fT (fT (fT (fT vi 17 (nI a2245_1)) 19 (nI f2245_1)) 20 sg245_1) 18 wd245_1) vj (fT (fT (fT vF 41 (upd (vF 41) ((nI dN)).toNatClampNeg (nI cR))) 46 (upd (vF 46) ((nI dN)).toNatClampNeg (vi 77))) 43 (upd (vF 43) ((nI dN)).toNatClampNeg (vi 20))) vG) H := fz_P ht hB9.1
                have hD := fz_sd hP (hB9.2.weaken (fun _ q _ h => hFc q.1 h)) rfl
                revert hw9
                refine fz_a2 ?_
                intro f245_1_0 f245_1_1
                have hl1 := f245_1_0.1
                have hl2 := f245_1_0.2.1
                refine lv_aload_n hx hb dX12_readOne_248 rfl (lv_at hl 0 rfl) ?_
                refine va_get (D := (dC, dI)) (ci := 12) (v := .ref (a 40)) (C := RX12) (T := TX12) (N := 163) (fs := fM (vS a (fT (fT (fT (fT vi 17 (nI a2245_1)) 19 (nI f2245_1)) 20 sg245_1) 18 wd245_1) vj)) hx hb hts iwsRX12_readOne_in12 hown hK hP 0 rfl rfl 65 (by decide) (hts _ hm_r_X12_readOne_0) (fun _ h9 => h9) rfl dX12_readOne_249 ?_
                refine lv_iload_n hx hb dX12_readOne_252 rfl (lv_at hl 1 rfl) ?_
                refine lv_iconst (v := 4) hx hb dX12_readOne_253 (by decide) ?_
                refine va_iast (cA := k 40) (n := 120) (f := (vF 40)) hx hb hK hP hD hS 41 40 (WR_get 40 (by decide)) (TR_get 40 (by decide)) (vp_in_nI (show dN < 120 by omega) (by omega)) dX12_readOne_254 (fun H locs hP hD hS => ?_)
                have hP : va_P (dC, dI) vwCl (WR a k h0 (fT (fT (fT (fT vi 17 (nI a2245_1)) 19 (nI f2245_1)) 20 sg245_1) 18 wd245_1) vj (fT (fT (fT (fT vF 41 (upd (vF 41) ((nI dN)).toNatClampNeg (nI cR))) 46 (upd (vF 46) ((nI dN)).toNatClampNeg (vi 77))) 43 (upd (vF 43) ((nI dN)).toNatClampNeg (vi 20))) 40 (upd (vF 40) ((nI dN)).toNatClampNeg 4)) vG) H := fz_w (WR_F 40 (by decide) _ rfl) hP
                have hD : va_D A (WR a k h0 (fT (fT (fT (fT vi 17 (nI a2245_1)) 19 (nI f2245_1)) 20 sg245_1) 18 wd245_1) vj (fT (fT (fT (fT vF 41 (upd (vF 41) ((nI dN)).toNatClampNeg (nI cR))) 46 (upd (vF 46) ((nI dN)).toNatClampNeg (vi 77))) 43 (upd (vF 43) ((nI dN)).toNatClampNeg (vi 20))) 40 (upd (vF 40) ((nI dN)).toNatClampNeg 4)) vG) := fz_wD (WR_F 40 (by decide) _ rfl) hD
                refine lv_aload_n hx hb dX12_readOne_255 rfl (lv_at hl 0 rfl) ?_
                refine lv_iconst (v := 0) hx hb dX12_readOne_256 (by decide) ?_
                have hFc := allFree hD hS hA
                refine va_callv (va_runV (As := [.int 0]) (rest := []) ⟨hx, hb, hml, hown, hts⟩ (r_X12_begin1 l dC dI a k h0 (fT (fT (fT (fT vi 17 (nI a2245_1)) 19 (nI f2245_1)) 20 sg245_1) 18 wd245_1) vj (fT (fT (fT (fT vF 41 (upd (vF 41) ((nI dN)).toNatClampNeg (nI cR))) 46 (upd (vF 46) ((nI dN)).toNatClampNeg (vi 77))) 43 (upd (vF 43) ((nI dN)).toNatClampNeg (vi 20))) 40 (upd (vF 40) ((nI dN)).toNatClampNeg 4)) vG 0 tp a2245_1 f2245_1 nm se pa va bd (dN + 1) wi hTp (by first | with_reducible assumption | decide | omega | rfl | assumption) rfl rfl (f245_1_0) (by first | with_reducible assumption | decide | omega | rfl | assumption) hnm (by first | with_reducible assumption | decide | omega | rfl | assumption) (by first | with_reducible assumption | decide | omega | rfl | assumption) (by first | with_reducible assumption | decide | omega | rfl | assumption) hbd (by first | with_reducible assumption | decide | omega | rfl | assumption) (by first | with_reducible assumption | decide | omega | rfl | assumption) (hdp) (by first | with_reducible assumption | decide | omega | rfl | assumption) hwi (by first | with_reducible assumption | decide | omega | rfl | assumption) H.size) (cwV 1 hts gwsRX12_readOne_2 rfl rfl rfl hd_yX12_begin1_RX12 (by decide +kernel)) (fz_pre (va_recv hK hP (ci := 12) (q0 := 0) rfl rfl) hP hK hD) rfl rfl hl.1 rfl (lv_room (Nat.le_of_ble_eq_true rfl)) dX12_readOne_257 (by decide +kernel)) hS (fun q _ h => hFc q h) hFc (fun u t9_ H locs ht hvm hw9 hB9 hz1 hk1 hS => ?_)
                revert u hw9 hB9
                refine fz_p10 ?_
                intro s2257_1 p2257_1 g39257_1 g40257_1 g41257_1 g42257_1 g47257_1 g48257_1 d2257_1 w2257_1 hw9 hB9
                try dsimp only at hw9 hB9
                have e9F : fT (fT (fT (fT (fT (fT (fT (fT vF 41 g41257_1) 46 (upd (vF 46) ((nI dN)).toNatClampNeg (vi 77))) 43 (upd (vF 43) ((nI dN)).toNatClampNeg (vi 20))) 40 g40257_1) 39 g39257_1) 42 g42257_1) 47 g47257_1) 48 g48257_1 = fT (fT (fT (fT (fT (fT (fT (fT (fT (fT vF 41 (upd (vF 41) ((nI dN)).toNatClampNeg (nI cR))) 46 (upd (vF 46) ((nI dN)).toNatClampNeg (vi 77))) 43 (upd (vF 43) ((nI dN)).toNatClampNeg (vi 20))) 40 (upd (vF 40) ((nI dN)).toNatClampNeg 4)) 39 g39257_1) 40 g40257_1) 41 g41257_1) 42 g42257_1) 47 g47257_1) 48 g48257_1 := ch_E vF [g41257_1, upd (vF 46) ((nI dN)).toNatClampNeg (vi 77), upd (vF 43) ((nI dN)).toNatClampNeg (vi 20), g40257_1, g39257_1, g42257_1, g47257_1, g48257_1, upd (vF 41) ((nI dN)).toNatClampNeg (nI cR), upd (vF 40) ((nI dN)).toNatClampNeg 4] [(48, 8), (47, 7), (42, 6), (39, 5), (40, 4), (43, 3), (46, 2), (41, 1)] [(48, 8), (47, 7), (42, 6), (41, 1), (40, 4), (39, 5), (40, 10), (43, 3), (46, 2), (41, 9)] [] trivial (by decide +kernel)
                have hP := wr_PF e9F (fz_P ht hB9.1)
                have hD := wr_DF e9F (hB9.2.weaken (fun _ q _ h => hFc q.1 h))
                clear e9F
                revert hw9
                refine fz_a4 ?_
                intro f257_1_0 f257_1_1 f257_1_2 f257_1_3
                have f257_1_1 : 0 < (s2257_1).toInt ∨ (s2257_1 = (vi 21) ∧ BgO 0 wd245_1 sg245_1 g39257_1 g40257_1 g41257_1 g42257_1 g48257_1 (dN + 1) wi d2257_1 w2257_1) := f257_1_1
                have f257_1_2 : FrmO (dN + 1) (vF 39) (upd (vF 40) ((nI dN)).toNatClampNeg 4) (upd (vF 41) ((nI dN)).toNatClampNeg (nI cR)) (vF 42) (vF 48) g39257_1 g40257_1 g41257_1 g42257_1 g48257_1 := f257_1_2
                refine lv_goto (tgt := 314) hx hb dX12_readOne_260 (by decide) ?_
                refine W.widen (k := 0) (n := 0) (by decide +kernel) (by decide +kernel) ?_
                have e9 : fT (fT (fT (fT (fT (fT (fT (fT (fT (fT (fT vi 17 (nI a2245_1)) 19 (nI f2245_1)) 20 sg245_1) 18 wd245_1) 21 s2257_1) 22 p2257_1) 74 (nI d2257_1)) 75 (nI w2257_1)) 76 (vi 76)) 77 (vi 77)) 52 (nI nd) = fT (fT (fT (fT (fT (fT (fT (fT vi 17 (nI a2245_1)) 19 (nI f2245_1)) 20 sg245_1) 18 wd245_1) 75 (nI w2257_1)) 74 (nI d2257_1)) 21 s2257_1) 22 p2257_1 := ch_E vi [nI a2245_1, nI f2245_1, sg245_1, wd245_1, s2257_1, p2257_1, nI d2257_1, nI w2257_1, nI nd] [(52, 9), (77, 0), (76, 0), (75, 8), (74, 7), (22, 6), (21, 5), (18, 4), (20, 3), (19, 2), (17, 1)] [(22, 6), (21, 5), (74, 7), (75, 8), (18, 4), (20, 3), (19, 2), (17, 1)] [52] ⟨show nI nd = vi 52 from (by first | with_reducible rfl | with_reducible assumption | (symm; with_reducible assumption) | rfl | assumption | (symm; assumption) | (subst_vars; rfl)), trivial⟩ (by decide +kernel)
                have hP := wr_Pi e9 hP
                have hD := wr_Di e9 hD
                clear e9
                have e9 : fT (fT (fT (fT (fT (fT (fT (fT (fT (fT (fT (fT (fT (fT (fT vF 41 g41257_1) 46 (upd (vF 46) ((nI dN)).toNatClampNeg (vi 77))) 43 (upd (vF 43) ((nI dN)).toNatClampNeg (vi 20))) 40 g40257_1) 39 g39257_1) 42 g42257_1) 47 g47257_1) 48 g48257_1) 29 (vF 29)) 30 (vF 30)) 31 (vF 31)) 32 (vF 32)) 33 (vF 33)) 34 (vF 34)) 35 (vF 35) = fT (fT (fT (fT (fT (fT (fT (fT vF 41 g41257_1) 46 (upd (vF 46) ((nI dN)).toNatClampNeg (vi 77))) 43 (upd (vF 43) ((nI dN)).toNatClampNeg (vi 20))) 40 g40257_1) 39 g39257_1) 42 g42257_1) 47 g47257_1) 48 g48257_1 := ch_E vF [g41257_1, upd (vF 46) ((nI dN)).toNatClampNeg (vi 77), upd (vF 43) ((nI dN)).toNatClampNeg (vi 20), g40257_1, g39257_1, g42257_1, g47257_1, g48257_1] [(35, 0), (34, 0), (33, 0), (32, 0), (31, 0), (30, 0), (29, 0), (48, 8), (47, 7), (42, 6), (39, 5), (40, 4), (43, 3), (46, 2), (41, 1)] [(48, 8), (47, 7), (42, 6), (39, 5), (40, 4), (43, 3), (46, 2), (41, 1)] [] trivial (by decide +kernel)
                have hP := wr_PF e9 hP
                have hD := wr_DF e9 hD
                clear e9
                exact W.vret hx hb hr (fun t9_ ht hW => ⟨⟨(a2245_1, f2245_1, sg245_1, wd245_1, s2257_1, p2257_1, (vF 29), (vF 30), (vF 31), (vF 32), (vF 33), (vF 34), (vF 35), g39257_1, g40257_1, g41257_1, g42257_1, (upd (vF 43) ((nI dN)).toNatClampNeg (vi 20)), (upd (vF 46) ((nI dN)).toNatClampNeg (vi 77)), g47257_1, g48257_1, d2257_1, w2257_1, nd, (vi 76), (vi 77), gG), rfl, by (try dsimp only); exact ⟨f245_1_0, by omega, f257_1_0, by rcases f257_1_1 with h9 | h9; (exact Or.inl h9); (exact Or.inr ⟨RdS.push (gm := gl) hK0.1 hBel hK0.2.1 (Nat.le_refl _) (fun q hq => ⟨rfl, by rw [upd_at (by omega), if_neg (by omega)], by rw [upd_at (by omega), if_neg (by omega)], rfl, rfl⟩) h39 (by decide) h48 (by omega) ⟨⟨by omega, fun h8 => absurd rfl h8, fun h8 => absurd h8 (by decide), Nat.le_refl _⟩, Or.inr (Or.inr (Or.inr (Or.inr (Or.inr (Or.inr (Or.inr (Or.inr (Or.inr (Or.inr (Or.inr (⟨rfl, rfl, by rw [upd_at (by omega), if_pos rfl], rfl, rfl, rfl, cR, by rw [upd_at (by omega), if_pos rfl], hcR.mono (by omega)⟩)))))))))))⟩ f257_1_2 (by rw [← hwc]; exact h9.2) (show (0 : Int32) = nI 0 by decide) (by decide) (by omega) (by omega) (by omega) (by omega) (by omega) (by show 10 * (4000 - _) + dN + 1 + 3 ≤ mM - 1; omega), hK0.2.1.less (Nat.zero_le _)⟩), by omega⟩, by rw [ht]; exact hP, hD⟩, hS.F ht⟩) hS.2.2 dX12_readOne_314
              · have t_190 : ¬ ((vi 20)).toInt = 71 := toI_neq c_190 rfl (by decide)
                refine lv_aload_n hx hb dX12_readOne_193 rfl (lv_at hl 0 rfl) ?_
                refine va_get (D := (dC, dI)) (ci := 12) (v := .int (vi 20)) (C := RX12) (T := TX12) (N := 163) (fs := fM (vS a vi vj)) hx hb hts iwsRX12_readOne_in12 hown hK hP 0 rfl rfl 20 (by decide) (hts _ hm_r_X12_readOne_5) (fun _ h9 => h9) rfl dX12_readOne_194 ?_
                refine lv_bipush (v := 60) hx hb dX12_readOne_197 (by decide) ?_
                refine lv_icmp_eq (tgt := 234) hx hb dX12_readOne_199 (by decide) (fun c_199 => ?_) (fun c_199 => ?_)
                · have t_199 : ((vi 20)).toInt = 60 := toI_eq c_199 rfl (by decide)
                  have hfl : fn < an := hLx.2.2.1.resolve_left (fun h => absurd (show (vi 18).toInt = 0 by rw [h]; decide) (by omega))
                  refine lv_aload_n hx hb dX12_readOne_234 rfl (lv_at hl 0 rfl) ?_
                  refine va_get (D := (dC, dI)) (ci := 12) (v := .ref (a 43)) (C := RX12) (T := TX12) (N := 163) (fs := fM (vS a vi vj)) hx hb hts iwsRX12_readOne_in12 hown hK hP 0 rfl rfl 68 (by decide) (hts _ hm_r_X12_readOne_6) (fun _ h9 => h9) rfl dX12_readOne_235 ?_
                  refine lv_iload_n hx hb dX12_readOne_238 rfl (lv_at hl 1 rfl) ?_
                  refine lv_aload_n hx hb dX12_readOne_239 rfl (lv_at hl 0 rfl) ?_
                  refine va_get (D := (dC, dI)) (ci := 12) (v := .int (vi 20)) (C := RX12) (T := TX12) (N := 163) (fs := fM (vS a vi vj)) hx hb hts iwsRX12_readOne_in12 hown hK hP 0 rfl rfl 20 (by decide) (hts _ hm_r_X12_readOne_5) (fun _ h9 => h9) rfl dX12_readOne_240 ?_
                  refine va_iast (cA := k 43) (n := 120) (f := (vF 43)) hx hb hK hP hD hS 44 43 (WR_get 43 (by decide)) (TR_get 43 (by decide)) (vp_in_nI (show dN < 120 by omega) (by omega)) dX12_readOne_243 (fun H locs hP hD hS => ?_)
                  have hP : va_P (dC, dI) vwCl (WR a k h0 vi vj (fT (fT (fT vF 41 (upd (vF 41) ((nI dN)).toNatClampNeg (nI cR))) 46 (upd (vF 46) ((nI dN)).toNatClampNeg (vi 77))) 43 (upd (vF 43) ((nI dN)).toNatClampNeg (vi 20))) vG) H := fz_w (WR_F 43 (by decide) _ rfl) hP
                  have hD : va_D A (WR a k h0 vi vj (fT (fT (fT vF 41 (upd (vF 41) ((nI dN)).toNatClampNeg (nI cR))) 46 (upd (vF 46) ((nI dN)).toNatClampNeg (vi 77))) 43 (upd (vF 43) ((nI dN)).toNatClampNeg (vi 20))) vG) := fz_wD (WR_F 43 (by decide) _ rfl) hD
                  refine lv_aload_n hx hb dX12_readOne_244 rfl (lv_at hl 0 rfl) ?_
                  have hFc := allFree hD hS hA
                  refine va_callv (va_runV (As := []) (rest := []) ⟨hx, hb, hml, hown, hts⟩ (r_X12_next l dC dI a k h0 vi vj (fT (fT (fT vF 41 (upd (vF 41) ((nI dN)).toNatClampNeg (nI cR))) 46 (upd (vF 46) ((nI dN)).toNatClampNeg (vi 77))) 43 (upd (vF 43) ((nI dN)).toNatClampNeg (vi 20))) vG tp an hTp (by first | with_reducible assumption | decide | omega | rfl | assumption) ha0 (by first | with_reducible assumption | decide | omega | rfl | assumption) H.size) (cwV 0 hts gwsRX12_readOne_1 rfl rfl rfl hd_yX12_next_RX12 (by decide +kernel)) (fz_preE (va_recv hK hP (ci := 12) (q0 := 0) rfl rfl) hP hK hD (fun a U g mk qE => qE.same rfl) (fun U hU9 hW => by rw [hU9]; exact (((hE : StrA A s s.heap).kept hS.2.1).narrow (fun q h => hFc q h)).warm hW)) rfl rfl hl.1 rfl (lv_room (Nat.le_of_ble_eq_true rfl)) dX12_readOne_245 (by decide +kernel)) hS (fun q _ h => hFc q h) hFc (fun u t9_ H locs ht hvm hw9 hB9 hz1 hk1 hS => ?_)
                  revert u hw9 hB9
                  refine fz_p4 ?_
                  intro a2245_2 f2245_2 sg245_2 wd245_2 hw9 hB9
                  try dsimp only at hw9 hB9
                  have hP : va_P (dC, dI) vwCl (WR a k h0 (fT (fT (fT (fT vi 17 (nI a2245_2)) 19 (nI f2245_2)) 20 sg245_2) 18 wd245_2) vj (fT (fT (fT vF 41 (upd (vF 41) ((nI dN)).toNatClampNeg (nI cR))) 46 (upd (vF 46) ((nI dN)).toNatClampNeg (vi 77))) 43 (upd (vF 43) ((nI dN)).toNatClampNeg (vi 20))) vG) H := fz_P ht hB9.1
                  have hD := fz_sd hP (hB9.2.weaken (fun _ q _ h => hFc q.1 h)) rfl
                  revert hw9
                  refine fz_a2 ?_
                  intro f245_2_0 f245_2_1
                  have hl1 := f245_2_0.1
                  have hl2 := f245_2_0.2.1
                  refine lv_aload_n hx hb dX12_readOne_248 rfl (lv_at hl 0 rfl) ?_
                  refine va_get (D := (dC, dI)) (ci := 12) (v := .ref (a 40)) (C := RX12) (T := TX12) (N := 163) (fs := fM (vS a (fT (fT (fT (fT vi 17 (nI a2245_2)) 19 (nI f2245_2)) 20 sg245_2) 18 wd245_2) vj)) hx hb hts iwsRX12_readOne_in12 hown hK hP 0 rfl rfl 65 (by decide) (hts _ hm_r_X12_readOne_0) (fun _ h9 => h9) rfl dX12_readOne_249 ?_
                  refine lv_iload_n hx hb dX12_readOne_252 rfl (lv_at hl 1 rfl) ?_
                  refine lv_iconst (v := 4) hx hb dX12_readOne_253 (by decide) ?_
                  refine va_iast (cA := k 40) (n := 120) (f := (vF 40)) hx hb hK hP hD hS 41 40 (WR_get 40 (by decide)) (TR_get 40 (by decide)) (vp_in_nI (show dN < 120 by omega) (by omega)) dX12_readOne_254 (fun H locs hP hD hS => ?_)
                  have hP : va_P (dC, dI) vwCl (WR a k h0 (fT (fT (fT (fT vi 17 (nI a2245_2)) 19 (nI f2245_2)) 20 sg245_2) 18 wd245_2) vj (fT (fT (fT (fT vF 41 (upd (vF 41) ((nI dN)).toNatClampNeg (nI cR))) 46 (upd (vF 46) ((nI dN)).toNatClampNeg (vi 77))) 43 (upd (vF 43) ((nI dN)).toNatClampNeg (vi 20))) 40 (upd (vF 40) ((nI dN)).toNatClampNeg 4)) vG) H := fz_w (WR_F 40 (by decide) _ rfl) hP
                  have hD : va_D A (WR a k h0 (fT (fT (fT (fT vi 17 (nI a2245_2)) 19 (nI f2245_2)) 20 sg245_2) 18 wd245_2) vj (fT (fT (fT (fT vF 41 (upd (vF 41) ((nI dN)).toNatClampNeg (nI cR))) 46 (upd (vF 46) ((nI dN)).toNatClampNeg (vi 77))) 43 (upd (vF 43) ((nI dN)).toNatClampNeg (vi 20))) 40 (upd (vF 40) ((nI dN)).toNatClampNeg 4)) vG) := fz_wD (WR_F 40 (by decide) _ rfl) hD
                  refine lv_aload_n hx hb dX12_readOne_255 rfl (lv_at hl 0 rfl) ?_
                  refine lv_iconst (v := 0) hx hb dX12_readOne_256 (by decide) ?_
                  have hFc := allFree hD hS hA
                  refine va_callv (va_runV (As := [.int 0]) (rest := []) ⟨hx, hb, hml, hown, hts⟩ (r_X12_begin1 l dC dI a k h0 (fT (fT (fT (fT vi 17 (nI a2245_2)) 19 (nI f2245_2)) 20 sg245_2) 18 wd245_2) vj (fT (fT (fT (fT vF 41 (upd (vF 41) ((nI dN)).toNatClampNeg (nI cR))) 46 (upd (vF 46) ((nI dN)).toNatClampNeg (vi 77))) 43 (upd (vF 43) ((nI dN)).toNatClampNeg (vi 20))) 40 (upd (vF 40) ((nI dN)).toNatClampNeg 4)) vG 0 tp a2245_2 f2245_2 nm se pa va bd (dN + 1) wi hTp (by first | with_reducible assumption | decide | omega | rfl | assumption) rfl rfl (f245_2_0) (by first | with_reducible assumption | decide | omega | rfl | assumption) hnm (by first | with_reducible assumption | decide | omega | rfl | assumption) (by first | with_reducible assumption | decide | omega | rfl | assumption) (by first | with_reducible assumption | decide | omega | rfl | assumption) hbd (by first | with_reducible assumption | decide | omega | rfl | assumption) (by first | with_reducible assumption | decide | omega | rfl | assumption) (hdp) (by first | with_reducible assumption | decide | omega | rfl | assumption) hwi (by first | with_reducible assumption | decide | omega | rfl | assumption) H.size) (cwV 1 hts gwsRX12_readOne_2 rfl rfl rfl hd_yX12_begin1_RX12 (by decide +kernel)) (fz_pre (va_recv hK hP (ci := 12) (q0 := 0) rfl rfl) hP hK hD) rfl rfl hl.1 rfl (lv_room (Nat.le_of_ble_eq_true rfl)) dX12_readOne_257 (by decide +kernel)) hS (fun q _ h => hFc q h) hFc (fun u t9_ H locs ht hvm hw9 hB9 hz1 hk1 hS => ?_)
                  revert u hw9 hB9
                  refine fz_p10 ?_
                  intro s2257_2 p2257_2 g39257_2 g40257_2 g41257_2 g42257_2 g47257_2 g48257_2 d2257_2 w2257_2 hw9 hB9
                  try dsimp only at hw9 hB9
                  have e9F : fT (fT (fT (fT (fT (fT (fT (fT vF 41 g41257_2) 46 (upd (vF 46) ((nI dN)).toNatClampNeg (vi 77))) 43 (upd (vF 43) ((nI dN)).toNatClampNeg (vi 20))) 40 g40257_2) 39 g39257_2) 42 g42257_2) 47 g47257_2) 48 g48257_2 = fT (fT (fT (fT (fT (fT (fT (fT (fT (fT vF 41 (upd (vF 41) ((nI dN)).toNatClampNeg (nI cR))) 46 (upd (vF 46) ((nI dN)).toNatClampNeg (vi 77))) 43 (upd (vF 43) ((nI dN)).toNatClampNeg (vi 20))) 40 (upd (vF 40) ((nI dN)).toNatClampNeg 4)) 39 g39257_2) 40 g40257_2) 41 g41257_2) 42 g42257_2) 47 g47257_2) 48 g48257_2 := ch_E vF [g41257_2, upd (vF 46) ((nI dN)).toNatClampNeg (vi 77), upd (vF 43) ((nI dN)).toNatClampNeg (vi 20), g40257_2, g39257_2, g42257_2, g47257_2, g48257_2, upd (vF 41) ((nI dN)).toNatClampNeg (nI cR), upd (vF 40) ((nI dN)).toNatClampNeg 4] [(48, 8), (47, 7), (42, 6), (39, 5), (40, 4), (43, 3), (46, 2), (41, 1)] [(48, 8), (47, 7), (42, 6), (41, 1), (40, 4), (39, 5), (40, 10), (43, 3), (46, 2), (41, 9)] [] trivial (by decide +kernel)
                  have hP := wr_PF e9F (fz_P ht hB9.1)
                  have hD := wr_DF e9F (hB9.2.weaken (fun _ q _ h => hFc q.1 h))
                  clear e9F
                  revert hw9
                  refine fz_a4 ?_
                  intro f257_2_0 f257_2_1 f257_2_2 f257_2_3
                  have f257_2_1 : 0 < (s2257_2).toInt ∨ (s2257_2 = (vi 21) ∧ BgO 0 wd245_2 sg245_2 g39257_2 g40257_2 g41257_2 g42257_2 g48257_2 (dN + 1) wi d2257_2 w2257_2) := f257_2_1
                  have f257_2_2 : FrmO (dN + 1) (vF 39) (upd (vF 40) ((nI dN)).toNatClampNeg 4) (upd (vF 41) ((nI dN)).toNatClampNeg (nI cR)) (vF 42) (vF 48) g39257_2 g40257_2 g41257_2 g42257_2 g48257_2 := f257_2_2
                  refine lv_goto (tgt := 314) hx hb dX12_readOne_260 (by decide) ?_
                  refine W.widen (k := 0) (n := 0) (by decide +kernel) (by decide +kernel) ?_
                  have e9 : fT (fT (fT (fT (fT (fT (fT (fT (fT (fT (fT vi 17 (nI a2245_2)) 19 (nI f2245_2)) 20 sg245_2) 18 wd245_2) 21 s2257_2) 22 p2257_2) 74 (nI d2257_2)) 75 (nI w2257_2)) 76 (vi 76)) 77 (vi 77)) 52 (nI nd) = fT (fT (fT (fT (fT (fT (fT (fT vi 17 (nI a2245_2)) 19 (nI f2245_2)) 20 sg245_2) 18 wd245_2) 75 (nI w2257_2)) 74 (nI d2257_2)) 21 s2257_2) 22 p2257_2 := ch_E vi [nI a2245_2, nI f2245_2, sg245_2, wd245_2, s2257_2, p2257_2, nI d2257_2, nI w2257_2, nI nd] [(52, 9), (77, 0), (76, 0), (75, 8), (74, 7), (22, 6), (21, 5), (18, 4), (20, 3), (19, 2), (17, 1)] [(22, 6), (21, 5), (74, 7), (75, 8), (18, 4), (20, 3), (19, 2), (17, 1)] [52] ⟨show nI nd = vi 52 from (by first | with_reducible rfl | with_reducible assumption | (symm; with_reducible assumption) | rfl | assumption | (symm; assumption) | (subst_vars; rfl)), trivial⟩ (by decide +kernel)
                  have hP := wr_Pi e9 hP
                  have hD := wr_Di e9 hD
                  clear e9
                  have e9 : fT (fT (fT (fT (fT (fT (fT (fT (fT (fT (fT (fT (fT (fT (fT vF 41 g41257_2) 46 (upd (vF 46) ((nI dN)).toNatClampNeg (vi 77))) 43 (upd (vF 43) ((nI dN)).toNatClampNeg (vi 20))) 40 g40257_2) 39 g39257_2) 42 g42257_2) 47 g47257_2) 48 g48257_2) 29 (vF 29)) 30 (vF 30)) 31 (vF 31)) 32 (vF 32)) 33 (vF 33)) 34 (vF 34)) 35 (vF 35) = fT (fT (fT (fT (fT (fT (fT (fT vF 41 g41257_2) 46 (upd (vF 46) ((nI dN)).toNatClampNeg (vi 77))) 43 (upd (vF 43) ((nI dN)).toNatClampNeg (vi 20))) 40 g40257_2) 39 g39257_2) 42 g42257_2) 47 g47257_2) 48 g48257_2 := ch_E vF [g41257_2, upd (vF 46) ((nI dN)).toNatClampNeg (vi 77), upd (vF 43) ((nI dN)).toNatClampNeg (vi 20), g40257_2, g39257_2, g42257_2, g47257_2, g48257_2] [(35, 0), (34, 0), (33, 0), (32, 0), (31, 0), (30, 0), (29, 0), (48, 8), (47, 7), (42, 6), (39, 5), (40, 4), (43, 3), (46, 2), (41, 1)] [(48, 8), (47, 7), (42, 6), (39, 5), (40, 4), (43, 3), (46, 2), (41, 1)] [] trivial (by decide +kernel)
                  have hP := wr_PF e9 hP
                  have hD := wr_DF e9 hD
                  clear e9
                  exact W.vret hx hb hr (fun t9_ ht hW => ⟨⟨(a2245_2, f2245_2, sg245_2, wd245_2, s2257_2, p2257_2, (vF 29), (vF 30), (vF 31), (vF 32), (vF 33), (vF 34), (vF 35), g39257_2, g40257_2, g41257_2, g42257_2, (upd (vF 43) ((nI dN)).toNatClampNeg (vi 20)), (upd (vF 46) ((nI dN)).toNatClampNeg (vi 77)), g47257_2, g48257_2, d2257_2, w2257_2, nd, (vi 76), (vi 77), gG), rfl, by (try dsimp only); exact ⟨f245_2_0, by omega, f257_2_0, by rcases f257_2_1 with h9 | h9; (exact Or.inl h9); (exact Or.inr ⟨RdS.push (gm := gl) hK0.1 hBel hK0.2.1 (Nat.le_refl _) (fun q hq => ⟨rfl, by rw [upd_at (by omega), if_neg (by omega)], by rw [upd_at (by omega), if_neg (by omega)], rfl, rfl⟩) h39 (by decide) h48 (by omega) ⟨⟨by omega, fun h8 => absurd rfl h8, fun h8 => absurd h8 (by decide), Nat.le_refl _⟩, Or.inr (Or.inr (Or.inr (Or.inr (Or.inr (Or.inr (Or.inr (Or.inr (Or.inr (Or.inr (Or.inr (⟨rfl, rfl, by rw [upd_at (by omega), if_pos rfl], rfl, rfl, rfl, cR, by rw [upd_at (by omega), if_pos rfl], hcR.mono (by omega)⟩)))))))))))⟩ f257_2_2 (by rw [← hwc]; exact h9.2) (show (0 : Int32) = nI 0 by decide) (by decide) (by omega) (by omega) (by omega) (by omega) (by omega) (by show 10 * (4000 - _) + dN + 1 + 3 ≤ mM - 1; omega), hK0.2.1.less (Nat.zero_le _)⟩), by omega⟩, by rw [ht]; exact hP, hD⟩, hS.F ht⟩) hS.2.2 dX12_readOne_314
                · have t_199 : ¬ ((vi 20)).toInt = 60 := toI_neq c_199 rfl (by decide)
                  refine lv_aload_n hx hb dX12_readOne_202 rfl (lv_at hl 0 rfl) ?_
                  refine va_get (D := (dC, dI)) (ci := 12) (v := .int (vi 20)) (C := RX12) (T := TX12) (N := 163) (fs := fM (vS a vi vj)) hx hb hts iwsRX12_readOne_in12 hown hK hP 0 rfl rfl 20 (by decide) (hts _ hm_r_X12_readOne_5) (fun _ h9 => h9) rfl dX12_readOne_203 ?_
                  refine lv_bipush (v := 62) hx hb dX12_readOne_206 (by decide) ?_
                  refine lv_icmp_eq (tgt := 234) hx hb dX12_readOne_208 (by decide) (fun c_208 => ?_) (fun c_208 => ?_)
                  · have t_208 : ((vi 20)).toInt = 62 := toI_eq c_208 rfl (by decide)
                    have hfl : fn < an := hLx.2.2.1.resolve_left (fun h => absurd (show (vi 18).toInt = 0 by rw [h]; decide) (by omega))
                    refine lv_aload_n hx hb dX12_readOne_234 rfl (lv_at hl 0 rfl) ?_
                    refine va_get (D := (dC, dI)) (ci := 12) (v := .ref (a 43)) (C := RX12) (T := TX12) (N := 163) (fs := fM (vS a vi vj)) hx hb hts iwsRX12_readOne_in12 hown hK hP 0 rfl rfl 68 (by decide) (hts _ hm_r_X12_readOne_6) (fun _ h9 => h9) rfl dX12_readOne_235 ?_
                    refine lv_iload_n hx hb dX12_readOne_238 rfl (lv_at hl 1 rfl) ?_
                    refine lv_aload_n hx hb dX12_readOne_239 rfl (lv_at hl 0 rfl) ?_
                    refine va_get (D := (dC, dI)) (ci := 12) (v := .int (vi 20)) (C := RX12) (T := TX12) (N := 163) (fs := fM (vS a vi vj)) hx hb hts iwsRX12_readOne_in12 hown hK hP 0 rfl rfl 20 (by decide) (hts _ hm_r_X12_readOne_5) (fun _ h9 => h9) rfl dX12_readOne_240 ?_
                    refine va_iast (cA := k 43) (n := 120) (f := (vF 43)) hx hb hK hP hD hS 44 43 (WR_get 43 (by decide)) (TR_get 43 (by decide)) (vp_in_nI (show dN < 120 by omega) (by omega)) dX12_readOne_243 (fun H locs hP hD hS => ?_)
                    have hP : va_P (dC, dI) vwCl (WR a k h0 vi vj (fT (fT (fT vF 41 (upd (vF 41) ((nI dN)).toNatClampNeg (nI cR))) 46 (upd (vF 46) ((nI dN)).toNatClampNeg (vi 77))) 43 (upd (vF 43) ((nI dN)).toNatClampNeg (vi 20))) vG) H := fz_w (WR_F 43 (by decide) _ rfl) hP
                    have hD : va_D A (WR a k h0 vi vj (fT (fT (fT vF 41 (upd (vF 41) ((nI dN)).toNatClampNeg (nI cR))) 46 (upd (vF 46) ((nI dN)).toNatClampNeg (vi 77))) 43 (upd (vF 43) ((nI dN)).toNatClampNeg (vi 20))) vG) := fz_wD (WR_F 43 (by decide) _ rfl) hD
                    refine lv_aload_n hx hb dX12_readOne_244 rfl (lv_at hl 0 rfl) ?_
                    have hFc := allFree hD hS hA
                    refine va_callv (va_runV (As := []) (rest := []) ⟨hx, hb, hml, hown, hts⟩ (r_X12_next l dC dI a k h0 vi vj (fT (fT (fT vF 41 (upd (vF 41) ((nI dN)).toNatClampNeg (nI cR))) 46 (upd (vF 46) ((nI dN)).toNatClampNeg (vi 77))) 43 (upd (vF 43) ((nI dN)).toNatClampNeg (vi 20))) vG tp an hTp (by first | with_reducible assumption | decide | omega | rfl | assumption) ha0 (by first | with_reducible assumption | decide | omega | rfl | assumption) H.size) (cwV 0 hts gwsRX12_readOne_1 rfl rfl rfl hd_yX12_next_RX12 (by decide +kernel)) (fz_preE (va_recv hK hP (ci := 12) (q0 := 0) rfl rfl) hP hK hD (fun a U g mk qE => qE.same rfl) (fun U hU9 hW => by rw [hU9]; exact (((hE : StrA A s s.heap).kept hS.2.1).narrow (fun q h => hFc q h)).warm hW)) rfl rfl hl.1 rfl (lv_room (Nat.le_of_ble_eq_true rfl)) dX12_readOne_245 (by decide +kernel)) hS (fun q _ h => hFc q h) hFc (fun u t9_ H locs ht hvm hw9 hB9 hz1 hk1 hS => ?_)
                    revert u hw9 hB9
                    refine fz_p4 ?_
                    intro a2245_3 f2245_3 sg245_3 wd245_3 hw9 hB9
                    try dsimp only at hw9 hB9
                    have hP : va_P (dC, dI) vwCl (WR a k h0 (fT (fT (fT (fT vi 17 (nI a2245_3)) 19 (nI f2245_3)) 20 sg245_3) 18 wd245_3) vj (fT (fT (fT vF 41 (upd (vF 41) ((nI dN)).toNatClampNeg (nI cR))) 46 (upd (vF 46) ((nI dN)).toNatClampNeg (vi 77))) 43 (upd (vF 43) ((nI dN)).toNatClampNeg (vi 20))) vG) H := fz_P ht hB9.1
                    have hD := fz_sd hP (hB9.2.weaken (fun _ q _ h => hFc q.1 h)) rfl
                    revert hw9
                    refine fz_a2 ?_
                    intro f245_3_0 f245_3_1
                    have hl1 := f245_3_0.1
                    have hl2 := f245_3_0.2.1
                    refine lv_aload_n hx hb dX12_readOne_248 rfl (lv_at hl 0 rfl) ?_
                    refine va_get (D := (dC, dI)) (ci := 12) (v := .ref (a 40)) (C := RX12) (T := TX12) (N := 163) (fs := fM (vS a (fT (fT (fT (fT vi 17 (nI a2245_3)) 19 (nI f2245_3)) 20 sg245_3) 18 wd245_3) vj)) hx hb hts iwsRX12_readOne_in12 hown hK hP 0 rfl rfl 65 (by decide) (hts _ hm_r_X12_readOne_0) (fun _ h9 => h9) rfl dX12_readOne_249 ?_
                    refine lv_iload_n hx hb dX12_readOne_252 rfl (lv_at hl 1 rfl) ?_
                    refine lv_iconst (v := 4) hx hb dX12_readOne_253 (by decide) ?_
                    refine va_iast (cA := k 40) (n := 120) (f := (vF 40)) hx hb hK hP hD hS 41 40 (WR_get 40 (by decide)) (TR_get 40 (by decide)) (vp_in_nI (show dN < 120 by omega) (by omega)) dX12_readOne_254 (fun H locs hP hD hS => ?_)
                    have hP : va_P (dC, dI) vwCl (WR a k h0 (fT (fT (fT (fT vi 17 (nI a2245_3)) 19 (nI f2245_3)) 20 sg245_3) 18 wd245_3) vj (fT (fT (fT (fT vF 41 (upd (vF 41) ((nI dN)).toNatClampNeg (nI cR))) 46 (upd (vF 46) ((nI dN)).toNatClampNeg (vi 77))) 43 (upd (vF 43) ((nI dN)).toNatClampNeg (vi 20))) 40 (upd (vF 40) ((nI dN)).toNatClampNeg 4)) vG) H := fz_w (WR_F 40 (by decide) _ rfl) hP
                    have hD : va_D A (WR a k h0 (fT (fT (fT (fT vi 17 (nI a2245_3)) 19 (nI f2245_3)) 20 sg245_3) 18 wd245_3) vj (fT (fT (fT (fT vF 41 (upd (vF 41) ((nI dN)).toNatClampNeg (nI cR))) 46 (upd (vF 46) ((nI dN)).toNatClampNeg (vi 77))) 43 (upd (vF 43) ((nI dN)).toNatClampNeg (vi 20))) 40 (upd (vF 40) ((nI dN)).toNatClampNeg 4)) vG) := fz_wD (WR_F 40 (by decide) _ rfl) hD
                    refine lv_aload_n hx hb dX12_readOne_255 rfl (lv_at hl 0 rfl) ?_
                    refine lv_iconst (v := 0) hx hb dX12_readOne_256 (by decide) ?_
                    have hFc := allFree hD hS hA
                    refine va_callv (va_runV (As := [.int 0]) (rest := []) ⟨hx, hb, hml, hown, hts⟩ (r_X12_begin1 l dC dI a k h0 (fT (fT (fT (fT vi 17 (nI a2245_3)) 19 (nI f2245_3)) 20 sg245_3) 18 wd245_3) vj (fT (fT (fT (fT vF 41 (upd (vF 41) ((nI dN)).toNatClampNeg (nI cR))) 46 (upd (vF 46) ((nI dN)).toNatClampNeg (vi 77))) 43 (upd (vF 43) ((nI dN)).toNatClampNeg (vi 20))) 40 (upd (vF 40) ((nI dN)).toNatClampNeg 4)) vG 0 tp a2245_3 f2245_3 nm se pa va bd (dN + 1) wi hTp (by first | with_reducible assumption | decide | omega | rfl | assumption) rfl rfl (f245_3_0) (by first | with_reducible assumption | decide | omega | rfl | assumption) hnm (by first | with_reducible assumption | decide | omega | rfl | assumption) (by first | with_reducible assumption | decide | omega | rfl | assumption) (by first | with_reducible assumption | decide | omega | rfl | assumption) hbd (by first | with_reducible assumption | decide | omega | rfl | assumption) (by first | with_reducible assumption | decide | omega | rfl | assumption) (hdp) (by first | with_reducible assumption | decide | omega | rfl | assumption) hwi (by first | with_reducible assumption | decide | omega | rfl | assumption) H.size) (cwV 1 hts gwsRX12_readOne_2 rfl rfl rfl hd_yX12_begin1_RX12 (by decide +kernel)) (fz_pre (va_recv hK hP (ci := 12) (q0 := 0) rfl rfl) hP hK hD) rfl rfl hl.1 rfl (lv_room (Nat.le_of_ble_eq_true rfl)) dX12_readOne_257 (by decide +kernel)) hS (fun q _ h => hFc q h) hFc (fun u t9_ H locs ht hvm hw9 hB9 hz1 hk1 hS => ?_)
                    revert u hw9 hB9
                    refine fz_p10 ?_
                    intro s2257_3 p2257_3 g39257_3 g40257_3 g41257_3 g42257_3 g47257_3 g48257_3 d2257_3 w2257_3 hw9 hB9
                    try dsimp only at hw9 hB9
                    have e9F : fT (fT (fT (fT (fT (fT (fT (fT vF 41 g41257_3) 46 (upd (vF 46) ((nI dN)).toNatClampNeg (vi 77))) 43 (upd (vF 43) ((nI dN)).toNatClampNeg (vi 20))) 40 g40257_3) 39 g39257_3) 42 g42257_3) 47 g47257_3) 48 g48257_3 = fT (fT (fT (fT (fT (fT (fT (fT (fT (fT vF 41 (upd (vF 41) ((nI dN)).toNatClampNeg (nI cR))) 46 (upd (vF 46) ((nI dN)).toNatClampNeg (vi 77))) 43 (upd (vF 43) ((nI dN)).toNatClampNeg (vi 20))) 40 (upd (vF 40) ((nI dN)).toNatClampNeg 4)) 39 g39257_3) 40 g40257_3) 41 g41257_3) 42 g42257_3) 47 g47257_3) 48 g48257_3 := ch_E vF [g41257_3, upd (vF 46) ((nI dN)).toNatClampNeg (vi 77), upd (vF 43) ((nI dN)).toNatClampNeg (vi 20), g40257_3, g39257_3, g42257_3, g47257_3, g48257_3, upd (vF 41) ((nI dN)).toNatClampNeg (nI cR), upd (vF 40) ((nI dN)).toNatClampNeg 4] [(48, 8), (47, 7), (42, 6), (39, 5), (40, 4), (43, 3), (46, 2), (41, 1)] [(48, 8), (47, 7), (42, 6), (41, 1), (40, 4), (39, 5), (40, 10), (43, 3), (46, 2), (41, 9)] [] trivial (by decide +kernel)
                    have hP := wr_PF e9F (fz_P ht hB9.1)
                    have hD := wr_DF e9F (hB9.2.weaken (fun _ q _ h => hFc q.1 h))
                    clear e9F
                    revert hw9
                    refine fz_a4 ?_
                    intro f257_3_0 f257_3_1 f257_3_2 f257_3_3
                    have f257_3_1 : 0 < (s2257_3).toInt ∨ (s2257_3 = (vi 21) ∧ BgO 0 wd245_3 sg245_3 g39257_3 g40257_3 g41257_3 g42257_3 g48257_3 (dN + 1) wi d2257_3 w2257_3) := f257_3_1
                    have f257_3_2 : FrmO (dN + 1) (vF 39) (upd (vF 40) ((nI dN)).toNatClampNeg 4) (upd (vF 41) ((nI dN)).toNatClampNeg (nI cR)) (vF 42) (vF 48) g39257_3 g40257_3 g41257_3 g42257_3 g48257_3 := f257_3_2
                    refine lv_goto (tgt := 314) hx hb dX12_readOne_260 (by decide) ?_
                    refine W.widen (k := 0) (n := 0) (by decide +kernel) (by decide +kernel) ?_
                    have e9 : fT (fT (fT (fT (fT (fT (fT (fT (fT (fT (fT vi 17 (nI a2245_3)) 19 (nI f2245_3)) 20 sg245_3) 18 wd245_3) 21 s2257_3) 22 p2257_3) 74 (nI d2257_3)) 75 (nI w2257_3)) 76 (vi 76)) 77 (vi 77)) 52 (nI nd) = fT (fT (fT (fT (fT (fT (fT (fT vi 17 (nI a2245_3)) 19 (nI f2245_3)) 20 sg245_3) 18 wd245_3) 75 (nI w2257_3)) 74 (nI d2257_3)) 21 s2257_3) 22 p2257_3 := ch_E vi [nI a2245_3, nI f2245_3, sg245_3, wd245_3, s2257_3, p2257_3, nI d2257_3, nI w2257_3, nI nd] [(52, 9), (77, 0), (76, 0), (75, 8), (74, 7), (22, 6), (21, 5), (18, 4), (20, 3), (19, 2), (17, 1)] [(22, 6), (21, 5), (74, 7), (75, 8), (18, 4), (20, 3), (19, 2), (17, 1)] [52] ⟨show nI nd = vi 52 from (by first | with_reducible rfl | with_reducible assumption | (symm; with_reducible assumption) | rfl | assumption | (symm; assumption) | (subst_vars; rfl)), trivial⟩ (by decide +kernel)
                    have hP := wr_Pi e9 hP
                    have hD := wr_Di e9 hD
                    clear e9
                    have e9 : fT (fT (fT (fT (fT (fT (fT (fT (fT (fT (fT (fT (fT (fT (fT vF 41 g41257_3) 46 (upd (vF 46) ((nI dN)).toNatClampNeg (vi 77))) 43 (upd (vF 43) ((nI dN)).toNatClampNeg (vi 20))) 40 g40257_3) 39 g39257_3) 42 g42257_3) 47 g47257_3) 48 g48257_3) 29 (vF 29)) 30 (vF 30)) 31 (vF 31)) 32 (vF 32)) 33 (vF 33)) 34 (vF 34)) 35 (vF 35) = fT (fT (fT (fT (fT (fT (fT (fT vF 41 g41257_3) 46 (upd (vF 46) ((nI dN)).toNatClampNeg (vi 77))) 43 (upd (vF 43) ((nI dN)).toNatClampNeg (vi 20))) 40 g40257_3) 39 g39257_3) 42 g42257_3) 47 g47257_3) 48 g48257_3 := ch_E vF [g41257_3, upd (vF 46) ((nI dN)).toNatClampNeg (vi 77), upd (vF 43) ((nI dN)).toNatClampNeg (vi 20), g40257_3, g39257_3, g42257_3, g47257_3, g48257_3] [(35, 0), (34, 0), (33, 0), (32, 0), (31, 0), (30, 0), (29, 0), (48, 8), (47, 7), (42, 6), (39, 5), (40, 4), (43, 3), (46, 2), (41, 1)] [(48, 8), (47, 7), (42, 6), (39, 5), (40, 4), (43, 3), (46, 2), (41, 1)] [] trivial (by decide +kernel)
                    have hP := wr_PF e9 hP
                    have hD := wr_DF e9 hD
                    clear e9
                    exact W.vret hx hb hr (fun t9_ ht hW => ⟨⟨(a2245_3, f2245_3, sg245_3, wd245_3, s2257_3, p2257_3, (vF 29), (vF 30), (vF 31), (vF 32), (vF 33), (vF 34), (vF 35), g39257_3, g40257_3, g41257_3, g42257_3, (upd (vF 43) ((nI dN)).toNatClampNeg (vi 20)), (upd (vF 46) ((nI dN)).toNatClampNeg (vi 77)), g47257_3, g48257_3, d2257_3, w2257_3, nd, (vi 76), (vi 77), gG), rfl, by (try dsimp only); exact ⟨f245_3_0, by omega, f257_3_0, by rcases f257_3_1 with h9 | h9; (exact Or.inl h9); (exact Or.inr ⟨RdS.push (gm := gl) hK0.1 hBel hK0.2.1 (Nat.le_refl _) (fun q hq => ⟨rfl, by rw [upd_at (by omega), if_neg (by omega)], by rw [upd_at (by omega), if_neg (by omega)], rfl, rfl⟩) h39 (by decide) h48 (by omega) ⟨⟨by omega, fun h8 => absurd rfl h8, fun h8 => absurd h8 (by decide), Nat.le_refl _⟩, Or.inr (Or.inr (Or.inr (Or.inr (Or.inr (Or.inr (Or.inr (Or.inr (Or.inr (Or.inr (Or.inr (⟨rfl, rfl, by rw [upd_at (by omega), if_pos rfl], rfl, rfl, rfl, cR, by rw [upd_at (by omega), if_pos rfl], hcR.mono (by omega)⟩)))))))))))⟩ f257_3_2 (by rw [← hwc]; exact h9.2) (show (0 : Int32) = nI 0 by decide) (by decide) (by omega) (by omega) (by omega) (by omega) (by omega) (by show 10 * (4000 - _) + dN + 1 + 3 ≤ mM - 1; omega), hK0.2.1.less (Nat.zero_le _)⟩), by omega⟩, by rw [ht]; exact hP, hD⟩, hS.F ht⟩) hS.2.2 dX12_readOne_314
                  · have t_208 : ¬ ((vi 20)).toInt = 62 := toI_neq c_208 rfl (by decide)
                    refine lv_aload_n hx hb dX12_readOne_211 rfl (lv_at hl 0 rfl) ?_
                    refine va_get (D := (dC, dI)) (ci := 12) (v := .int (vi 20)) (C := RX12) (T := TX12) (N := 163) (fs := fM (vS a vi vj)) hx hb hts iwsRX12_readOne_in12 hown hK hP 0 rfl rfl 20 (by decide) (hts _ hm_r_X12_readOne_5) (fun _ h9 => h9) rfl dX12_readOne_212 ?_
                    refine lv_bipush (v := 61) hx hb dX12_readOne_215 (by decide) ?_
                    refine lv_icmp_eq (tgt := 234) hx hb dX12_readOne_217 (by decide) (fun c_217 => ?_) (fun c_217 => ?_)
                    · have t_217 : ((vi 20)).toInt = 61 := toI_eq c_217 rfl (by decide)
                      have hfl : fn < an := hLx.2.2.1.resolve_left (fun h => absurd (show (vi 18).toInt = 0 by rw [h]; decide) (by omega))
                      refine lv_aload_n hx hb dX12_readOne_234 rfl (lv_at hl 0 rfl) ?_
                      refine va_get (D := (dC, dI)) (ci := 12) (v := .ref (a 43)) (C := RX12) (T := TX12) (N := 163) (fs := fM (vS a vi vj)) hx hb hts iwsRX12_readOne_in12 hown hK hP 0 rfl rfl 68 (by decide) (hts _ hm_r_X12_readOne_6) (fun _ h9 => h9) rfl dX12_readOne_235 ?_
                      refine lv_iload_n hx hb dX12_readOne_238 rfl (lv_at hl 1 rfl) ?_
                      refine lv_aload_n hx hb dX12_readOne_239 rfl (lv_at hl 0 rfl) ?_
                      refine va_get (D := (dC, dI)) (ci := 12) (v := .int (vi 20)) (C := RX12) (T := TX12) (N := 163) (fs := fM (vS a vi vj)) hx hb hts iwsRX12_readOne_in12 hown hK hP 0 rfl rfl 20 (by decide) (hts _ hm_r_X12_readOne_5) (fun _ h9 => h9) rfl dX12_readOne_240 ?_
                      refine va_iast (cA := k 43) (n := 120) (f := (vF 43)) hx hb hK hP hD hS 44 43 (WR_get 43 (by decide)) (TR_get 43 (by decide)) (vp_in_nI (show dN < 120 by omega) (by omega)) dX12_readOne_243 (fun H locs hP hD hS => ?_)
                      have hP : va_P (dC, dI) vwCl (WR a k h0 vi vj (fT (fT (fT vF 41 (upd (vF 41) ((nI dN)).toNatClampNeg (nI cR))) 46 (upd (vF 46) ((nI dN)).toNatClampNeg (vi 77))) 43 (upd (vF 43) ((nI dN)).toNatClampNeg (vi 20))) vG) H := fz_w (WR_F 43 (by decide) _ rfl) hP
                      have hD : va_D A (WR a k h0 vi vj (fT (fT (fT vF 41 (upd (vF 41) ((nI dN)).toNatClampNeg (nI cR))) 46 (upd (vF 46) ((nI dN)).toNatClampNeg (vi 77))) 43 (upd (vF 43) ((nI dN)).toNatClampNeg (vi 20))) vG) := fz_wD (WR_F 43 (by decide) _ rfl) hD
                      refine lv_aload_n hx hb dX12_readOne_244 rfl (lv_at hl 0 rfl) ?_
                      have hFc := allFree hD hS hA
                      refine va_callv (va_runV (As := []) (rest := []) ⟨hx, hb, hml, hown, hts⟩ (r_X12_next l dC dI a k h0 vi vj (fT (fT (fT vF 41 (upd (vF 41) ((nI dN)).toNatClampNeg (nI cR))) 46 (upd (vF 46) ((nI dN)).toNatClampNeg (vi 77))) 43 (upd (vF 43) ((nI dN)).toNatClampNeg (vi 20))) vG tp an hTp (by first | with_reducible assumption | decide | omega | rfl | assumption) ha0 (by first | with_reducible assumption | decide | omega | rfl | assumption) H.size) (cwV 0 hts gwsRX12_readOne_1 rfl rfl rfl hd_yX12_next_RX12 (by decide +kernel)) (fz_preE (va_recv hK hP (ci := 12) (q0 := 0) rfl rfl) hP hK hD (fun a U g mk qE => qE.same rfl) (fun U hU9 hW => by rw [hU9]; exact (((hE : StrA A s s.heap).kept hS.2.1).narrow (fun q h => hFc q h)).warm hW)) rfl rfl hl.1 rfl (lv_room (Nat.le_of_ble_eq_true rfl)) dX12_readOne_245 (by decide +kernel)) hS (fun q _ h => hFc q h) hFc (fun u t9_ H locs ht hvm hw9 hB9 hz1 hk1 hS => ?_)
                      revert u hw9 hB9
                      refine fz_p4 ?_
                      intro a2245_4 f2245_4 sg245_4 wd245_4 hw9 hB9
                      try dsimp only at hw9 hB9
                      have hP : va_P (dC, dI) vwCl (WR a k h0 (fT (fT (fT (fT vi 17 (nI a2245_4)) 19 (nI f2245_4)) 20 sg245_4) 18 wd245_4) vj (fT (fT (fT vF 41 (upd (vF 41) ((nI dN)).toNatClampNeg (nI cR))) 46 (upd (vF 46) ((nI dN)).toNatClampNeg (vi 77))) 43 (upd (vF 43) ((nI dN)).toNatClampNeg (vi 20))) vG) H := fz_P ht hB9.1
                      have hD := fz_sd hP (hB9.2.weaken (fun _ q _ h => hFc q.1 h)) rfl
                      revert hw9
                      refine fz_a2 ?_
                      intro f245_4_0 f245_4_1
                      have hl1 := f245_4_0.1
                      have hl2 := f245_4_0.2.1
                      refine lv_aload_n hx hb dX12_readOne_248 rfl (lv_at hl 0 rfl) ?_
                      refine va_get (D := (dC, dI)) (ci := 12) (v := .ref (a 40)) (C := RX12) (T := TX12) (N := 163) (fs := fM (vS a (fT (fT (fT (fT vi 17 (nI a2245_4)) 19 (nI f2245_4)) 20 sg245_4) 18 wd245_4) vj)) hx hb hts iwsRX12_readOne_in12 hown hK hP 0 rfl rfl 65 (by decide) (hts _ hm_r_X12_readOne_0) (fun _ h9 => h9) rfl dX12_readOne_249 ?_
                      refine lv_iload_n hx hb dX12_readOne_252 rfl (lv_at hl 1 rfl) ?_
                      refine lv_iconst (v := 4) hx hb dX12_readOne_253 (by decide) ?_
                      refine va_iast (cA := k 40) (n := 120) (f := (vF 40)) hx hb hK hP hD hS 41 40 (WR_get 40 (by decide)) (TR_get 40 (by decide)) (vp_in_nI (show dN < 120 by omega) (by omega)) dX12_readOne_254 (fun H locs hP hD hS => ?_)
                      have hP : va_P (dC, dI) vwCl (WR a k h0 (fT (fT (fT (fT vi 17 (nI a2245_4)) 19 (nI f2245_4)) 20 sg245_4) 18 wd245_4) vj (fT (fT (fT (fT vF 41 (upd (vF 41) ((nI dN)).toNatClampNeg (nI cR))) 46 (upd (vF 46) ((nI dN)).toNatClampNeg (vi 77))) 43 (upd (vF 43) ((nI dN)).toNatClampNeg (vi 20))) 40 (upd (vF 40) ((nI dN)).toNatClampNeg 4)) vG) H := fz_w (WR_F 40 (by decide) _ rfl) hP
                      have hD : va_D A (WR a k h0 (fT (fT (fT (fT vi 17 (nI a2245_4)) 19 (nI f2245_4)) 20 sg245_4) 18 wd245_4) vj (fT (fT (fT (fT vF 41 (upd (vF 41) ((nI dN)).toNatClampNeg (nI cR))) 46 (upd (vF 46) ((nI dN)).toNatClampNeg (vi 77))) 43 (upd (vF 43) ((nI dN)).toNatClampNeg (vi 20))) 40 (upd (vF 40) ((nI dN)).toNatClampNeg 4)) vG) := fz_wD (WR_F 40 (by decide) _ rfl) hD
                      refine lv_aload_n hx hb dX12_readOne_255 rfl (lv_at hl 0 rfl) ?_
                      refine lv_iconst (v := 0) hx hb dX12_readOne_256 (by decide) ?_
                      have hFc := allFree hD hS hA
                      refine va_callv (va_runV (As := [.int 0]) (rest := []) ⟨hx, hb, hml, hown, hts⟩ (r_X12_begin1 l dC dI a k h0 (fT (fT (fT (fT vi 17 (nI a2245_4)) 19 (nI f2245_4)) 20 sg245_4) 18 wd245_4) vj (fT (fT (fT (fT vF 41 (upd (vF 41) ((nI dN)).toNatClampNeg (nI cR))) 46 (upd (vF 46) ((nI dN)).toNatClampNeg (vi 77))) 43 (upd (vF 43) ((nI dN)).toNatClampNeg (vi 20))) 40 (upd (vF 40) ((nI dN)).toNatClampNeg 4)) vG 0 tp a2245_4 f2245_4 nm se pa va bd (dN + 1) wi hTp (by first | with_reducible assumption | decide | omega | rfl | assumption) rfl rfl (f245_4_0) (by first | with_reducible assumption | decide | omega | rfl | assumption) hnm (by first | with_reducible assumption | decide | omega | rfl | assumption) (by first | with_reducible assumption | decide | omega | rfl | assumption) (by first | with_reducible assumption | decide | omega | rfl | assumption) hbd (by first | with_reducible assumption | decide | omega | rfl | assumption) (by first | with_reducible assumption | decide | omega | rfl | assumption) (hdp) (by first | with_reducible assumption | decide | omega | rfl | assumption) hwi (by first | with_reducible assumption | decide | omega | rfl | assumption) H.size) (cwV 1 hts gwsRX12_readOne_2 rfl rfl rfl hd_yX12_begin1_RX12 (by decide +kernel)) (fz_pre (va_recv hK hP (ci := 12) (q0 := 0) rfl rfl) hP hK hD) rfl rfl hl.1 rfl (lv_room (Nat.le_of_ble_eq_true rfl)) dX12_readOne_257 (by decide +kernel)) hS (fun q _ h => hFc q h) hFc (fun u t9_ H locs ht hvm hw9 hB9 hz1 hk1 hS => ?_)
                      revert u hw9 hB9
                      refine fz_p10 ?_
                      intro s2257_4 p2257_4 g39257_4 g40257_4 g41257_4 g42257_4 g47257_4 g48257_4 d2257_4 w2257_4 hw9 hB9
                      try dsimp only at hw9 hB9
                      have e9F : fT (fT (fT (fT (fT (fT (fT (fT vF 41 g41257_4) 46 (upd (vF 46) ((nI dN)).toNatClampNeg (vi 77))) 43 (upd (vF 43) ((nI dN)).toNatClampNeg (vi 20))) 40 g40257_4) 39 g39257_4) 42 g42257_4) 47 g47257_4) 48 g48257_4 = fT (fT (fT (fT (fT (fT (fT (fT (fT (fT vF 41 (upd (vF 41) ((nI dN)).toNatClampNeg (nI cR))) 46 (upd (vF 46) ((nI dN)).toNatClampNeg (vi 77))) 43 (upd (vF 43) ((nI dN)).toNatClampNeg (vi 20))) 40 (upd (vF 40) ((nI dN)).toNatClampNeg 4)) 39 g39257_4) 40 g40257_4) 41 g41257_4) 42 g42257_4) 47 g47257_4) 48 g48257_4 := ch_E vF [g41257_4, upd (vF 46) ((nI dN)).toNatClampNeg (vi 77), upd (vF 43) ((nI dN)).toNatClampNeg (vi 20), g40257_4, g39257_4, g42257_4, g47257_4, g48257_4, upd (vF 41) ((nI dN)).toNatClampNeg (nI cR), upd (vF 40) ((nI dN)).toNatClampNeg 4] [(48, 8), (47, 7), (42, 6), (39, 5), (40, 4), (43, 3), (46, 2), (41, 1)] [(48, 8), (47, 7), (42, 6), (41, 1), (40, 4), (39, 5), (40, 10), (43, 3), (46, 2), (41, 9)] [] trivial (by decide +kernel)
                      have hP := wr_PF e9F (fz_P ht hB9.1)
                      have hD := wr_DF e9F (hB9.2.weaken (fun _ q _ h => hFc q.1 h))
                      clear e9F
                      revert hw9
                      refine fz_a4 ?_
                      intro f257_4_0 f257_4_1 f257_4_2 f257_4_3
                      have f257_4_1 : 0 < (s2257_4).toInt ∨ (s2257_4 = (vi 21) ∧ BgO 0 wd245_4 sg245_4 g39257_4 g40257_4 g41257_4 g42257_4 g48257_4 (dN + 1) wi d2257_4 w2257_4) := f257_4_1
                      have f257_4_2 : FrmO (dN + 1) (vF 39) (upd (vF 40) ((nI dN)).toNatClampNeg 4) (upd (vF 41) ((nI dN)).toNatClampNeg (nI cR)) (vF 42) (vF 48) g39257_4 g40257_4 g41257_4 g42257_4 g48257_4 := f257_4_2
                      refine lv_goto (tgt := 314) hx hb dX12_readOne_260 (by decide) ?_
                      refine W.widen (k := 0) (n := 0) (by decide +kernel) (by decide +kernel) ?_
                      have e9 : fT (fT (fT (fT (fT (fT (fT (fT (fT (fT (fT vi 17 (nI a2245_4)) 19 (nI f2245_4)) 20 sg245_4) 18 wd245_4) 21 s2257_4) 22 p2257_4) 74 (nI d2257_4)) 75 (nI w2257_4)) 76 (vi 76)) 77 (vi 77)) 52 (nI nd) = fT (fT (fT (fT (fT (fT (fT (fT vi 17 (nI a2245_4)) 19 (nI f2245_4)) 20 sg245_4) 18 wd245_4) 75 (nI w2257_4)) 74 (nI d2257_4)) 21 s2257_4) 22 p2257_4 := ch_E vi [nI a2245_4, nI f2245_4, sg245_4, wd245_4, s2257_4, p2257_4, nI d2257_4, nI w2257_4, nI nd] [(52, 9), (77, 0), (76, 0), (75, 8), (74, 7), (22, 6), (21, 5), (18, 4), (20, 3), (19, 2), (17, 1)] [(22, 6), (21, 5), (74, 7), (75, 8), (18, 4), (20, 3), (19, 2), (17, 1)] [52] ⟨show nI nd = vi 52 from (by first | with_reducible rfl | with_reducible assumption | (symm; with_reducible assumption) | rfl | assumption | (symm; assumption) | (subst_vars; rfl)), trivial⟩ (by decide +kernel)
                      have hP := wr_Pi e9 hP
                      have hD := wr_Di e9 hD
                      clear e9
                      have e9 : fT (fT (fT (fT (fT (fT (fT (fT (fT (fT (fT (fT (fT (fT (fT vF 41 g41257_4) 46 (upd (vF 46) ((nI dN)).toNatClampNeg (vi 77))) 43 (upd (vF 43) ((nI dN)).toNatClampNeg (vi 20))) 40 g40257_4) 39 g39257_4) 42 g42257_4) 47 g47257_4) 48 g48257_4) 29 (vF 29)) 30 (vF 30)) 31 (vF 31)) 32 (vF 32)) 33 (vF 33)) 34 (vF 34)) 35 (vF 35) = fT (fT (fT (fT (fT (fT (fT (fT vF 41 g41257_4) 46 (upd (vF 46) ((nI dN)).toNatClampNeg (vi 77))) 43 (upd (vF 43) ((nI dN)).toNatClampNeg (vi 20))) 40 g40257_4) 39 g39257_4) 42 g42257_4) 47 g47257_4) 48 g48257_4 := ch_E vF [g41257_4, upd (vF 46) ((nI dN)).toNatClampNeg (vi 77), upd (vF 43) ((nI dN)).toNatClampNeg (vi 20), g40257_4, g39257_4, g42257_4, g47257_4, g48257_4] [(35, 0), (34, 0), (33, 0), (32, 0), (31, 0), (30, 0), (29, 0), (48, 8), (47, 7), (42, 6), (39, 5), (40, 4), (43, 3), (46, 2), (41, 1)] [(48, 8), (47, 7), (42, 6), (39, 5), (40, 4), (43, 3), (46, 2), (41, 1)] [] trivial (by decide +kernel)
                      have hP := wr_PF e9 hP
                      have hD := wr_DF e9 hD
                      clear e9
                      exact W.vret hx hb hr (fun t9_ ht hW => ⟨⟨(a2245_4, f2245_4, sg245_4, wd245_4, s2257_4, p2257_4, (vF 29), (vF 30), (vF 31), (vF 32), (vF 33), (vF 34), (vF 35), g39257_4, g40257_4, g41257_4, g42257_4, (upd (vF 43) ((nI dN)).toNatClampNeg (vi 20)), (upd (vF 46) ((nI dN)).toNatClampNeg (vi 77)), g47257_4, g48257_4, d2257_4, w2257_4, nd, (vi 76), (vi 77), gG), rfl, by (try dsimp only); exact ⟨f245_4_0, by omega, f257_4_0, by rcases f257_4_1 with h9 | h9; (exact Or.inl h9); (exact Or.inr ⟨RdS.push (gm := gl) hK0.1 hBel hK0.2.1 (Nat.le_refl _) (fun q hq => ⟨rfl, by rw [upd_at (by omega), if_neg (by omega)], by rw [upd_at (by omega), if_neg (by omega)], rfl, rfl⟩) h39 (by decide) h48 (by omega) ⟨⟨by omega, fun h8 => absurd rfl h8, fun h8 => absurd h8 (by decide), Nat.le_refl _⟩, Or.inr (Or.inr (Or.inr (Or.inr (Or.inr (Or.inr (Or.inr (Or.inr (Or.inr (Or.inr (Or.inr (⟨rfl, rfl, by rw [upd_at (by omega), if_pos rfl], rfl, rfl, rfl, cR, by rw [upd_at (by omega), if_pos rfl], hcR.mono (by omega)⟩)))))))))))⟩ f257_4_2 (by rw [← hwc]; exact h9.2) (show (0 : Int32) = nI 0 by decide) (by decide) (by omega) (by omega) (by omega) (by omega) (by omega) (by show 10 * (4000 - _) + dN + 1 + 3 ≤ mM - 1; omega), hK0.2.1.less (Nat.zero_le _)⟩), by omega⟩, by rw [ht]; exact hP, hD⟩, hS.F ht⟩) hS.2.2 dX12_readOne_314
                    · have t_217 : ¬ ((vi 20)).toInt = 61 := toI_neq c_217 rfl (by decide)
                      refine lv_aload_n hx hb dX12_readOne_220 rfl (lv_at hl 0 rfl) ?_
                      refine va_get (D := (dC, dI)) (ci := 12) (v := .int (vi 20)) (C := RX12) (T := TX12) (N := 163) (fs := fM (vS a vi vj)) hx hb hts iwsRX12_readOne_in12 hown hK hP 0 rfl rfl 20 (by decide) (hts _ hm_r_X12_readOne_5) (fun _ h9 => h9) rfl dX12_readOne_221 ?_
                      refine lv_bipush (v := 78) hx hb dX12_readOne_224 (by decide) ?_
                      refine lv_icmp_eq (tgt := 234) hx hb dX12_readOne_226 (by decide) (fun c_226 => ?_) (fun c_226 => ?_)
                      · have t_226 : ((vi 20)).toInt = 78 := toI_eq c_226 rfl (by decide)
                        have hfl : fn < an := hLx.2.2.1.resolve_left (fun h => absurd (show (vi 18).toInt = 0 by rw [h]; decide) (by omega))
                        refine lv_aload_n hx hb dX12_readOne_234 rfl (lv_at hl 0 rfl) ?_
                        refine va_get (D := (dC, dI)) (ci := 12) (v := .ref (a 43)) (C := RX12) (T := TX12) (N := 163) (fs := fM (vS a vi vj)) hx hb hts iwsRX12_readOne_in12 hown hK hP 0 rfl rfl 68 (by decide) (hts _ hm_r_X12_readOne_6) (fun _ h9 => h9) rfl dX12_readOne_235 ?_
                        refine lv_iload_n hx hb dX12_readOne_238 rfl (lv_at hl 1 rfl) ?_
                        refine lv_aload_n hx hb dX12_readOne_239 rfl (lv_at hl 0 rfl) ?_
                        refine va_get (D := (dC, dI)) (ci := 12) (v := .int (vi 20)) (C := RX12) (T := TX12) (N := 163) (fs := fM (vS a vi vj)) hx hb hts iwsRX12_readOne_in12 hown hK hP 0 rfl rfl 20 (by decide) (hts _ hm_r_X12_readOne_5) (fun _ h9 => h9) rfl dX12_readOne_240 ?_
                        refine va_iast (cA := k 43) (n := 120) (f := (vF 43)) hx hb hK hP hD hS 44 43 (WR_get 43 (by decide)) (TR_get 43 (by decide)) (vp_in_nI (show dN < 120 by omega) (by omega)) dX12_readOne_243 (fun H locs hP hD hS => ?_)
                        have hP : va_P (dC, dI) vwCl (WR a k h0 vi vj (fT (fT (fT vF 41 (upd (vF 41) ((nI dN)).toNatClampNeg (nI cR))) 46 (upd (vF 46) ((nI dN)).toNatClampNeg (vi 77))) 43 (upd (vF 43) ((nI dN)).toNatClampNeg (vi 20))) vG) H := fz_w (WR_F 43 (by decide) _ rfl) hP
                        have hD : va_D A (WR a k h0 vi vj (fT (fT (fT vF 41 (upd (vF 41) ((nI dN)).toNatClampNeg (nI cR))) 46 (upd (vF 46) ((nI dN)).toNatClampNeg (vi 77))) 43 (upd (vF 43) ((nI dN)).toNatClampNeg (vi 20))) vG) := fz_wD (WR_F 43 (by decide) _ rfl) hD
                        refine lv_aload_n hx hb dX12_readOne_244 rfl (lv_at hl 0 rfl) ?_
                        have hFc := allFree hD hS hA
                        refine va_callv (va_runV (As := []) (rest := []) ⟨hx, hb, hml, hown, hts⟩ (r_X12_next l dC dI a k h0 vi vj (fT (fT (fT vF 41 (upd (vF 41) ((nI dN)).toNatClampNeg (nI cR))) 46 (upd (vF 46) ((nI dN)).toNatClampNeg (vi 77))) 43 (upd (vF 43) ((nI dN)).toNatClampNeg (vi 20))) vG tp an hTp (by first | with_reducible assumption | decide | omega | rfl | assumption) ha0 (by first | with_reducible assumption | decide | omega | rfl | assumption) H.size) (cwV 0 hts gwsRX12_readOne_1 rfl rfl rfl hd_yX12_next_RX12 (by decide +kernel)) (fz_preE (va_recv hK hP (ci := 12) (q0 := 0) rfl rfl) hP hK hD (fun a U g mk qE => qE.same rfl) (fun U hU9 hW => by rw [hU9]; exact (((hE : StrA A s s.heap).kept hS.2.1).narrow (fun q h => hFc q h)).warm hW)) rfl rfl hl.1 rfl (lv_room (Nat.le_of_ble_eq_true rfl)) dX12_readOne_245 (by decide +kernel)) hS (fun q _ h => hFc q h) hFc (fun u t9_ H locs ht hvm hw9 hB9 hz1 hk1 hS => ?_)
                        revert u hw9 hB9
                        refine fz_p4 ?_
                        intro a2245_5 f2245_5 sg245_5 wd245_5 hw9 hB9
                        try dsimp only at hw9 hB9
                        have hP : va_P (dC, dI) vwCl (WR a k h0 (fT (fT (fT (fT vi 17 (nI a2245_5)) 19 (nI f2245_5)) 20 sg245_5) 18 wd245_5) vj (fT (fT (fT vF 41 (upd (vF 41) ((nI dN)).toNatClampNeg (nI cR))) 46 (upd (vF 46) ((nI dN)).toNatClampNeg (vi 77))) 43 (upd (vF 43) ((nI dN)).toNatClampNeg (vi 20))) vG) H := fz_P ht hB9.1
                        have hD := fz_sd hP (hB9.2.weaken (fun _ q _ h => hFc q.1 h)) rfl
                        revert hw9
                        refine fz_a2 ?_
                        intro f245_5_0 f245_5_1
                        have hl1 := f245_5_0.1
                        have hl2 := f245_5_0.2.1
                        refine lv_aload_n hx hb dX12_readOne_248 rfl (lv_at hl 0 rfl) ?_
                        refine va_get (D := (dC, dI)) (ci := 12) (v := .ref (a 40)) (C := RX12) (T := TX12) (N := 163) (fs := fM (vS a (fT (fT (fT (fT vi 17 (nI a2245_5)) 19 (nI f2245_5)) 20 sg245_5) 18 wd245_5) vj)) hx hb hts iwsRX12_readOne_in12 hown hK hP 0 rfl rfl 65 (by decide) (hts _ hm_r_X12_readOne_0) (fun _ h9 => h9) rfl dX12_readOne_249 ?_
                        refine lv_iload_n hx hb dX12_readOne_252 rfl (lv_at hl 1 rfl) ?_
                        refine lv_iconst (v := 4) hx hb dX12_readOne_253 (by decide) ?_
                        refine va_iast (cA := k 40) (n := 120) (f := (vF 40)) hx hb hK hP hD hS 41 40 (WR_get 40 (by decide)) (TR_get 40 (by decide)) (vp_in_nI (show dN < 120 by omega) (by omega)) dX12_readOne_254 (fun H locs hP hD hS => ?_)
                        have hP : va_P (dC, dI) vwCl (WR a k h0 (fT (fT (fT (fT vi 17 (nI a2245_5)) 19 (nI f2245_5)) 20 sg245_5) 18 wd245_5) vj (fT (fT (fT (fT vF 41 (upd (vF 41) ((nI dN)).toNatClampNeg (nI cR))) 46 (upd (vF 46) ((nI dN)).toNatClampNeg (vi 77))) 43 (upd (vF 43) ((nI dN)).toNatClampNeg (vi 20))) 40 (upd (vF 40) ((nI dN)).toNatClampNeg 4)) vG) H := fz_w (WR_F 40 (by decide) _ rfl) hP
                        have hD : va_D A (WR a k h0 (fT (fT (fT (fT vi 17 (nI a2245_5)) 19 (nI f2245_5)) 20 sg245_5) 18 wd245_5) vj (fT (fT (fT (fT vF 41 (upd (vF 41) ((nI dN)).toNatClampNeg (nI cR))) 46 (upd (vF 46) ((nI dN)).toNatClampNeg (vi 77))) 43 (upd (vF 43) ((nI dN)).toNatClampNeg (vi 20))) 40 (upd (vF 40) ((nI dN)).toNatClampNeg 4)) vG) := fz_wD (WR_F 40 (by decide) _ rfl) hD
                        refine lv_aload_n hx hb dX12_readOne_255 rfl (lv_at hl 0 rfl) ?_
                        refine lv_iconst (v := 0) hx hb dX12_readOne_256 (by decide) ?_
                        have hFc := allFree hD hS hA
                        refine va_callv (va_runV (As := [.int 0]) (rest := []) ⟨hx, hb, hml, hown, hts⟩ (r_X12_begin1 l dC dI a k h0 (fT (fT (fT (fT vi 17 (nI a2245_5)) 19 (nI f2245_5)) 20 sg245_5) 18 wd245_5) vj (fT (fT (fT (fT vF 41 (upd (vF 41) ((nI dN)).toNatClampNeg (nI cR))) 46 (upd (vF 46) ((nI dN)).toNatClampNeg (vi 77))) 43 (upd (vF 43) ((nI dN)).toNatClampNeg (vi 20))) 40 (upd (vF 40) ((nI dN)).toNatClampNeg 4)) vG 0 tp a2245_5 f2245_5 nm se pa va bd (dN + 1) wi hTp (by first | with_reducible assumption | decide | omega | rfl | assumption) rfl rfl (f245_5_0) (by first | with_reducible assumption | decide | omega | rfl | assumption) hnm (by first | with_reducible assumption | decide | omega | rfl | assumption) (by first | with_reducible assumption | decide | omega | rfl | assumption) (by first | with_reducible assumption | decide | omega | rfl | assumption) hbd (by first | with_reducible assumption | decide | omega | rfl | assumption) (by first | with_reducible assumption | decide | omega | rfl | assumption) (hdp) (by first | with_reducible assumption | decide | omega | rfl | assumption) hwi (by first | with_reducible assumption | decide | omega | rfl | assumption) H.size) (cwV 1 hts gwsRX12_readOne_2 rfl rfl rfl hd_yX12_begin1_RX12 (by decide +kernel)) (fz_pre (va_recv hK hP (ci := 12) (q0 := 0) rfl rfl) hP hK hD) rfl rfl hl.1 rfl (lv_room (Nat.le_of_ble_eq_true rfl)) dX12_readOne_257 (by decide +kernel)) hS (fun q _ h => hFc q h) hFc (fun u t9_ H locs ht hvm hw9 hB9 hz1 hk1 hS => ?_)
                        revert u hw9 hB9
                        refine fz_p10 ?_
                        intro s2257_5 p2257_5 g39257_5 g40257_5 g41257_5 g42257_5 g47257_5 g48257_5 d2257_5 w2257_5 hw9 hB9
                        try dsimp only at hw9 hB9
                        have e9F : fT (fT (fT (fT (fT (fT (fT (fT vF 41 g41257_5) 46 (upd (vF 46) ((nI dN)).toNatClampNeg (vi 77))) 43 (upd (vF 43) ((nI dN)).toNatClampNeg (vi 20))) 40 g40257_5) 39 g39257_5) 42 g42257_5) 47 g47257_5) 48 g48257_5 = fT (fT (fT (fT (fT (fT (fT (fT (fT (fT vF 41 (upd (vF 41) ((nI dN)).toNatClampNeg (nI cR))) 46 (upd (vF 46) ((nI dN)).toNatClampNeg (vi 77))) 43 (upd (vF 43) ((nI dN)).toNatClampNeg (vi 20))) 40 (upd (vF 40) ((nI dN)).toNatClampNeg 4)) 39 g39257_5) 40 g40257_5) 41 g41257_5) 42 g42257_5) 47 g47257_5) 48 g48257_5 := ch_E vF [g41257_5, upd (vF 46) ((nI dN)).toNatClampNeg (vi 77), upd (vF 43) ((nI dN)).toNatClampNeg (vi 20), g40257_5, g39257_5, g42257_5, g47257_5, g48257_5, upd (vF 41) ((nI dN)).toNatClampNeg (nI cR), upd (vF 40) ((nI dN)).toNatClampNeg 4] [(48, 8), (47, 7), (42, 6), (39, 5), (40, 4), (43, 3), (46, 2), (41, 1)] [(48, 8), (47, 7), (42, 6), (41, 1), (40, 4), (39, 5), (40, 10), (43, 3), (46, 2), (41, 9)] [] trivial (by decide +kernel)
                        have hP := wr_PF e9F (fz_P ht hB9.1)
                        have hD := wr_DF e9F (hB9.2.weaken (fun _ q _ h => hFc q.1 h))
                        clear e9F
                        revert hw9
                        refine fz_a4 ?_
                        intro f257_5_0 f257_5_1 f257_5_2 f257_5_3
                        have f257_5_1 : 0 < (s2257_5).toInt ∨ (s2257_5 = (vi 21) ∧ BgO 0 wd245_5 sg245_5 g39257_5 g40257_5 g41257_5 g42257_5 g48257_5 (dN + 1) wi d2257_5 w2257_5) := f257_5_1
                        have f257_5_2 : FrmO (dN + 1) (vF 39) (upd (vF 40) ((nI dN)).toNatClampNeg 4) (upd (vF 41) ((nI dN)).toNatClampNeg (nI cR)) (vF 42) (vF 48) g39257_5 g40257_5 g41257_5 g42257_5 g48257_5 := f257_5_2
                        refine lv_goto (tgt := 314) hx hb dX12_readOne_260 (by decide) ?_
                        refine W.widen (k := 0) (n := 0) (by decide +kernel) (by decide +kernel) ?_
                        have e9 : fT (fT (fT (fT (fT (fT (fT (fT (fT (fT (fT vi 17 (nI a2245_5)) 19 (nI f2245_5)) 20 sg245_5) 18 wd245_5) 21 s2257_5) 22 p2257_5) 74 (nI d2257_5)) 75 (nI w2257_5)) 76 (vi 76)) 77 (vi 77)) 52 (nI nd) = fT (fT (fT (fT (fT (fT (fT (fT vi 17 (nI a2245_5)) 19 (nI f2245_5)) 20 sg245_5) 18 wd245_5) 75 (nI w2257_5)) 74 (nI d2257_5)) 21 s2257_5) 22 p2257_5 := ch_E vi [nI a2245_5, nI f2245_5, sg245_5, wd245_5, s2257_5, p2257_5, nI d2257_5, nI w2257_5, nI nd] [(52, 9), (77, 0), (76, 0), (75, 8), (74, 7), (22, 6), (21, 5), (18, 4), (20, 3), (19, 2), (17, 1)] [(22, 6), (21, 5), (74, 7), (75, 8), (18, 4), (20, 3), (19, 2), (17, 1)] [52] ⟨show nI nd = vi 52 from (by first | with_reducible rfl | with_reducible assumption | (symm; with_reducible assumption) | rfl | assumption | (symm; assumption) | (subst_vars; rfl)), trivial⟩ (by decide +kernel)
                        have hP := wr_Pi e9 hP
                        have hD := wr_Di e9 hD
                        clear e9
                        have e9 : fT (fT (fT (fT (fT (fT (fT (fT (fT (fT (fT (fT (fT (fT (fT vF 41 g41257_5) 46 (upd (vF 46) ((nI dN)).toNatClampNeg (vi 77))) 43 (upd (vF 43) ((nI dN)).toNatClampNeg (vi 20))) 40 g40257_5) 39 g39257_5) 42 g42257_5) 47 g47257_5) 48 g48257_5) 29 (vF 29)) 30 (vF 30)) 31 (vF 31)) 32 (vF 32)) 33 (vF 33)) 34 (vF 34)) 35 (vF 35) = fT (fT (fT (fT (fT (fT (fT (fT vF 41 g41257_5) 46 (upd (vF 46) ((nI dN)).toNatClampNeg (vi 77))) 43 (upd (vF 43) ((nI dN)).toNatClampNeg (vi 20))) 40 g40257_5) 39 g39257_5) 42 g42257_5) 47 g47257_5) 48 g48257_5 := ch_E vF [g41257_5, upd (vF 46) ((nI dN)).toNatClampNeg (vi 77), upd (vF 43) ((nI dN)).toNatClampNeg (vi 20), g40257_5, g39257_5, g42257_5, g47257_5, g48257_5] [(35, 0), (34, 0), (33, 0), (32, 0), (31, 0), (30, 0), (29, 0), (48, 8), (47, 7), (42, 6), (39, 5), (40, 4), (43, 3), (46, 2), (41, 1)] [(48, 8), (47, 7), (42, 6), (39, 5), (40, 4), (43, 3), (46, 2), (41, 1)] [] trivial (by decide +kernel)
                        have hP := wr_PF e9 hP
                        have hD := wr_DF e9 hD
                        clear e9
                        exact W.vret hx hb hr (fun t9_ ht hW => ⟨⟨(a2245_5, f2245_5, sg245_5, wd245_5, s2257_5, p2257_5, (vF 29), (vF 30), (vF 31), (vF 32), (vF 33), (vF 34), (vF 35), g39257_5, g40257_5, g41257_5, g42257_5, (upd (vF 43) ((nI dN)).toNatClampNeg (vi 20)), (upd (vF 46) ((nI dN)).toNatClampNeg (vi 77)), g47257_5, g48257_5, d2257_5, w2257_5, nd, (vi 76), (vi 77), gG), rfl, by (try dsimp only); exact ⟨f245_5_0, by omega, f257_5_0, by rcases f257_5_1 with h9 | h9; (exact Or.inl h9); (exact Or.inr ⟨RdS.push (gm := gl) hK0.1 hBel hK0.2.1 (Nat.le_refl _) (fun q hq => ⟨rfl, by rw [upd_at (by omega), if_neg (by omega)], by rw [upd_at (by omega), if_neg (by omega)], rfl, rfl⟩) h39 (by decide) h48 (by omega) ⟨⟨by omega, fun h8 => absurd rfl h8, fun h8 => absurd h8 (by decide), Nat.le_refl _⟩, Or.inr (Or.inr (Or.inr (Or.inr (Or.inr (Or.inr (Or.inr (Or.inr (Or.inr (Or.inr (Or.inr (⟨rfl, rfl, by rw [upd_at (by omega), if_pos rfl], rfl, rfl, rfl, cR, by rw [upd_at (by omega), if_pos rfl], hcR.mono (by omega)⟩)))))))))))⟩ f257_5_2 (by rw [← hwc]; exact h9.2) (show (0 : Int32) = nI 0 by decide) (by decide) (by omega) (by omega) (by omega) (by omega) (by omega) (by show 10 * (4000 - _) + dN + 1 + 3 ≤ mM - 1; omega), hK0.2.1.less (Nat.zero_le _)⟩), by omega⟩, by rw [ht]; exact hP, hD⟩, hS.F ht⟩) hS.2.2 dX12_readOne_314
                      · have t_226 : ¬ ((vi 20)).toInt = 78 := toI_neq c_226 rfl (by decide)
                        refine lv_aload_n hx hb dX12_readOne_229 rfl (lv_at hl 0 rfl) ?_
                        have hFc := allFree hD hS hA
                        refine va_callv (va_runV (As := []) (rest := []) ⟨hx, hb, hml, hown, hts⟩ (r_X12_wrong l dC dI a k h0 vi vj (fT (fT vF 41 (upd (vF 41) ((nI dN)).toNatClampNeg (nI cR))) 46 (upd (vF 46) ((nI dN)).toNatClampNeg (vi 77))) vG H.size) (cwV 0 hts gwsRX12_readOne_7 rfl rfl rfl hd_yX12_wrong_RX12 (by decide +kernel)) (fz_pre (va_recv hK hP (ci := 12) (q0 := 0) rfl rfl) hP hK hD) rfl rfl hl.1 rfl (lv_room (Nat.le_of_ble_eq_true rfl)) dX12_readOne_230 (by decide +kernel)) hS (fun q _ h => hFc q h) hFc (fun u t9_ H locs ht hvm hw9 hB9 hz1 hk1 hS => ?_)
                        revert u hw9 hB9
                        refine fz_p2 ?_
                        intro s2230_1 p2230_1 hw9 hB9
                        try dsimp only at hw9 hB9
                        have hP : va_P (dC, dI) vwCl (WR a k h0 (fT (fT vi 21 s2230_1) 22 p2230_1) vj (fT (fT vF 41 (upd (vF 41) ((nI dN)).toNatClampNeg (nI cR))) 46 (upd (vF 46) ((nI dN)).toNatClampNeg (vi 77))) vG) H := fz_P ht hB9.1
                        have hD := fz_sd hP (hB9.2.weaken (fun _ q _ h => hFc q.1 h)) rfl
                        revert hw9
                        refine fz_a2 ?_
                        intro f230_1_0 f230_1_1
                        have f230_1_0 : (0 < (vi 21).toInt ∧ s2230_1 = (vi 21) ∧ p2230_1 = (vi 22)) ∨ (¬ 0 < (vi 21).toInt ∧ (s2230_1 = 1 ∨ s2230_1 = 2) ∧ p2230_1 = (vi 19)) := f230_1_0
                        refine W.widen (k := 0) (n := 0) (by decide +kernel) (by decide +kernel) ?_
                        have e9 : fT (fT (fT (fT (fT (fT (fT (fT (fT (fT (fT vi 17 (nI an)) 19 (nI fn)) 20 (vi 20)) 18 (vi 18)) 21 s2230_1) 22 p2230_1) 74 (nI (dN + 1))) 75 (nI wi)) 76 (vi 76)) 77 (vi 77)) 52 (nI nd) = fT (fT vi 21 s2230_1) 22 p2230_1 := ch_E vi [nI an, nI fn, s2230_1, p2230_1, nI (dN + 1), nI wi, nI nd] [(52, 7), (77, 0), (76, 0), (75, 6), (74, 5), (22, 4), (21, 3), (18, 0), (20, 0), (19, 2), (17, 1)] [(22, 4), (21, 3)] [17, 19, 74, 75, 52] ⟨show nI an = vi 17 from (by first | with_reducible rfl | with_reducible assumption | (symm; with_reducible assumption) | rfl | assumption | (symm; assumption) | (subst_vars; rfl)), show nI fn = vi 19 from (by first | with_reducible rfl | with_reducible assumption | (symm; with_reducible assumption) | rfl | assumption | (symm; assumption) | (subst_vars; rfl)), show nI (dN + 1) = vi 74 from (by first | with_reducible rfl | with_reducible assumption | (symm; with_reducible assumption) | rfl | assumption | (symm; assumption) | (subst_vars; rfl)), show nI wi = vi 75 from (by first | with_reducible rfl | with_reducible assumption | (symm; with_reducible assumption) | rfl | assumption | (symm; assumption) | (subst_vars; rfl)), show nI nd = vi 52 from (by first | with_reducible rfl | with_reducible assumption | (symm; with_reducible assumption) | rfl | assumption | (symm; assumption) | (subst_vars; rfl)), trivial⟩ (by decide +kernel)
                        have hP := wr_Pi e9 hP
                        have hD := wr_Di e9 hD
                        clear e9
                        have e9 : fT (fT (fT (fT (fT (fT (fT (fT (fT (fT (fT (fT (fT (fT (fT vF 41 (upd (vF 41) ((nI dN)).toNatClampNeg (nI cR))) 46 (upd (vF 46) ((nI dN)).toNatClampNeg (vi 77))) 43 (vF 43)) 40 (vF 40)) 39 (vF 39)) 42 (vF 42)) 47 (vF 47)) 48 (vF 48)) 29 (vF 29)) 30 (vF 30)) 31 (vF 31)) 32 (vF 32)) 33 (vF 33)) 34 (vF 34)) 35 (vF 35) = fT (fT vF 41 (upd (vF 41) ((nI dN)).toNatClampNeg (nI cR))) 46 (upd (vF 46) ((nI dN)).toNatClampNeg (vi 77)) := ch_E vF [upd (vF 41) ((nI dN)).toNatClampNeg (nI cR), upd (vF 46) ((nI dN)).toNatClampNeg (vi 77)] [(35, 0), (34, 0), (33, 0), (32, 0), (31, 0), (30, 0), (29, 0), (48, 0), (47, 0), (42, 0), (39, 0), (40, 0), (43, 0), (46, 2), (41, 1)] [(46, 2), (41, 1)] [] trivial (by decide +kernel)
                        have hP := wr_PF e9 hP
                        have hD := wr_DF e9 hD
                        clear e9
                        exact W.vret hx hb hr (fun t9_ ht hW => ⟨⟨(an, fn, (vi 20), (vi 18), s2230_1, p2230_1, (vF 29), (vF 30), (vF 31), (vF 32), (vF 33), (vF 34), (vF 35), (vF 39), (vF 40), (upd (vF 41) ((nI dN)).toNatClampNeg (nI cR)), (vF 42), (vF 43), (upd (vF 46) ((nI dN)).toNatClampNeg (vi 77)), (vF 47), (vF 48), (dN + 1), wi, nd, (vi 76), (vi 77), gG), rfl, by (try dsimp only); exact ⟨hLx, by omega, by omega, Or.inl f230_1_1, by omega⟩, by rw [ht]; exact hP, hD⟩, hS.F ht⟩) hS.2.2 dX12_readOne_233
        · have ts_6_3 : ¬ (((vF 40) dN)).toInt = 3 := toI_neq s_6_3 rfl (by decide)
          refine lv_tableOut (tgt := 263) hx hb dX12_readOne_6 (by have := lv_neT s_6_0 (show Int32.toInt 0 = 0 by decide); have := lv_neT s_6_1 (show Int32.toInt 1 = 1 by decide); have := lv_neT s_6_2 (show Int32.toInt 2 = 2 by decide); have := lv_neT s_6_3 (show Int32.toInt 3 = 3 by decide); omega) (by decide) ?_
          obtain ⟨hq1, hq2, hq3, hq4, hq5, hq6, hw24, cR, cP, hres, hcR, hcP, hcPL⟩ := hTq.one4 s_6_0 s_6_1 s_6_2 s_6_3
          have hK0 := RdK.first (gl := gl) hRV (by omega)
          have hKK := hK0.mkComp (kv := 13) (av := nI cP) (bv := nI cR) (cv := vF 43 dN) (by omega) (show (13 : Int32) = nI 13 by decide) rfl rfl hcPL hcR (by omega) (Nat.le_refl _) (by omega)
          have hKN := hKK.1
          have hLN := hKK.2
          refine lv_aload_n hx hb dX12_readOne_263 rfl (lv_at hl 0 rfl) ?_
          refine lv_bipush (v := 13) hx hb dX12_readOne_264 (by decide) ?_
          refine lv_aload_n hx hb dX12_readOne_266 rfl (lv_at hl 0 rfl) ?_
          refine va_get (D := (dC, dI)) (ci := 12) (v := .ref (a 41)) (C := RX12) (T := TX12) (N := 163) (fs := fM (vS a vi vj)) hx hb hts iwsRX12_readOne_in12 hown hK hP 0 rfl rfl 66 (by decide) (hts _ hm_r_X12_readOne_2) (fun _ h9 => h9) rfl dX12_readOne_267 ?_
          refine lv_iload_n hx hb dX12_readOne_270 rfl (lv_at hl 1 rfl) ?_
          refine va_iald (cA := k 41) (n := 120) (f := (vF 41)) hx hb hK hP 42 41 (WR_get 41 (by decide)) (TR_get 41 (by decide)) (vp_in_nI (show dN < 120 by omega) (by omega)) dX12_readOne_271 ?_
          refine lv_topi (fun y5 hy5 => ?_)
          obtain rfl : ((vF 41) dN) = y5 := (hy5.trans (by rw [nI_clamp (by omega)])).symm
          refine lv_topi (fun y6 hy6 => ?_)
          obtain rfl : (nI cP) = y6 := (hy6.trans (hcP)).symm
          refine lv_aload_n hx hb dX12_readOne_272 rfl (lv_at hl 0 rfl) ?_
          refine va_get (D := (dC, dI)) (ci := 12) (v := .int (vi 76)) (C := RX12) (T := TX12) (N := 163) (fs := fM (vS a vi vj)) hx hb hts iwsRX12_readOne_in12 hown hK hP 0 rfl rfl 76 (by decide) (hts _ hm_r_X12_readOne_1) (fun _ h9 => h9) rfl dX12_readOne_273 ?_
          refine lv_topi (fun y7 hy7 => ?_)
          obtain rfl : (nI cR) = y7 := (hy7.trans (hres)).symm
          refine lv_aload_n hx hb dX12_readOne_276 rfl (lv_at hl 0 rfl) ?_
          refine va_get (D := (dC, dI)) (ci := 12) (v := .ref (a 43)) (C := RX12) (T := TX12) (N := 163) (fs := fM (vS a vi vj)) hx hb hts iwsRX12_readOne_in12 hown hK hP 0 rfl rfl 68 (by decide) (hts _ hm_r_X12_readOne_6) (fun _ h9 => h9) rfl dX12_readOne_277 ?_
          refine lv_iload_n hx hb dX12_readOne_280 rfl (lv_at hl 1 rfl) ?_
          refine va_iald (cA := k 43) (n := 120) (f := (vF 43)) hx hb hK hP 44 43 (WR_get 43 (by decide)) (TR_get 43 (by decide)) (vp_in_nI (show dN < 120 by omega) (by omega)) dX12_readOne_281 ?_
          refine lv_topi (fun y8 hy8 => ?_)
          obtain rfl : ((vF 43) dN) = y8 := (hy8.trans (by rw [nI_clamp (by omega)])).symm
          refine lv_iconst (v := 0) hx hb dX12_readOne_282 (by decide) ?_
          have hFc := allFree hD hS hA
          refine va_calli (va_runV (As := [.int 13, .int (nI cP), .int (nI cR), .int ((vF 43) dN), .int 0]) (rest := []) ⟨hx, hb, hml, hown, hts⟩ (r_X12_node l dC dI a k h0 vi vj vF vG nd 13 (nI cP) (nI cR) ((vF 43) dN) 0 hnd (by first | with_reducible assumption | decide | omega | rfl | assumption) s.heap.size) (cwV 5 hts gwsRX12_readOne_4 rfl rfl rfl hd_yX12_node_RX12 (by decide +kernel)) (fz_pre (va_recv hK hP (ci := 12) (q0 := 0) rfl rfl) hP hK hD) rfl rfl hl.1 rfl (lv_room (Nat.le_of_ble_eq_true rfl)) dX12_readOne_283 (by decide +kernel)) hS (fun q _ h => hFc q h) hFc (fun r283 u t9_ H locs ht hvm hw9 hB9 hz1 hk1 hS => ?_)
          have hP : va_P (dC, dI) vwCl (WR a k h0 (fT vi 52 (nI (nd + 1))) vj (fT (fT (fT (fT (fT (fT (fT vF 29 (upd (vF 29) (nI nd).toNatClampNeg 13)) 30 (upd (vF 30) (nI nd).toNatClampNeg (nI cP))) 31 (upd (vF 31) (nI nd).toNatClampNeg (nI cR))) 32 (upd (vF 32) (nI nd).toNatClampNeg ((vF 43) dN))) 33 (upd (vF 33) (nI nd).toNatClampNeg 0)) 34 (upd (vF 34) (nI nd).toNatClampNeg 0)) 35 (upd (vF 35) (nI nd).toNatClampNeg 0)) vG) H := fz_P ht hB9.1
          have hD := fz_sd hP (hB9.2.weaken (fun _ q _ h => hFc q.1 h)) rfl
          obtain rfl := hw9
          refine lv_istore_n hx hb dX12_readOne_286 rfl hl (by decide) rfl (fun ls (hl : lv_has ls _ ([(2, .int (nI nd)), (0, .ref h0), (1, .int (nI dN))])) => ?_)
          refine lv_aload_n hx hb dX12_readOne_287 rfl (lv_at hl 1 rfl) ?_
          refine va_get (D := (dC, dI)) (ci := 12) (v := .ref (a 34)) (C := RX12) (T := TX12) (N := 163) (fs := fM (vS a (fT vi 52 (nI (nd + 1))) vj)) hx hb hts iwsRX12_readOne_in12 hown hK hP 0 rfl rfl 58 (by decide) (hts (.fieldLink RX12 125 "OptimaWorksModel" "firstA" "[I") (by decide +kernel)) (fun _ h9 => h9) rfl dX12_readOne_288 ?_
          refine lv_iload_n hx hb dX12_readOne_291 rfl (lv_at hl 0 rfl) ?_
          refine lv_aload_n hx hb dX12_readOne_292 rfl (lv_at hl 1 rfl) ?_
          refine va_get (D := (dC, dI)) (ci := 12) (v := .ref (a 46)) (C := RX12) (T := TX12) (N := 163) (fs := fM (vS a (fT vi 52 (nI (nd + 1))) vj)) hx hb hts iwsRX12_readOne_in12 hown hK hP 0 rfl rfl 71 (by decide) (hts _ hm_r_X12_readOne_3) (fun _ h9 => h9) rfl dX12_readOne_293 ?_
          refine lv_iload_n hx hb dX12_readOne_296 rfl (lv_at hl 2 rfl) ?_
          refine va_iald (cA := k 46) (n := 120) (f := (vF 46)) hx hb hK hP 47 46 (WR_get 46 (by decide)) (TR_get 46 (by decide)) (vp_in_nI (show dN < 120 by omega) (by omega)) dX12_readOne_297 ?_
          refine lv_topi (fun y9 hy9 => ?_)
          obtain rfl : ((vF 46) dN) = y9 := (hy9.trans (by rw [nI_clamp (by omega)])).symm
          refine va_iast (cA := k 34) (n := 4200) (f := (upd (vF 34) (nI nd).toNatClampNeg 0)) hx hb hK hP hD hS 35 34 (WR_get 34 (by decide)) (TR_get 34 (by decide)) (vp_in_nI (show nd < 4200 by omega) (by omega)) dX12_readOne_298 (fun H locs hP hD hS => ?_)
          have e9 : fT (fT (fT (fT (fT (fT (fT vF 29 (upd (vF 29) (nI nd).toNatClampNeg 13)) 30 (upd (vF 30) (nI nd).toNatClampNeg (nI cP))) 31 (upd (vF 31) (nI nd).toNatClampNeg (nI cR))) 32 (upd (vF 32) (nI nd).toNatClampNeg ((vF 43) dN))) 33 (upd (vF 33) (nI nd).toNatClampNeg 0)) 34 (upd (upd (vF 34) (nI nd).toNatClampNeg 0) ((nI nd)).toNatClampNeg ((vF 46) dN))) 35 (upd (vF 35) (nI nd).toNatClampNeg 0) = fT (fT (fT (fT (fT (fT (fT (fT vF 29 (upd (vF 29) (nI nd).toNatClampNeg 13)) 30 (upd (vF 30) (nI nd).toNatClampNeg (nI cP))) 31 (upd (vF 31) (nI nd).toNatClampNeg (nI cR))) 32 (upd (vF 32) (nI nd).toNatClampNeg ((vF 43) dN))) 33 (upd (vF 33) (nI nd).toNatClampNeg 0)) 34 (upd (vF 34) (nI nd).toNatClampNeg 0)) 35 (upd (vF 35) (nI nd).toNatClampNeg 0)) 34 (upd (upd (vF 34) (nI nd).toNatClampNeg 0) ((nI nd)).toNatClampNeg ((vF 46) dN)) := ((fT_sw _ _ _ (Nat.ne_of_beq_eq_false rfl)).trans (congrArg (fun g9 => fT g9 35 (upd (vF 35) (nI nd).toNatClampNeg 0)) (fT_sm _ _ _ _))).symm
          have hP := wr_PF e9 (fz_w (WR_F 34 (by decide) _ rfl) hP)
          have hD := wr_DF e9 (fz_wD (WR_F 34 (by decide) _ rfl) hD)
          clear e9
          refine lv_aload_n hx hb dX12_readOne_299 rfl (lv_at hl 1 rfl) ?_
          refine va_get (D := (dC, dI)) (ci := 12) (v := .ref (a 35)) (C := RX12) (T := TX12) (N := 163) (fs := fM (vS a (fT vi 52 (nI (nd + 1))) vj)) hx hb hts iwsRX12_readOne_in12 hown hK hP 0 rfl rfl 59 (by decide) (hts (.fieldLink RX12 128 "OptimaWorksModel" "firstB" "[I") (by decide +kernel)) (fun _ h9 => h9) rfl dX12_readOne_300 ?_
          refine lv_iload_n hx hb dX12_readOne_303 rfl (lv_at hl 0 rfl) ?_
          refine lv_aload_n hx hb dX12_readOne_304 rfl (lv_at hl 1 rfl) ?_
          refine va_get (D := (dC, dI)) (ci := 12) (v := .int (vi 77)) (C := RX12) (T := TX12) (N := 163) (fs := fM (vS a (fT vi 52 (nI (nd + 1))) vj)) hx hb hts iwsRX12_readOne_in12 hown hK hP 0 rfl rfl 77 (by decide) (hts _ hm_r_X12_readOne_4) (fun _ h9 => h9) rfl dX12_readOne_305 ?_
          refine va_iast (cA := k 35) (n := 4200) (f := (upd (vF 35) (nI nd).toNatClampNeg 0)) hx hb hK hP hD hS 36 35 (WR_get 35 (by decide)) (TR_get 35 (by decide)) (vp_in_nI (show nd < 4200 by omega) (by omega)) dX12_readOne_308 (fun H locs hP hD hS => ?_)
          have e9 : fT (fT (fT (fT (fT (fT (fT vF 29 (upd (vF 29) (nI nd).toNatClampNeg 13)) 30 (upd (vF 30) (nI nd).toNatClampNeg (nI cP))) 31 (upd (vF 31) (nI nd).toNatClampNeg (nI cR))) 32 (upd (vF 32) (nI nd).toNatClampNeg ((vF 43) dN))) 33 (upd (vF 33) (nI nd).toNatClampNeg 0)) 34 (upd (upd (vF 34) (nI nd).toNatClampNeg 0) ((nI nd)).toNatClampNeg ((vF 46) dN))) 35 (upd (upd (vF 35) (nI nd).toNatClampNeg 0) ((nI nd)).toNatClampNeg (vi 77)) = fT (fT (fT (fT (fT (fT (fT (fT vF 29 (upd (vF 29) (nI nd).toNatClampNeg 13)) 30 (upd (vF 30) (nI nd).toNatClampNeg (nI cP))) 31 (upd (vF 31) (nI nd).toNatClampNeg (nI cR))) 32 (upd (vF 32) (nI nd).toNatClampNeg ((vF 43) dN))) 33 (upd (vF 33) (nI nd).toNatClampNeg 0)) 34 (upd (upd (vF 34) (nI nd).toNatClampNeg 0) ((nI nd)).toNatClampNeg ((vF 46) dN))) 35 (upd (vF 35) (nI nd).toNatClampNeg 0)) 35 (upd (upd (vF 35) (nI nd).toNatClampNeg 0) ((nI nd)).toNatClampNeg (vi 77)) := (fT_sm _ _ _ _).symm
          have hP := wr_PF e9 (fz_w (WR_F 35 (by decide) _ rfl) hP)
          have hD := wr_DF e9 (fz_wD (WR_F 35 (by decide) _ rfl) hD)
          clear e9
          refine lv_aload_n hx hb dX12_readOne_309 rfl (lv_at hl 1 rfl) ?_
          refine lv_iload_n hx hb dX12_readOne_310 rfl (lv_at hl 0 rfl) ?_
          have hFc := allFree hD hS hA
          refine va_callv (va_runV (As := [.int (nI nd)]) (rest := []) ⟨hx, hb, hml, hown, hts⟩ (r_X12_end1w l dC dI a k h0 (fT vi 52 (nI (nd + 1))) vj (fT (fT (fT (fT (fT (fT (fT vF 29 (upd (vF 29) (nI nd).toNatClampNeg 13)) 30 (upd (vF 30) (nI nd).toNatClampNeg (nI cP))) 31 (upd (vF 31) (nI nd).toNatClampNeg (nI cR))) 32 (upd (vF 32) (nI nd).toNatClampNeg ((vF 43) dN))) 33 (upd (vF 33) (nI nd).toNatClampNeg 0)) 34 (upd (upd (vF 34) (nI nd).toNatClampNeg 0) ((nI nd)).toNatClampNeg ((vF 46) dN))) 35 (upd (upd (vF 35) (nI nd).toNatClampNeg 0) ((nI nd)).toNatClampNeg (vi 77))) vG (nI nd) dN wi xe (hdp) (by first | with_reducible assumption | decide | omega | rfl | assumption) hwi (by first | with_reducible assumption | decide | omega | rfl | assumption) (h48) (by first | with_reducible assumption | decide | omega | rfl | assumption) H.size) (cwV 1 hts gwsRX12_readOne_5 rfl rfl rfl hd_yX12_end1_RX12 (by decide +kernel)) (fz_pre (va_recv hK hP (ci := 12) (q0 := 0) rfl rfl) hP hK hD) rfl rfl hl.1 rfl (lv_room (Nat.le_of_ble_eq_true rfl)) dX12_readOne_311 (by decide +kernel)) hS (fun q _ h => hFc q h) hFc (fun u t9_ H locs ht hvm hw9 hB9 hz1 hk1 hS => ?_)
          have hP : va_P (dC, dI) vwCl (WR a k h0 (fT (fT (fT (fT (fT vi 52 (nI (nd + 1))) 74 (nI dN)) 75 (nI (wi - xe))) 76 (nI nd)) 77 ((vF 47) dN)) vj (fT (fT (fT (fT (fT (fT (fT vF 29 (upd (vF 29) (nI nd).toNatClampNeg 13)) 30 (upd (vF 30) (nI nd).toNatClampNeg (nI cP))) 31 (upd (vF 31) (nI nd).toNatClampNeg (nI cR))) 32 (upd (vF 32) (nI nd).toNatClampNeg ((vF 43) dN))) 33 (upd (vF 33) (nI nd).toNatClampNeg 0)) 34 (upd (upd (vF 34) (nI nd).toNatClampNeg 0) ((nI nd)).toNatClampNeg ((vF 46) dN))) 35 (upd (upd (vF 35) (nI nd).toNatClampNeg 0) ((nI nd)).toNatClampNeg (vi 77))) vG) H := fz_P ht hB9.1
          have hD := fz_sd hP (hB9.2.weaken (fun _ q _ h => hFc q.1 h)) rfl
          refine W.widen (k := 0) (n := 0) (by decide +kernel) (by decide +kernel) ?_
          have e9 : fT (fT (fT (fT (fT (fT (fT (fT (fT (fT (fT vi 17 (nI an)) 19 (nI fn)) 20 (vi 20)) 18 (vi 18)) 21 (vi 21)) 22 (vi 22)) 74 (nI dN)) 75 (nI (wi - xe))) 76 (nI nd)) 77 ((vF 47) dN)) 52 (nI (nd + 1)) = fT (fT (fT (fT (fT vi 52 (nI (nd + 1))) 74 (nI dN)) 75 (nI (wi - xe))) 76 (nI nd)) 77 ((vF 47) dN) := ch_E vi [nI an, nI fn, nI dN, nI (wi - xe), nI nd, (vF 47) dN, nI (nd + 1)] [(52, 7), (77, 6), (76, 5), (75, 4), (74, 3), (22, 0), (21, 0), (18, 0), (20, 0), (19, 2), (17, 1)] [(77, 6), (76, 5), (75, 4), (74, 3), (52, 7)] [17, 19] ⟨show nI an = vi 17 from (by first | with_reducible rfl | with_reducible assumption | (symm; with_reducible assumption) | rfl | assumption | (symm; assumption) | (subst_vars; rfl)), show nI fn = vi 19 from (by first | with_reducible rfl | with_reducible assumption | (symm; with_reducible assumption) | rfl | assumption | (symm; assumption) | (subst_vars; rfl)), trivial⟩ (by decide +kernel)
          have hP := wr_Pi e9 hP
          have hD := wr_Di e9 hD
          clear e9
          have e9 : fT (fT (fT (fT (fT (fT (fT (fT (fT (fT (fT (fT (fT (fT (fT vF 41 (vF 41)) 46 (vF 46)) 43 (vF 43)) 40 (vF 40)) 39 (vF 39)) 42 (vF 42)) 47 (vF 47)) 48 (vF 48)) 29 (upd (vF 29) (nI nd).toNatClampNeg 13)) 30 (upd (vF 30) (nI nd).toNatClampNeg (nI cP))) 31 (upd (vF 31) (nI nd).toNatClampNeg (nI cR))) 32 (upd (vF 32) (nI nd).toNatClampNeg ((vF 43) dN))) 33 (upd (vF 33) (nI nd).toNatClampNeg 0)) 34 (upd (upd (vF 34) (nI nd).toNatClampNeg 0) ((nI nd)).toNatClampNeg ((vF 46) dN))) 35 (upd (upd (vF 35) (nI nd).toNatClampNeg 0) ((nI nd)).toNatClampNeg (vi 77)) = fT (fT (fT (fT (fT (fT (fT vF 29 (upd (vF 29) (nI nd).toNatClampNeg 13)) 30 (upd (vF 30) (nI nd).toNatClampNeg (nI cP))) 31 (upd (vF 31) (nI nd).toNatClampNeg (nI cR))) 32 (upd (vF 32) (nI nd).toNatClampNeg ((vF 43) dN))) 33 (upd (vF 33) (nI nd).toNatClampNeg 0)) 34 (upd (upd (vF 34) (nI nd).toNatClampNeg 0) ((nI nd)).toNatClampNeg ((vF 46) dN))) 35 (upd (upd (vF 35) (nI nd).toNatClampNeg 0) ((nI nd)).toNatClampNeg (vi 77)) := ch_E vF [upd (vF 29) (nI nd).toNatClampNeg 13, upd (vF 30) (nI nd).toNatClampNeg (nI cP), upd (vF 31) (nI nd).toNatClampNeg (nI cR), upd (vF 32) (nI nd).toNatClampNeg ((vF 43) dN), upd (vF 33) (nI nd).toNatClampNeg 0, upd (upd (vF 34) (nI nd).toNatClampNeg 0) ((nI nd)).toNatClampNeg ((vF 46) dN), upd (upd (vF 35) (nI nd).toNatClampNeg 0) ((nI nd)).toNatClampNeg (vi 77)] [(35, 7), (34, 6), (33, 5), (32, 4), (31, 3), (30, 2), (29, 1), (48, 0), (47, 0), (42, 0), (39, 0), (40, 0), (43, 0), (46, 0), (41, 0)] [(35, 7), (34, 6), (33, 5), (32, 4), (31, 3), (30, 2), (29, 1)] [] trivial (by decide +kernel)
          have hP := wr_PF e9 hP
          have hD := wr_DF e9 hD
          clear e9
          exact W.vret hx hb hr (fun t9_ ht hW => ⟨⟨(an, fn, (vi 20), (vi 18), (vi 21), (vi 22), (upd (vF 29) (nI nd).toNatClampNeg 13), (upd (vF 30) (nI nd).toNatClampNeg (nI cP)), (upd (vF 31) (nI nd).toNatClampNeg (nI cR)), (upd (vF 32) (nI nd).toNatClampNeg ((vF 43) dN)), (upd (vF 33) (nI nd).toNatClampNeg 0), (upd (upd (vF 34) (nI nd).toNatClampNeg 0) ((nI nd)).toNatClampNeg ((vF 46) dN)), (upd (upd (vF 35) (nI nd).toNatClampNeg 0) ((nI nd)).toNatClampNeg (vi 77)), (vF 39), (vF 40), (vF 41), (vF 42), (vF 43), (vF 46), (vF 47), (vF 48), dN, (wi - xe), (nd + 1), (nI nd), ((vF 47) dN), (gG.add nd (gG.wt cP + gG.wt cR + 3) (51 - 2 * (cw + xe)) 0)), rfl, by (try dsimp only); exact ⟨hLx, Nat.le_refl _, hst0, Or.inr ⟨by (have e9 : wi - xe = cw := by omega); rw [e9]; exact RdS.pop (ex := xe) hKN.1 hBel hKN.2.1 (Nat.le_refl _) (fun q hq => ⟨rfl, rfl, rfl, rfl, rfl⟩) (by omega) (fun h8 => absurd rfl h8) (by decide) (Or.inr ⟨by decide, hLN⟩) (by omega) (by show gG.vN + 1 + un ≤ nd + 1; omega) (by omega) (by omega) hKN.2.2.2 (by omega), hKN.2.1.less (Nat.zero_le _)⟩, by omega⟩, by rw [ht]; exact hP, hD⟩, hS.F ht⟩) hS.2.2 dX12_readOne_314
end
section
theorem RTp.fac0 {T : Nat → Nat → Int32} {G : RG} {f29 f30 f31 f32 f36 f37 f38 f40 f41 f42 : Nat → Int32} {wd sg res : Int32} {se bs i w u ex gl gm p1 n1 m1 tw : Nat} (h : RTp T G f29 f30 f31 f32 f36 f37 f38 f40 f41 f42 wd sg res se bs i 1 w u ex gl gm p1 n1 m1 tw) (e : f40 i = 0) : f41 i = -1 ∧ f42 i = -1 ∧ p1 = 0 ∧ n1 = 0 ∧ m1 = 0 ∧ gm = gl ∧ ex = 1 ∧ tw = 1 := by
  rcases h with ⟨h1, h2, h3, ⟨a1, a2, a3, a4⟩, ⟨a6, a5⟩, a7, h4⟩ | ⟨h1, ck, ⟨⟨b0, b1, b3, b2⟩, h2⟩, c, h3, h4⟩
  · exact ⟨h2, h3, a1, a2, a3, a4, a5 (by decide), by omega⟩
  · rcases h2 with h | h | h | h | h | h | h | h | h | h | h | h
    · exact absurd h.1 (by decide)
    · exact absurd (e.symm.trans h.2.2.1) (by decide)
    · exact absurd (e.symm.trans h.2.2.1) (by decide)
    · exact absurd (e.symm.trans h.2.2.1) (by decide)
    · exact absurd (e.symm.trans h.2.2.1) (by decide)
    · exact absurd (e.symm.trans h.2.2.1) (by decide)
    · exact absurd (e.symm.trans h.2.2.1) (by decide)
    · exact absurd h.1 (by decide)
    · exact absurd h.1 (by decide)
    · exact absurd h.1 (by decide)
    · exact absurd h.1 (by decide)
    · exact absurd h.1 (by decide)
theorem RTp.fac1 {T : Nat → Nat → Int32} {G : RG} {f29 f30 f31 f32 f36 f37 f38 f40 f41 f42 : Nat → Int32} {wd sg res : Int32} {se bs i w u ex gl gm p1 n1 m1 tw : Nat} (h : RTp T G f29 f30 f31 f32 f36 f37 f38 f40 f41 f42 wd sg res se bs i 1 w u ex gl gm p1 n1 m1 tw) (e : f40 i = 1) : p1 = 1 ∧ n1 = 0 ∧ m1 = 0 ∧ gl ≤ gm ∧ ex = 1 ∧ tw = 1 ∧ w ≤ 24 ∧ ∃ c, res = nI c ∧ LinO G f29 c (49 - 2 * w) := by
  rcases h with ⟨h1, h2, h3, ⟨a1, a2, a3, a4⟩, ⟨a6, a5⟩, a7, h4⟩ | ⟨h1, ck, ⟨⟨b0, b1, b3, b2⟩, h2⟩, c, h3, h4⟩
  · exact absurd (e.symm.trans h1) (by decide)
  · rcases h2 with h | h | h | h | h | h | h | h | h | h | h | h
    · exact absurd h.1 (by decide)
    · (rcases h4 with h4 | h4 | h4); (exact ⟨h.2.2.2.2.2, h.2.2.2.1, h.2.2.2.2.1, b2, b1 (by decide), h1, h4.2.1, c, h3, h4.2.2⟩); (exact absurd (h.2.1.symm.trans h4.1) (by decide)); (exact absurd (h.2.1.symm.trans h4.1) (by decide))
    · exact absurd (e.symm.trans h.2.2.1) (by decide)
    · exact absurd (e.symm.trans h.2.2.1) (by decide)
    · exact absurd (e.symm.trans h.2.2.1) (by decide)
    · exact absurd (e.symm.trans h.2.2.1) (by decide)
    · exact absurd (e.symm.trans h.2.2.1) (by decide)
    · exact absurd h.1 (by decide)
    · exact absurd h.1 (by decide)
    · exact absurd h.1 (by decide)
    · exact absurd h.1 (by decide)
    · exact absurd h.1 (by decide)
theorem RTp.fac2 {T : Nat → Nat → Int32} {G : RG} {f29 f30 f31 f32 f36 f37 f38 f40 f41 f42 : Nat → Int32} {wd sg res : Int32} {se bs i w u ex gl gm p1 n1 m1 tw : Nat} (h : RTp T G f29 f30 f31 f32 f36 f37 f38 f40 f41 f42 wd sg res se bs i 1 w u ex gl gm p1 n1 m1 tw) (e : f40 i = 2) : p1 = 0 ∧ n1 = 0 ∧ m1 = 0 ∧ gl ≤ gm ∧ ex = 1 ∧ tw = 1 ∧ w ≤ 24 ∧ ∃ c, res = nI c ∧ LinO G f29 c (49 - 2 * w) := by
  rcases h with ⟨h1, h2, h3, ⟨a1, a2, a3, a4⟩, ⟨a6, a5⟩, a7, h4⟩ | ⟨h1, ck, ⟨⟨b0, b1, b3, b2⟩, h2⟩, c, h3, h4⟩
  · exact absurd (e.symm.trans h1) (by decide)
  · rcases h2 with h | h | h | h | h | h | h | h | h | h | h | h
    · exact absurd h.1 (by decide)
    · exact absurd (e.symm.trans h.2.2.1) (by decide)
    · (rcases h4 with h4 | h4 | h4); (exact ⟨h.2.2.2.2.2, h.2.2.2.1, h.2.2.2.2.1, b2, b1 (by decide), h1, h4.2.1, c, h3, h4.2.2⟩); (exact absurd (h.2.1.symm.trans h4.1) (by decide)); (exact absurd (h.2.1.symm.trans h4.1) (by decide))
    · exact absurd (e.symm.trans h.2.2.1) (by decide)
    · exact absurd (e.symm.trans h.2.2.1) (by decide)
    · exact absurd (e.symm.trans h.2.2.1) (by decide)
    · exact absurd (e.symm.trans h.2.2.1) (by decide)
    · exact absurd h.1 (by decide)
    · exact absurd h.1 (by decide)
    · exact absurd h.1 (by decide)
    · exact absurd h.1 (by decide)
    · exact absurd h.1 (by decide)
theorem RTp.fac3 {T : Nat → Nat → Int32} {G : RG} {f29 f30 f31 f32 f36 f37 f38 f40 f41 f42 : Nat → Int32} {wd sg res : Int32} {se bs i w u ex gl gm p1 n1 m1 tw : Nat} (h : RTp T G f29 f30 f31 f32 f36 f37 f38 f40 f41 f42 wd sg res se bs i 1 w u ex gl gm p1 n1 m1 tw) (e : f40 i = 3) : p1 = 0 ∧ n1 = 1 ∧ m1 = 0 ∧ gl ≤ gm ∧ ex = 1 ∧ tw = 1 ∧ w ≤ 24 ∧ (∃ c, res = nI c ∧ LinO G f29 c (49 - 2 * w)) ∧ ∃ g pl, f41 i = nI g ∧ gl ≤ g ∧ g < gm ∧ ¬ G.V g ∧ UnN T f29 f30 se g pl ∧ f31 g = -1 ∧ f32 g = -1 := by
  rcases h with ⟨h1, h2, h3, ⟨a1, a2, a3, a4⟩, ⟨a6, a5⟩, a7, h4⟩ | ⟨h1, ck, ⟨⟨b0, b1, b3, b2⟩, h2⟩, c, h3, h4⟩
  · exact absurd (e.symm.trans h1) (by decide)
  · rcases h2 with h | h | h | h | h | h | h | h | h | h | h | h
    · exact absurd h.1 (by decide)
    · exact absurd (e.symm.trans h.2.2.1) (by decide)
    · exact absurd (e.symm.trans h.2.2.1) (by decide)
    · (rcases h4 with h4 | h4 | h4); (exact ⟨h.2.2.2.2.2.1, h.2.2.2.1, h.2.2.2.2.1, b2, b1 (by decide), h1, h4.2.1, ⟨c, h3, h4.2.2⟩, h.2.2.2.2.2.2⟩); (exact absurd (h.2.1.symm.trans h4.1) (by decide)); (exact absurd (h.2.1.symm.trans h4.1) (by decide))
    · exact absurd (e.symm.trans h.2.2.1) (by decide)
    · exact absurd (e.symm.trans h.2.2.1) (by decide)
    · exact absurd (e.symm.trans h.2.2.1) (by decide)
    · exact absurd h.1 (by decide)
    · exact absurd h.1 (by decide)
    · exact absurd h.1 (by decide)
    · exact absurd h.1 (by decide)
    · exact absurd h.1 (by decide)
theorem RTp.fac4 {T : Nat → Nat → Int32} {G : RG} {f29 f30 f31 f32 f36 f37 f38 f40 f41 f42 : Nat → Int32} {wd sg res : Int32} {se bs i w u ex gl gm p1 n1 m1 tw : Nat} (h : RTp T G f29 f30 f31 f32 f36 f37 f38 f40 f41 f42 wd sg res se bs i 1 w u ex gl gm p1 n1 m1 tw) (e : f40 i = 4) : p1 = 0 ∧ n1 = 1 ∧ m1 = 0 ∧ gl ≤ gm ∧ ex = 1 ∧ tw = 1 ∧ w ≤ 24 ∧ (∃ c, res = nI c ∧ LinO G f29 c (49 - 2 * w)) ∧ ∃ g d, f41 i = nI g ∧ gl ≤ g ∧ g < gm ∧ ¬ G.V g ∧ UnN T f29 f30 se g 2 ∧ f31 g = nI d ∧ LinO G f29 d (51 - 2 * w) ∧ f32 g = -1 := by
  rcases h with ⟨h1, h2, h3, ⟨a1, a2, a3, a4⟩, ⟨a6, a5⟩, a7, h4⟩ | ⟨h1, ck, ⟨⟨b0, b1, b3, b2⟩, h2⟩, c, h3, h4⟩
  · exact absurd (e.symm.trans h1) (by decide)
  · rcases h2 with h | h | h | h | h | h | h | h | h | h | h | h
    · exact absurd h.1 (by decide)
    · exact absurd (e.symm.trans h.2.2.1) (by decide)
    · exact absurd (e.symm.trans h.2.2.1) (by decide)
    · exact absurd (e.symm.trans h.2.2.1) (by decide)
    · (rcases h4 with h4 | h4 | h4); (exact ⟨h.2.2.2.2.2.1, h.2.2.2.1, h.2.2.2.2.1, b2, b1 (by decide), h1, h4.2.1, ⟨c, h3, h4.2.2⟩, h.2.2.2.2.2.2⟩); (exact absurd (h.2.1.symm.trans h4.1) (by decide)); (exact absurd (h.2.1.symm.trans h4.1) (by decide))
    · exact absurd (e.symm.trans h.2.2.1) (by decide)
    · exact absurd (e.symm.trans h.2.2.1) (by decide)
    · exact absurd h.1 (by decide)
    · exact absurd h.1 (by decide)
    · exact absurd h.1 (by decide)
    · exact absurd h.1 (by decide)
    · exact absurd h.1 (by decide)
theorem RTp.fac5 {T : Nat → Nat → Int32} {G : RG} {f29 f30 f31 f32 f36 f37 f38 f40 f41 f42 : Nat → Int32} {wd sg res : Int32} {se bs i w u ex gl gm p1 n1 m1 tw : Nat} (h : RTp T G f29 f30 f31 f32 f36 f37 f38 f40 f41 f42 wd sg res se bs i 1 w u ex gl gm p1 n1 m1 tw) (e : f40 i = 5) : p1 = 0 ∧ n1 = 1 ∧ m1 = 1 ∧ gl ≤ gm ∧ ex = 1 ∧ tw = 1 ∧ w ≤ 24 ∧ (∃ c, res = nI c ∧ TruO G f29 c (49 - 2 * w)) ∧ ∃ g, f41 i = nI g ∧ gl ≤ g ∧ g < gm ∧ ¬ G.V g ∧ UnS f29 f30 f36 f37 f38 se bs u g ∧ f31 g = -1 := by
  rcases h with ⟨h1, h2, h3, ⟨a1, a2, a3, a4⟩, ⟨a6, a5⟩, a7, h4⟩ | ⟨h1, ck, ⟨⟨b0, b1, b3, b2⟩, h2⟩, c, h3, h4⟩
  · exact absurd (e.symm.trans h1) (by decide)
  · rcases h2 with h | h | h | h | h | h | h | h | h | h | h | h
    · exact absurd h.1 (by decide)
    · exact absurd (e.symm.trans h.2.2.1) (by decide)
    · exact absurd (e.symm.trans h.2.2.1) (by decide)
    · exact absurd (e.symm.trans h.2.2.1) (by decide)
    · exact absurd (e.symm.trans h.2.2.1) (by decide)
    · (rcases h4 with h4 | h4 | h4); (exact absurd (h.2.1 ▸ h4.1) (by decide)); (exact ⟨h.2.2.2.2.2.1, h.2.2.2.1, h.2.2.2.2.1, b2, b1 (by decide), h1, h4.2.1, ⟨c, h3, h4.2.2⟩, h.2.2.2.2.2.2⟩); (exact absurd (h.2.1.symm.trans h4.1) (by decide))
    · exact absurd (e.symm.trans h.2.2.1) (by decide)
    · exact absurd h.1 (by decide)
    · exact absurd h.1 (by decide)
    · exact absurd h.1 (by decide)
    · exact absurd h.1 (by decide)
    · exact absurd h.1 (by decide)
theorem RTp.fac6 {T : Nat → Nat → Int32} {G : RG} {f29 f30 f31 f32 f36 f37 f38 f40 f41 f42 : Nat → Int32} {wd sg res : Int32} {se bs i w u ex gl gm p1 n1 m1 tw : Nat} (h : RTp T G f29 f30 f31 f32 f36 f37 f38 f40 f41 f42 wd sg res se bs i 1 w u ex gl gm p1 n1 m1 tw) (e0 : ¬ f40 i = 0) (e1 : ¬ f40 i = 1) (e2 : ¬ f40 i = 2) (e3 : ¬ f40 i = 3) (e4 : ¬ f40 i = 4) (e5 : ¬ f40 i = 5) : p1 = 0 ∧ n1 = 1 ∧ m1 = 1 ∧ gl ≤ gm ∧ ex = 1 ∧ tw = 1 ∧ w ≤ 24 ∧ (∃ c, res = nI c ∧ LinO G f29 c (49 - 2 * w)) ∧ ∃ g, f41 i = nI g ∧ gl ≤ g ∧ g < gm ∧ ¬ G.V g ∧ UnS f29 f30 f36 f37 f38 se bs u g ∧ (f31 g = -1 ∨ ∃ d, f31 g = nI d ∧ TruO G f29 d (50 - 2 * w)) := by
  rcases h with ⟨h1, h2, h3, ⟨a1, a2, a3, a4⟩, ⟨a6, a5⟩, a7, h4⟩ | ⟨h1, ck, ⟨⟨b0, b1, b3, b2⟩, h2⟩, c, h3, h4⟩
  · exact absurd h1 e0
  · rcases h2 with h | h | h | h | h | h | h | h | h | h | h | h
    · exact absurd h.1 (by decide)
    · exact absurd h.2.2.1 e1
    · exact absurd h.2.2.1 e2
    · exact absurd h.2.2.1 e3
    · exact absurd h.2.2.1 e4
    · exact absurd h.2.2.1 e5
    · (rcases h4 with h4 | h4 | h4); (exact ⟨h.2.2.2.2.2.1, h.2.2.2.1, h.2.2.2.2.1, b2, b1 (by decide), h1, h4.2.1, ⟨c, h3, h4.2.2⟩, h.2.2.2.2.2.2⟩); (exact absurd (h.2.1.symm.trans h4.1) (by decide)); (exact absurd (h.2.1.symm.trans h4.1) (by decide))
    · exact absurd h.1 (by decide)
    · exact absurd h.1 (by decide)
    · exact absurd h.1 (by decide)
    · exact absurd h.1 (by decide)
    · exact absurd h.1 (by decide)
theorem RdK.b31 {T : Nat → Nat → Int32} {G G' : RG} {f29 f30 f31 f32 f36 f37 f38 g29 g30 g31 g32 g36 g37 g38 : Nat → Int32} {se nd bs gl : Nat} {n : Nat} {v : Int32} (h : RdK T G f29 f30 f31 f32 f36 f37 f38 G' g29 g30 g31 g32 g36 g37 g38 se nd bs gl) (hv : ¬ G'.V n) (hg : gl ≤ n) (h4 : n < 4000) : RdK T G f29 f30 f31 f32 f36 f37 f38 G' g29 g30 (upd g31 (nI n).toNatClampNeg v) g32 g36 g37 g38 se nd bs gl := ⟨h.1.b31 hv (by omega), h.2.1.b31 hg (by omega), h.2.2⟩
theorem RdK.b32 {T : Nat → Nat → Int32} {G G' : RG} {f29 f30 f31 f32 f36 f37 f38 g29 g30 g31 g32 g36 g37 g38 : Nat → Int32} {se nd bs gl : Nat} {n : Nat} {v : Int32} (h : RdK T G f29 f30 f31 f32 f36 f37 f38 G' g29 g30 g31 g32 g36 g37 g38 se nd bs gl) (hv : ¬ G'.V n) (hg : gl ≤ n) (h4 : n < 4000) : RdK T G f29 f30 f31 f32 f36 f37 f38 G' g29 g30 g31 (upd g32 (nI n).toNatClampNeg v) g36 g37 g38 se nd bs gl := ⟨h.1.b32 hv (by omega), h.2.1.b32 hg (by omega), h.2.2⟩
/-- a name node is finished -/
theorem RdK.fin1 {T : Nat → Nat → Int32} {G G' : RG} {f29 f30 f31 f32 f36 f37 f38 g29 g30 g31 g32 g36 g37 g38 : Nat → Int32} {se nd bs gl : Nat} {n d P p : Nat} (h : RdK T G f29 f30 f31 f32 f36 f37 f38 G' g29 g30 g31 g32 g36 g37 g38 se nd bs gl) (hv : ¬ G'.V n) (hv0 : ¬ G.V n) (hg : gl ≤ n) (hn : n < nd) (h4 : n < 4000) (hUn : UnN T g29 g30 se n 1) (hb : g31 n = nI d) (hd : LinO G' g29 d P) (hP : P ≤ p) (hc : g32 n = -1) (hp : 1 ≤ p) : RdK T G f29 f30 f31 f32 f36 f37 f38 (G'.add n (G'.wt d + 4) p 0) g29 g30 g31 g32 g36 g37 g38 se nd bs gl ∧ LinO (G'.add n (G'.wt d + 4) p 0) g29 n p := by
  obtain ⟨k, a, o1, o2, aT, hkk, hk, ha, hS, _⟩ := hUn
  exact ⟨⟨h.1.name1 hv hn h4 hkk hk ha hS hp rfl hb hd hP hc, h.2.1.add hg hv0, h.2.2⟩, LinO.new hk (by omega)⟩
theorem RdK.fin2 {T : Nat → Nat → Int32} {G G' : RG} {f29 f30 f31 f32 f36 f37 f38 g29 g30 g31 g32 g36 g37 g38 : Nat → Int32} {se nd bs gl : Nat} {n d c P Q p : Nat} (h : RdK T G f29 f30 f31 f32 f36 f37 f38 G' g29 g30 g31 g32 g36 g37 g38 se nd bs gl) (hv : ¬ G'.V n) (hv0 : ¬ G.V n) (hg : gl ≤ n) (hn : n < nd) (h4 : n < 4000) (hUn : UnN T g29 g30 se n 2) (hb : g31 n = nI d) (hd : LinO G' g29 d P) (hP : P ≤ p) (hcc : g32 n = nI c) (hc : LinO G' g29 c Q) (hQ : Q ≤ p) (hp : 1 ≤ p) : RdK T G f29 f30 f31 f32 f36 f37 f38 (G'.add n (G'.wt c + G'.wt d + 4) p 0) g29 g30 g31 g32 g36 g37 g38 se nd bs gl ∧ LinO (G'.add n (G'.wt c + G'.wt d + 4) p 0) g29 n p := by
  obtain ⟨k, a, o1, o2, aT, hkk, hk, ha, hS, _⟩ := hUn
  exact ⟨⟨h.1.name2 hv hn h4 hkk hk ha hS hp rfl hb hd hP hcc hc hQ, h.2.1.add hg hv0, h.2.2⟩, LinO.new hk (by omega)⟩
/-- a sum is finished -/
theorem RdK.finS {T : Nat → Nat → Int32} {G G' : RG} {f29 f30 f31 f32 f36 f37 f38 g29 g30 g31 g32 g36 g37 g38 : Nat → Int32} {se nd bs gl : Nat} {n c P p u : Nat} (h : RdK T G f29 f30 f31 f32 f36 f37 f38 G' g29 g30 g31 g32 g36 g37 g38 se nd bs gl) (hv : ¬ G'.V n) (hv0 : ¬ G.V n) (hg : gl ≤ n) (hn : n < nd) (h4 : n < 4000) (hSe : SeO (T 16) (T 17) se) (h44 : se ≤ 44) (hUn : UnS g29 g30 g36 g37 g38 se bs u n) (hb : g31 n = -1 ∨ ∃ d, g31 n = nI d ∧ TruO G' g29 d (p - 1)) (hcc : g32 n = nI c) (hc : LinO G' g29 c P) (hP : P + 1 ≤ p) (hp : 2 ≤ p) : ∃ w y, RdK T G f29 f30 f31 f32 f36 f37 f38 (G'.add n w p y) g29 g30 g31 g32 g36 g37 g38 se nd bs gl ∧ LinO (G'.add n w p y) g29 n p := by
  obtain ⟨hk, b, ha, hbs, hb9, hB, _⟩ := hUn
  obtain ⟨m, hM, hm⟩ := hB.members hSe h44
  obtain ⟨w, hw⟩ := h.1.sum hv hn h4 hk hp ha hb9 hbs hB hM hm hcc hc hP hb
  exact ⟨w, nI m, ⟨hw, h.2.1.add hg hv0, h.2.2⟩, LinO.new hk (by decide)⟩
/-- what is declared: the places of names -/
def DcO (T : Nat → Nat → Int32) (se pa va : Nat) : Prop := (∀ a, a < pa → ∃ pl o1 o2 aT, NamS T se 2 a pl o1 o2 aT) ∧ ∀ a, a < va → ∃ pl o1 o2 aT, NamS T se 3 a pl o1 o2 aT
end
section
theorem dX12_beginName_0 : decode cX12_beginName 0 = .ok (.aload_n 0, 1) := dk_42 (by decide +kernel)
theorem dX12_beginName_1 : decode cX12_beginName 1 = .ok (.invokevirtual 558, 3) := dk_182 (by decide +kernel)
theorem dX12_beginName_4 : decode cX12_beginName 4 = .ok (.istore_n 2, 1) := dk_61 (by decide +kernel)
theorem dX12_beginName_5 : decode cX12_beginName 5 = .ok (.iload_n 2, 1) := dk_28 (by decide +kernel)
theorem dX12_beginName_6 : decode cX12_beginName 6 = .ok (.iconst (-1), 1) := dk_2 (by decide +kernel)
theorem dX12_beginName_7 : decode cX12_beginName 7 = .ok (.if_icmp .eq 26, 3) := dk_159 (by decide +kernel)
theorem dX12_beginName_10 : decode cX12_beginName 10 = .ok (.aload_n 0, 1) := dk_42 (by decide +kernel)
theorem dX12_beginName_11 : decode cX12_beginName 11 = .ok (.iconst 1, 1) := dk_4 (by decide +kernel)
theorem dX12_beginName_12 : decode cX12_beginName 12 = .ok (.iload_n 2, 1) := dk_28 (by decide +kernel)
theorem dX12_beginName_13 : decode cX12_beginName 13 = .ok (.iconst 0, 1) := dk_3 (by decide +kernel)
theorem dX12_beginName_14 : decode cX12_beginName 14 = .ok (.iconst 0, 1) := dk_3 (by decide +kernel)
theorem dX12_beginName_15 : decode cX12_beginName 15 = .ok (.aload_n 0, 1) := dk_42 (by decide +kernel)
theorem dX12_beginName_16 : decode cX12_beginName 16 = .ok (.getfield 488, 3) := dk_180 (by decide +kernel)
theorem dX12_beginName_19 : decode cX12_beginName 19 = .ok (.invokevirtual 601, 3) := dk_182 (by decide +kernel)
theorem dX12_beginName_22 : decode cX12_beginName 22 = .ok (.istore_n 3, 1) := dk_62 (by decide +kernel)
theorem dX12_beginName_23 : decode cX12_beginName 23 = .ok (.aload_n 0, 1) := dk_42 (by decide +kernel)
theorem dX12_beginName_24 : decode cX12_beginName 24 = .ok (.invokevirtual 524, 3) := dk_182 (by decide +kernel)
theorem dX12_beginName_27 : decode cX12_beginName 27 = .ok (.aload_n 0, 1) := dk_42 (by decide +kernel)
theorem dX12_beginName_28 : decode cX12_beginName 28 = .ok (.iload_n 3, 1) := dk_29 (by decide +kernel)
theorem dX12_beginName_29 : decode cX12_beginName 29 = .ok (.invokevirtual 605, 3) := dk_182 (by decide +kernel)
theorem dX12_beginName_32 : decode cX12_beginName 32 = .ok (.return_, 1) := dk_177 (by decide +kernel)
theorem dX12_beginName_33 : decode cX12_beginName 33 = .ok (.aload_n 0, 1) := dk_42 (by decide +kernel)
theorem dX12_beginName_34 : decode cX12_beginName 34 = .ok (.invokevirtual 555, 3) := dk_182 (by decide +kernel)
theorem dX12_beginName_37 : decode cX12_beginName 37 = .ok (.istore_n 3, 1) := dk_62 (by decide +kernel)
theorem dX12_beginName_38 : decode cX12_beginName 38 = .ok (.aload_n 0, 1) := dk_42 (by decide +kernel)
theorem dX12_beginName_39 : decode cX12_beginName 39 = .ok (.aload_n 0, 1) := dk_42 (by decide +kernel)
theorem dX12_beginName_40 : decode cX12_beginName 40 = .ok (.getfield 50, 3) := dk_180 (by decide +kernel)
theorem dX12_beginName_43 : decode cX12_beginName 43 = .ok (.iload_n 3, 1) := dk_29 (by decide +kernel)
theorem dX12_beginName_44 : decode cX12_beginName 44 = .ok (.iaload, 1) := dk_46 (by decide +kernel)
theorem dX12_beginName_45 : decode cX12_beginName 45 = .ok (.iconst 2, 1) := dk_5 (by decide +kernel)
theorem dX12_beginName_46 : decode cX12_beginName 46 = .ok (.if_icmp .ne 7, 3) := dk_160 (by decide +kernel)
theorem dX12_beginName_49 : decode cX12_beginName 49 = .ok (.iconst 2, 1) := dk_5 (by decide +kernel)
theorem dX12_beginName_50 : decode cX12_beginName 50 = .ok (.goto 4, 3) := dk_167 (by decide +kernel)
theorem dX12_beginName_53 : decode cX12_beginName 53 = .ok (.iconst 3, 1) := dk_6 (by decide +kernel)
theorem dX12_beginName_54 : decode cX12_beginName 54 = .ok (.aload_n 0, 1) := dk_42 (by decide +kernel)
theorem dX12_beginName_55 : decode cX12_beginName 55 = .ok (.getfield 59, 3) := dk_180 (by decide +kernel)
theorem dX12_beginName_58 : decode cX12_beginName 58 = .ok (.iload_n 3, 1) := dk_29 (by decide +kernel)
theorem dX12_beginName_59 : decode cX12_beginName 59 = .ok (.iaload, 1) := dk_46 (by decide +kernel)
theorem dX12_beginName_60 : decode cX12_beginName 60 = .ok (.iconst (-1), 1) := dk_2 (by decide +kernel)
theorem dX12_beginName_61 : decode cX12_beginName 61 = .ok (.iconst (-1), 1) := dk_2 (by decide +kernel)
theorem dX12_beginName_62 : decode cX12_beginName 62 = .ok (.aload_n 0, 1) := dk_42 (by decide +kernel)
theorem dX12_beginName_63 : decode cX12_beginName 63 = .ok (.getfield 488, 3) := dk_180 (by decide +kernel)
theorem dX12_beginName_66 : decode cX12_beginName 66 = .ok (.invokevirtual 601, 3) := dk_182 (by decide +kernel)
theorem dX12_beginName_69 : decode cX12_beginName 69 = .ok (.istore 4, 2) := dk_54 (by decide +kernel)
theorem dX12_beginName_71 : decode cX12_beginName 71 = .ok (.aload_n 0, 1) := dk_42 (by decide +kernel)
theorem dX12_beginName_72 : decode cX12_beginName 72 = .ok (.invokevirtual 524, 3) := dk_182 (by decide +kernel)
theorem dX12_beginName_75 : decode cX12_beginName 75 = .ok (.aload_n 0, 1) := dk_42 (by decide +kernel)
theorem dX12_beginName_76 : decode cX12_beginName 76 = .ok (.iload 4, 2) := dk_21 (by decide +kernel)
theorem dX12_beginName_78 : decode cX12_beginName 78 = .ok (.invokevirtual 614, 3) := dk_182 (by decide +kernel)
theorem dX12_beginName_81 : decode cX12_beginName 81 = .ok (.ifCond .ne 10, 3) := dk_154 (by decide +kernel)
theorem dX12_beginName_84 : decode cX12_beginName 84 = .ok (.aload_n 0, 1) := dk_42 (by decide +kernel)
theorem dX12_beginName_85 : decode cX12_beginName 85 = .ok (.iload 4, 2) := dk_21 (by decide +kernel)
theorem dX12_beginName_87 : decode cX12_beginName 87 = .ok (.invokevirtual 605, 3) := dk_182 (by decide +kernel)
theorem dX12_beginName_90 : decode cX12_beginName 90 = .ok (.return_, 1) := dk_177 (by decide +kernel)
theorem dX12_beginName_91 : decode cX12_beginName 91 = .ok (.aload_n 0, 1) := dk_42 (by decide +kernel)
theorem dX12_beginName_92 : decode cX12_beginName 92 = .ok (.getfield 146, 3) := dk_180 (by decide +kernel)
theorem dX12_beginName_95 : decode cX12_beginName 95 = .ok (.iload_n 1, 1) := dk_27 (by decide +kernel)
theorem dX12_beginName_96 : decode cX12_beginName 96 = .ok (.iload 4, 2) := dk_21 (by decide +kernel)
theorem dX12_beginName_98 : decode cX12_beginName 98 = .ok (.iastore, 1) := dk_79 (by decide +kernel)
theorem dX12_beginName_99 : decode cX12_beginName 99 = .ok (.aload_n 0, 1) := dk_42 (by decide +kernel)
theorem dX12_beginName_100 : decode cX12_beginName 100 = .ok (.bipush 91, 2) := dk_16 (by decide +kernel)
theorem dX12_beginName_102 : decode cX12_beginName 102 = .ok (.invokevirtual 611, 3) := dk_182 (by decide +kernel)
theorem dX12_beginName_105 : decode cX12_beginName 105 = .ok (.ifCond .ne 4, 3) := dk_154 (by decide +kernel)
theorem dX12_beginName_108 : decode cX12_beginName 108 = .ok (.return_, 1) := dk_177 (by decide +kernel)
theorem dX12_beginName_109 : decode cX12_beginName 109 = .ok (.aload_n 0, 1) := dk_42 (by decide +kernel)
theorem dX12_beginName_110 : decode cX12_beginName 110 = .ok (.getfield 143, 3) := dk_180 (by decide +kernel)
theorem dX12_beginName_113 : decode cX12_beginName 113 = .ok (.iload_n 1, 1) := dk_27 (by decide +kernel)
theorem dX12_beginName_114 : decode cX12_beginName 114 = .ok (.iconst 3, 1) := dk_6 (by decide +kernel)
theorem dX12_beginName_115 : decode cX12_beginName 115 = .ok (.iastore, 1) := dk_79 (by decide +kernel)
theorem dX12_beginName_116 : decode cX12_beginName 116 = .ok (.aload_n 0, 1) := dk_42 (by decide +kernel)
theorem dX12_beginName_117 : decode cX12_beginName 117 = .ok (.iconst 0, 1) := dk_3 (by decide +kernel)
theorem dX12_beginName_118 : decode cX12_beginName 118 = .ok (.invokevirtual 586, 3) := dk_182 (by decide +kernel)
theorem dX12_beginName_121 : decode cX12_beginName 121 = .ok (.return_, 1) := dk_177 (by decide +kernel)
def wsRX12_beginName : List Cond := .code yX12_beginName cX12_beginName 5 none :: ([.fieldLink RX12 50 "OptimaWorksModel" "nameKind" "[I", .fieldLink RX12 59 "OptimaWorksModel" "nameOf" "[I", .fieldLink RX12 488 "OptimaWorksModel" "from" "I", .fieldLink RX12 146 "OptimaWorksModel" "got1" "[I", .fieldLink RX12 143 "OptimaWorksModel" "step" "[I"] ++ wsX120 ++ (wsV RX12 558 RX12 yX12_binder wsRbinderf) ++ (wsV RX12 555 RX12 yX12_declared wsRdeclaredf) ++ (wsV RX12 601 RX12 yX12_node wsRX12_node) ++ (wsV RX12 524 RX12 yX12_next wsRX12_next) ++ (wsV RX12 614 RX12 yX12_placesOf wsRX12_placesOf) ++ (wsV RX12 611 RX12 yX12_needSign wsRX12_needSign) ++ (wsV RX12 586 RX12 yX12_begin1 wsRX12_begin1) ++ (wsV RX12 605 RX12 yX12_end1 wsRend1w))
theorem iwsRX12_beginName_in12 : ∀ w ∈ wsX120, w ∈ wsRX12_beginName := fun _ h => List.mem_cons_of_mem _ (List.mem_append_left _ (List.mem_append_left _ (List.mem_append_left _ (List.mem_append_left _ (List.mem_append_left _ (List.mem_append_left _ (List.mem_append_left _ (List.mem_append_left _ (List.mem_append_right _ h)))))))))
theorem gwsRX12_beginName_0 : GoodIn wsRX12_beginName (wsV RX12 558 RX12 yX12_binder wsRbinderf) := goodIn_sub (fun _ h => List.mem_cons_of_mem _ (List.mem_append_left _ (List.mem_append_left _ (List.mem_append_left _ (List.mem_append_left _ (List.mem_append_left _ (List.mem_append_left _ (List.mem_append_left _ (List.mem_append_right _ h))))))))) (gdV (by decide +kernel) gdwsRbinderf)
theorem gwsRX12_beginName_1 : GoodIn wsRX12_beginName (wsV RX12 555 RX12 yX12_declared wsRdeclaredf) := goodIn_sub (fun _ h => List.mem_cons_of_mem _ (List.mem_append_left _ (List.mem_append_left _ (List.mem_append_left _ (List.mem_append_left _ (List.mem_append_left _ (List.mem_append_left _ (List.mem_append_right _ h)))))))) (gdV (by decide +kernel) gdwsRdeclaredf)
theorem gwsRX12_beginName_2 : GoodIn wsRX12_beginName (wsV RX12 601 RX12 yX12_node wsRX12_node) := goodIn_sub (fun _ h => List.mem_cons_of_mem _ (List.mem_append_left _ (List.mem_append_left _ (List.mem_append_left _ (List.mem_append_left _ (List.mem_append_left _ (List.mem_append_right _ h))))))) (gdV (by decide +kernel) gdwsRX12_node)
theorem gwsRX12_beginName_3 : GoodIn wsRX12_beginName (wsV RX12 524 RX12 yX12_next wsRX12_next) := goodIn_sub (fun _ h => List.mem_cons_of_mem _ (List.mem_append_left _ (List.mem_append_left _ (List.mem_append_left _ (List.mem_append_left _ (List.mem_append_right _ h)))))) (gdV (by decide +kernel) gdwsRX12_next)
theorem gwsRX12_beginName_4 : GoodIn wsRX12_beginName (wsV RX12 614 RX12 yX12_placesOf wsRX12_placesOf) := goodIn_sub (fun _ h => List.mem_cons_of_mem _ (List.mem_append_left _ (List.mem_append_left _ (List.mem_append_left _ (List.mem_append_right _ h))))) (gdV (by decide +kernel) gdwsRX12_placesOf)
theorem gwsRX12_beginName_5 : GoodIn wsRX12_beginName (wsV RX12 611 RX12 yX12_needSign wsRX12_needSign) := goodIn_sub (fun _ h => List.mem_cons_of_mem _ (List.mem_append_left _ (List.mem_append_left _ (List.mem_append_right _ h)))) (gdV (by decide +kernel) gdwsRX12_needSign)
theorem gwsRX12_beginName_6 : GoodIn wsRX12_beginName (wsV RX12 586 RX12 yX12_begin1 wsRX12_begin1) := goodIn_sub (fun _ h => List.mem_cons_of_mem _ (List.mem_append_left _ (List.mem_append_right _ h))) (gdV (by decide +kernel) gdwsRX12_begin1)
theorem gwsRX12_beginName_7 : GoodIn wsRX12_beginName (wsV RX12 605 RX12 yX12_end1 wsRend1w) := goodIn_sub (fun _ h => List.mem_cons_of_mem _ (List.mem_append_right _ h)) (gdV (by decide +kernel) gdwsRend1w)
theorem gdwsRX12_beginName : wsRX12_beginName.all goodWord = true := gdC rfl (gdA (gdA (gdA (gdA (gdA (gdA (gdA (gdA (gdA (by decide +kernel : ([.fieldLink RX12 50 "OptimaWorksModel" "nameKind" "[I", .fieldLink RX12 59 "OptimaWorksModel" "nameOf" "[I", .fieldLink RX12 488 "OptimaWorksModel" "from" "I", .fieldLink RX12 146 "OptimaWorksModel" "got1" "[I", .fieldLink RX12 143 "OptimaWorksModel" "step" "[I"] : List Cond).all goodWord = true) gdwsX120) (gdV (by decide +kernel) gdwsRbinderf)) (gdV (by decide +kernel) gdwsRdeclaredf)) (gdV (by decide +kernel) gdwsRX12_node)) (gdV (by decide +kernel) gdwsRX12_next)) (gdV (by decide +kernel) gdwsRX12_placesOf)) (gdV (by decide +kernel) gdwsRX12_needSign)) (gdV (by decide +kernel) gdwsRX12_begin1)) (gdV (by decide +kernel) gdwsRend1w))
theorem hm_r_X12_beginName_0 : (.fieldLink RX12 59 "OptimaWorksModel" "nameOf" "[I" : Cond) ∈ wsRX12_beginName := by decide +kernel
theorem hm_r_X12_beginName_1 : (.fieldLink RX12 488 "OptimaWorksModel" "from" "I" : Cond) ∈ wsRX12_beginName := by decide +kernel
theorem hm_r_X12_beginName_2 : (.fieldLink RX12 146 "OptimaWorksModel" "got1" "[I" : Cond) ∈ wsRX12_beginName := by decide +kernel
theorem hm_r_X12_beginName_3 : (.fieldLink RX12 143 "OptimaWorksModel" "step" "[I" : Cond) ∈ wsRX12_beginName := by decide +kernel
set_option maxHeartbeats 4000000 in
set_option maxRecDepth 100000 in
/-- beginName(d) -/
theorem r_X12_beginName (l : Launch) (dC : Nat → ClassId) (dI : Nat → Nat → Nat) (a : Nat → Nat) (k : Nat → ClassId) (h0 : Nat) (vi : Nat → Int32) (vj : Nat → Int64) (vF : Nat → Nat → Int32) (vG : Nat → Nat → Int64) (tp : Nat) (an : Nat) (fn : Nat) (nm : Nat) (se : Nat) (pa : Nat) (va : Nat) (bd : Nat) (tT : Nat → Nat → Int32) (gG : RG) (bs : Nat) (r0 : Nat) (dN : Nat) (wi : Nat) (nd : Nat) (mM : Nat) (cw : Nat) (uu : Nat) (pe : Nat) (un : Nat) (gl : Nat) (gm : Nat) (xe : Nat) (p1 : Nat) (n1 : Nat) (m1 : Nat) (tw : Nat) (hTp : vi 16 = nI tp) (htp : tp ≤ 4000) (ha0 : vi 17 = nI an) (hfr : vi 19 = nI fn) (hLx : LxO tp fn an (vi 18) (vi 20)) (hst0 : 0 ≤ (vi 21).toInt) (hnm : vi 25 = nI nm) (hnm40 : nm ≤ 40) (hno : NmO (vF 11) (vF 12) nm) (hNk : NkO (vF 10) (vF 13) nm se pa va) (hbd : vi 30 = nI bd) (hbd60 : bd ≤ 60) (hbo : NmO (vF 14) (vF 15) 60) (hse44 : se ≤ 44) (hRV : RdV tT gG (vF 29) (vF 30) (vF 31) (vF 32) (vF 36) (vF 37) (vF 38) se nd bs) (hRT : RdT tT gG (vF 29) (vF 30) (vF 31) (vF 32) (vF 36) (vF 37) (vF 38) (vF 39) (vF 40) (vF 41) (vF 42) (vF 48) (vi 18) (vi 20) (vi 76) se bs r0 dN wi nd bd fn mM 1 cw uu pe un gl gm xe p1 n1 m1 tw) (hdp : vi 74 = nI (dN + 1)) (hwi : vi 75 = nI wi) (hnd : vi 52 = nI nd) (hDc : DcO tT se pa va) (ht18 : vF 18 = tT 18) (ht24 : vF 24 = tT 24) (hs0 : vF 40 dN = 0) (hwd1 : (vi 18).toInt = 1) (hCb : CbO (vF 9) (vF 10) (vF 11) (vF 12) (vF 14) (vF 15) fn an nm bd) (sz : Nat) : Met l yX12_beginName wsRX12_beginName ({ frames := 9, cells := 0, slots := 0, locals := 194 }) (va_Pc [.ref h0, .int (nI dN)] (fun U => U.heap.size = sz ∧ va_P (dC, dI) vwCl (WR a k h0 vi vj vF vG) U.heap ∧ va_K (dC, dI) vwCl (tX12 k) U ∧ va_D (fun _ => True) (WR a k h0 vi vj vF vG) ∧ StrA (va_A (WR a k h0 vi vj vF vG) sz) U U.heap)) (va_Qv (fun (u : (Nat) × (Nat) × (Int32) × (Int32) × (Int32) × (Int32) × (Nat → Int32) × (Nat → Int32) × (Nat → Int32) × (Nat → Int32) × (Nat → Int32) × (Nat → Int32) × (Nat → Int32) × (Nat → Int32) × (Nat → Int32) × (Nat → Int32) × (Nat → Int32) × (Nat → Int32) × (Nat → Int32) × (Nat) × (Nat) × (Nat) × (Int32) × (Int32) × (RG)) => (LxO tp (u.2.1) (u.1) (u.2.2.2.1) (u.2.2.1)) ∧ (fn ≤ (u.2.1)) ∧ (0 ≤ ((u.2.2.2.2.1)).toInt) ∧ (0 < ((u.2.2.2.2.1)).toInt ∨ (RdS tT (u.2.2.2.2.2.2.2.2.2.2.2.2.2.2.2.2.2.2.2.2.2.2.2.2) (u.2.2.2.2.2.2.1) (u.2.2.2.2.2.2.2.1) (u.2.2.2.2.2.2.2.2.1) (u.2.2.2.2.2.2.2.2.2.1) (vF 36) (vF 37) (vF 38) (u.2.2.2.2.2.2.2.2.2.2.2.2.2.1) (u.2.2.2.2.2.2.2.2.2.2.2.2.2.2.1) (u.2.2.2.2.2.2.2.2.2.2.2.2.2.2.2.1) (u.2.2.2.2.2.2.2.2.2.2.2.2.2.2.2.2.1) (u.2.2.2.2.2.2.2.2.2.2.2.2.2.2.2.2.2.2.1) (u.2.2.2.1) (u.2.2.1) (u.2.2.2.2.2.2.2.2.2.2.2.2.2.2.2.2.2.2.2.2.2.2.1) se bs r0 (u.2.2.2.2.2.2.2.2.2.2.2.2.2.2.2.2.2.2.2.1) (u.2.2.2.2.2.2.2.2.2.2.2.2.2.2.2.2.2.2.2.2.1) (u.2.2.2.2.2.2.2.2.2.2.2.2.2.2.2.2.2.2.2.2.2.1) bd (u.2.1) (mM - 1) ∧ Ext 0 bs gG (vF 29) (vF 30) (vF 31) (vF 32) (vF 36) (vF 37) (vF 38) (u.2.2.2.2.2.2.2.2.2.2.2.2.2.2.2.2.2.2.2.2.2.2.2.2) (u.2.2.2.2.2.2.1) (u.2.2.2.2.2.2.2.1) (u.2.2.2.2.2.2.2.2.1) (u.2.2.2.2.2.2.2.2.2.1) (vF 36) (vF 37) (vF 38))) ∧ ((u.2.2.2.2.2.2.2.2.2.2.2.2.2.2.2.2.2.2.2.1) ≤ dN + 2)) (fun (u : (Nat) × (Nat) × (Int32) × (Int32) × (Int32) × (Int32) × (Nat → Int32) × (Nat → Int32) × (Nat → Int32) × (Nat → Int32) × (Nat → Int32) × (Nat → Int32) × (Nat → Int32) × (Nat → Int32) × (Nat → Int32) × (Nat → Int32) × (Nat → Int32) × (Nat → Int32) × (Nat → Int32) × (Nat) × (Nat) × (Nat) × (Int32) × (Int32) × (RG)) t => va_P (dC, dI) vwCl (WR a k h0 (fT (fT (fT (fT (fT (fT (fT (fT (fT (fT (fT vi 52 (nI (u.2.2.2.2.2.2.2.2.2.2.2.2.2.2.2.2.2.2.2.2.2.1))) 17 (nI (u.1))) 19 (nI (u.2.1))) 20 (u.2.2.1)) 18 (u.2.2.2.1)) 21 (u.2.2.2.2.1)) 22 (u.2.2.2.2.2.1)) 75 (nI (u.2.2.2.2.2.2.2.2.2.2.2.2.2.2.2.2.2.2.2.2.1))) 74 (nI (u.2.2.2.2.2.2.2.2.2.2.2.2.2.2.2.2.2.2.2.1))) 76 (u.2.2.2.2.2.2.2.2.2.2.2.2.2.2.2.2.2.2.2.2.2.2.1)) 77 (u.2.2.2.2.2.2.2.2.2.2.2.2.2.2.2.2.2.2.2.2.2.2.2.1)) vj (fT (fT (fT (fT (fT (fT (fT (fT (fT (fT (fT (fT (fT vF 29 (u.2.2.2.2.2.2.1)) 30 (u.2.2.2.2.2.2.2.1)) 31 (u.2.2.2.2.2.2.2.2.1)) 32 (u.2.2.2.2.2.2.2.2.2.1)) 33 (u.2.2.2.2.2.2.2.2.2.2.1)) 34 (u.2.2.2.2.2.2.2.2.2.2.2.1)) 35 (u.2.2.2.2.2.2.2.2.2.2.2.2.1)) 41 (u.2.2.2.2.2.2.2.2.2.2.2.2.2.2.2.1)) 40 (u.2.2.2.2.2.2.2.2.2.2.2.2.2.2.1)) 39 (u.2.2.2.2.2.2.2.2.2.2.2.2.2.1)) 42 (u.2.2.2.2.2.2.2.2.2.2.2.2.2.2.2.2.1)) 47 (u.2.2.2.2.2.2.2.2.2.2.2.2.2.2.2.2.2.1)) 48 (u.2.2.2.2.2.2.2.2.2.2.2.2.2.2.2.2.2.2.1)) vG) t.heap ∧ va_D (va_A (WR a k h0 vi vj vF vG) sz) (WR a k h0 (fT (fT (fT (fT (fT (fT (fT (fT (fT (fT (fT vi 52 (nI (u.2.2.2.2.2.2.2.2.2.2.2.2.2.2.2.2.2.2.2.2.2.1))) 17 (nI (u.1))) 19 (nI (u.2.1))) 20 (u.2.2.1)) 18 (u.2.2.2.1)) 21 (u.2.2.2.2.1)) 22 (u.2.2.2.2.2.1)) 75 (nI (u.2.2.2.2.2.2.2.2.2.2.2.2.2.2.2.2.2.2.2.2.1))) 74 (nI (u.2.2.2.2.2.2.2.2.2.2.2.2.2.2.2.2.2.2.2.1))) 76 (u.2.2.2.2.2.2.2.2.2.2.2.2.2.2.2.2.2.2.2.2.2.2.1)) 77 (u.2.2.2.2.2.2.2.2.2.2.2.2.2.2.2.2.2.2.2.2.2.2.2.1)) vj (fT (fT (fT (fT (fT (fT (fT (fT (fT (fT (fT (fT (fT vF 29 (u.2.2.2.2.2.2.1)) 30 (u.2.2.2.2.2.2.2.1)) 31 (u.2.2.2.2.2.2.2.2.1)) 32 (u.2.2.2.2.2.2.2.2.2.1)) 33 (u.2.2.2.2.2.2.2.2.2.2.1)) 34 (u.2.2.2.2.2.2.2.2.2.2.2.1)) 35 (u.2.2.2.2.2.2.2.2.2.2.2.2.1)) 41 (u.2.2.2.2.2.2.2.2.2.2.2.2.2.2.2.1)) 40 (u.2.2.2.2.2.2.2.2.2.2.2.2.2.2.1)) 39 (u.2.2.2.2.2.2.2.2.2.2.2.2.2.1)) 42 (u.2.2.2.2.2.2.2.2.2.2.2.2.2.2.2.2.1)) 47 (u.2.2.2.2.2.2.2.2.2.2.2.2.2.2.2.2.2.1)) 48 (u.2.2.2.2.2.2.2.2.2.2.2.2.2.2.2.2.2.2.1)) vG)) (va_A (WR a k h0 vi vj vF vG) sz)) 0 0 (va_A (WR a k h0 vi vj vF vG) sz) := by
  refine Met.ofW (cc := cX12_beginName) (maxL := 5) (ret := none) (by decide) rfl ?_
  intro p e s m args below meth c s₁ B hml hv
  obtain ⟨rfl, hsz, hP, hK, hD0, hE⟩ := hv
  have hx := B.exec
  have hb := B.bytes
  have hr := B.returns
  have hts := atoms_spec (ws := wsRX12_beginName) B.pre
  have hown : s.vm.findClass RX12 = some m.cls := findClass_of_methodNamed B.named
  have hlocks := B.notSynchronized
  subst hsz
  have hD := hD0.self (sz := s.heap.size)
  generalize hAe : va_A (WR a k h0 vi vj vF vG) s.heap.size = A at hD hE ⊢
  have hA : ∀ q : Nat, s.heap.size ≤ q → A q := fun q h => by rw [← hAe]; exact Or.inr h
  have hS : va_S A s.heap s.heap [] := va_S.rf
  have hl := lv_entry ([.ref h0, .int (nI dN)]) (n := 5) (Nat.le_of_ble_eq_true rfl)
  rw [lg_entry_eq]
  generalize (lg_sl ([.ref h0, .int (nI dN)]) ++ List.replicate (5 - (lg_sl ([.ref h0, .int (nI dN)])).length) Slot.unset).toArray = ls at hl ⊢
  have hl : lv_has ls 5 [(0, .ref h0), (1, .int (nI dN))] := hl
  have hfa := hLx.1
  have han := hLx.2.1
  have han4 : an ≤ 4000 := by omega
  obtain ⟨⟨h39, _, h48⟩, hBel, ⟨h25, hwc⟩, hTq, hc1, hc2, hc3, hc4, hc5, hc6⟩ := hRT
  have hdd := hBel.deep
  have hz := hTq.fac0 hs0
  have hK0 := RdK.first (gl := gl) hRV (by omega)
  have hfl : fn < an := hLx.2.2.1.resolve_left (fun h => absurd (show (vi 18).toInt = 0 by rw [h]; decide) (by omega))
  refine lv_aload_n hx hb dX12_beginName_0 rfl (lv_at hl 0 rfl) ?_
  have hFc := allFree hD hS hA
  refine va_calli (va_runV (As := []) (rest := []) ⟨hx, hb, hml, hown, hts⟩ (r_X12_binderf l dC dI a k h0 vi vj vF vG an fn bd ha0 hfr (by first | with_reducible assumption | decide | omega | rfl | assumption) (by first | with_reducible assumption | decide | omega | rfl | assumption) (hbd) (by first | with_reducible assumption | decide | omega | rfl | assumption) ((fun k9 h9 => hbo k9 (by omega))) s.heap.size) (cwV 0 hts gwsRX12_beginName_0 rfl rfl rfl hd_yX12_binder_RX12 (by decide +kernel)) (fz_pre (va_recv hK hP (ci := 12) (q0 := 0) rfl rfl) hP hK hD) rfl rfl hl.1 rfl (lv_room (Nat.le_of_ble_eq_true rfl)) dX12_beginName_1 (by decide +kernel)) hS (fun q _ h => hFc q h) hFc (fun r1 kx1 t9_ H locs ht hvm hw9 hB9 hz1 hk1 hS => ?_)
  have hP : va_P (dC, dI) vwCl (WR a k h0 vi vj vF vG) H := fz_P ht hB9.1
  have hD := fz_sd hP (hB9.2.weaken (fun _ q _ h => hFc q.1 h)) rfl
  rcases hw9 with ⟨rfl, f1_0⟩ | ⟨rfl, f1_0, f1_1⟩
  · have f1_0 : ∀ k, k < bd → ¬ SmW (vF 9) (vF 14) (vF 15) fn an k := f1_0
    refine lv_istore_n hx hb dX12_beginName_4 rfl hl (by decide) rfl (fun ls (hl : lv_has ls _ ([(2, .int (-1)), (0, .ref h0), (1, .int (nI dN))])) => ?_)
    refine lv_iload_n hx hb dX12_beginName_5 rfl (lv_at hl 0 rfl) ?_
    refine lv_iconst (v := (-1)) hx hb dX12_beginName_6 (by decide) ?_
    refine lv_icmp_eq (tgt := 33) hx hb dX12_beginName_7 (by decide) (fun _ => ?_) (fun c9 => absurd (by decide) c9)
    refine lv_aload_n hx hb dX12_beginName_33 rfl (lv_at hl 1 rfl) ?_
    have hFc := allFree hD hS hA
    refine va_calli (va_runV (As := []) (rest := []) ⟨hx, hb, hml, hown, hts⟩ (r_X12_declaredf l dC dI a k h0 vi vj vF vG an fn nm ha0 hfr (by first | with_reducible assumption | decide | omega | rfl | assumption) (by first | with_reducible assumption | decide | omega | rfl | assumption) hnm (by first | with_reducible assumption | decide | omega | rfl | assumption) (by first | with_reducible assumption | decide | omega | rfl | assumption) H.size) (cwV 0 hts gwsRX12_beginName_1 rfl rfl rfl hd_yX12_declared_RX12 (by decide +kernel)) (fz_pre (va_recv hK hP (ci := 12) (q0 := 0) rfl rfl) hP hK hD) rfl rfl hl.1 rfl (lv_room (Nat.le_of_ble_eq_true rfl)) dX12_beginName_34 (by decide +kernel)) hS (fun q _ h => hFc q h) hFc (fun r34 kx34 t9_ H locs ht hvm hw9 hB9 hz1 hk1 hS => ?_)
    have hP : va_P (dC, dI) vwCl (WR a k h0 vi vj vF vG) H := fz_P ht hB9.1
    have hD := fz_sd hP (hB9.2.weaken (fun _ q _ h => hFc q.1 h)) rfl
    rcases hw9 with ⟨rfl, f34_0⟩ | ⟨rfl, f34_0, f34_1, f34_2⟩
    · have f34_0 : ∀ k, k < nm → ¬ SmW (vF 9) (vF 11) (vF 12) fn an k := f34_0
      refine lv_istore_n hx hb dX12_beginName_37 rfl hl (by decide) rfl (fun ls (hl : lv_has ls _ ([(3, .int (-1)), (2, .int (-1)), (0, .ref h0), (1, .int (nI dN))])) => ?_)
      obtain ⟨kC, hk1, hk2, hk3, hk4⟩ := hCb.resolve_left (fun ⟨k9, h1, h2⟩ => f1_0 k9 h1 h2)
      exact absurd hk2 (f34_0 kC hk1)
    · have f34_1 : SmW (vF 9) (vF 11) (vF 12) fn an kx34 := f34_1
      have f34_2 : ∀ k, k < kx34 → ¬ SmW (vF 9) (vF 11) (vF 12) fn an k := f34_2
      refine lv_istore_n hx hb dX12_beginName_37 rfl hl (by decide) rfl (fun ls (hl : lv_has ls _ ([(3, .int (nI kx34)), (2, .int (-1)), (0, .ref h0), (1, .int (nI dN))])) => ?_)
      obtain ⟨kC, hk1, hk2, hk3, hk4⟩ := hCb.resolve_left (fun ⟨k9, h1, h2⟩ => f1_0 k9 h1 h2)
      have hkE : kC = kx34 := by (rcases Nat.lt_trichotomy kC kx34 with h9 | h9 | h9); (exact absurd hk2 (f34_2 kC h9)); (exact h9); (exact absurd f34_1 (hk3 kx34 h9))
      rw [hkE] at hk4
      obtain ⟨oA, eoA, hoA, _, hoP, hoV⟩ := hNk kx34 (by omega)
      refine lv_aload_n hx hb dX12_beginName_38 rfl (lv_at hl 2 rfl) ?_
      refine lv_aload_n hx hb dX12_beginName_39 rfl (lv_at hl 2 rfl) ?_
      refine va_get (D := (dC, dI)) (ci := 12) (v := .ref (a 10)) (C := RX12) (T := TX12) (N := 163) (fs := fM (vS a vi vj)) hx hb hts iwsRX12_beginName_in12 hown hK hP 0 rfl rfl 26 (by decide) (hts (.fieldLink RX12 50 "OptimaWorksModel" "nameKind" "[I") (by decide +kernel)) (fun _ h9 => h9) rfl dX12_beginName_40 ?_
      refine lv_iload_n hx hb dX12_beginName_43 rfl (lv_at hl 0 rfl) ?_
      refine va_iald (cA := k 10) (n := 44) (f := (vF 10)) hx hb hK hP 11 10 (WR_get 10 (by decide)) (TR_get 10 (by decide)) (vp_in_nI (show kx34 < 44 by omega) (by omega)) dX12_beginName_44 ?_
      refine lv_topi (fun y1 hy1 => ?_)
      obtain rfl : ((vF 10) kx34) = y1 := (hy1.trans (by rw [nI_clamp (by omega)])).symm
      refine lv_iconst (v := 2) hx hb dX12_beginName_45 (by decide) ?_
      refine lv_icmp_ne (tgt := 53) hx hb dX12_beginName_46 (by decide) (fun c_46 => ?_) (fun c_46 => ?_)
      · have t_46 : (((vF 10) kx34)).toInt ≠ 2 := toI_ne c_46 rfl (by decide)
        refine lv_iconst (v := 3) hx hb dX12_beginName_53 (by decide) ?_
        obtain ⟨pl, o1, o2, aT, hSm⟩ := hDc.2 oA (hoV (hk4.resolve_left c_46))
        have hpl2 := hSm.2.2.2.1.1
        have hKN := hK0.node (kv := 3) (av := nI oA) (bv := -1) (cv := -1) (by omega)
        refine lv_aload_n hx hb dX12_beginName_54 rfl (lv_at hl 2 rfl) ?_
        refine va_get (D := (dC, dI)) (ci := 12) (v := .ref (a 13)) (C := RX12) (T := TX12) (N := 163) (fs := fM (vS a vi vj)) hx hb hts iwsRX12_beginName_in12 hown hK hP 0 rfl rfl 29 (by decide) (hts _ hm_r_X12_beginName_0) (fun _ h9 => h9) rfl dX12_beginName_55 ?_
        refine lv_iload_n hx hb dX12_beginName_58 rfl (lv_at hl 0 rfl) ?_
        refine va_iald (cA := k 13) (n := 44) (f := (vF 13)) hx hb hK hP 14 13 (WR_get 13 (by decide)) (TR_get 13 (by decide)) (vp_in_nI (show kx34 < 44 by omega) (by omega)) dX12_beginName_59 ?_
        refine lv_topi (fun y2 hy2 => ?_)
        obtain rfl : ((vF 13) kx34) = y2 := (hy2.trans (by rw [nI_clamp (by omega)])).symm
        refine lv_topi (fun y3 hy3 => ?_)
        obtain rfl : (nI oA) = y3 := (hy3.trans (eoA)).symm
        refine lv_iconst (v := (-1)) hx hb dX12_beginName_60 (by decide) ?_
        refine lv_iconst (v := (-1)) hx hb dX12_beginName_61 (by decide) ?_
        refine lv_aload_n hx hb dX12_beginName_62 rfl (lv_at hl 2 rfl) ?_
        refine va_get (D := (dC, dI)) (ci := 12) (v := .int (vi 19)) (C := RX12) (T := TX12) (N := 163) (fs := fM (vS a vi vj)) hx hb hts iwsRX12_beginName_in12 hown hK hP 0 rfl rfl 19 (by decide) (hts _ hm_r_X12_beginName_1) (fun _ h9 => h9) rfl dX12_beginName_63 ?_
        refine lv_topi (fun y4 hy4 => ?_)
        obtain rfl : (nI fn) = y4 := (hy4.trans (hfr)).symm
        have hFc := allFree hD hS hA
        refine va_calli (va_runV (As := [.int 3, .int (nI oA), .int (-1), .int (-1), .int (nI fn)]) (rest := []) ⟨hx, hb, hml, hown, hts⟩ (r_X12_node l dC dI a k h0 vi vj vF vG nd 3 (nI oA) (-1) (-1) (nI fn) hnd (by first | with_reducible assumption | decide | omega | rfl | assumption) H.size) (cwV 5 hts gwsRX12_beginName_2 rfl rfl rfl hd_yX12_node_RX12 (by decide +kernel)) (fz_pre (va_recv hK hP (ci := 12) (q0 := 0) rfl rfl) hP hK hD) rfl rfl hl.1 rfl (lv_room (Nat.le_of_ble_eq_true rfl)) dX12_beginName_66 (by decide +kernel)) hS (fun q _ h => hFc q h) hFc (fun r66 u t9_ H locs ht hvm hw9 hB9 hz1 hk1 hS => ?_)
        have hP : va_P (dC, dI) vwCl (WR a k h0 (fT vi 52 (nI (nd + 1))) vj (fT (fT (fT (fT (fT (fT (fT vF 29 (upd (vF 29) (nI nd).toNatClampNeg 3)) 30 (upd (vF 30) (nI nd).toNatClampNeg (nI oA))) 31 (upd (vF 31) (nI nd).toNatClampNeg (-1))) 32 (upd (vF 32) (nI nd).toNatClampNeg (-1))) 33 (upd (vF 33) (nI nd).toNatClampNeg (nI fn))) 34 (upd (vF 34) (nI nd).toNatClampNeg 0)) 35 (upd (vF 35) (nI nd).toNatClampNeg 0)) vG) H := fz_P ht hB9.1
        have hD := fz_sd hP (hB9.2.weaken (fun _ q _ h => hFc q.1 h)) rfl
        obtain rfl := hw9
        refine lv_istore hx hb dX12_beginName_69 hl (by decide) rfl (fun ls (hl : lv_has ls _ ([(4, .int (nI nd)), (3, .int (nI kx34)), (2, .int (-1)), (0, .ref h0), (1, .int (nI dN))])) => ?_)
        refine lv_aload_n hx hb dX12_beginName_71 rfl (lv_at hl 3 rfl) ?_
        have hFc := allFree hD hS hA
        refine va_callv (va_runV (As := []) (rest := []) ⟨hx, hb, hml, hown, hts⟩ (r_X12_next l dC dI a k h0 (fT vi 52 (nI (nd + 1))) vj (fT (fT (fT (fT (fT (fT (fT vF 29 (upd (vF 29) (nI nd).toNatClampNeg 3)) 30 (upd (vF 30) (nI nd).toNatClampNeg (nI oA))) 31 (upd (vF 31) (nI nd).toNatClampNeg (-1))) 32 (upd (vF 32) (nI nd).toNatClampNeg (-1))) 33 (upd (vF 33) (nI nd).toNatClampNeg (nI fn))) 34 (upd (vF 34) (nI nd).toNatClampNeg 0)) 35 (upd (vF 35) (nI nd).toNatClampNeg 0)) vG tp an hTp (by first | with_reducible assumption | decide | omega | rfl | assumption) ha0 (by first | with_reducible assumption | decide | omega | rfl | assumption) H.size) (cwV 0 hts gwsRX12_beginName_3 rfl rfl rfl hd_yX12_next_RX12 (by decide +kernel)) (fz_preE (va_recv hK hP (ci := 12) (q0 := 0) rfl rfl) hP hK hD (fun a U g mk qE => qE.same rfl) (fun U hU9 hW => by rw [hU9]; exact (((hE : StrA A s s.heap).kept hS.2.1).narrow (fun q h => hFc q h)).warm hW)) rfl rfl hl.1 rfl (lv_room (Nat.le_of_ble_eq_true rfl)) dX12_beginName_72 (by decide +kernel)) hS (fun q _ h => hFc q h) hFc (fun u t9_ H locs ht hvm hw9 hB9 hz1 hk1 hS => ?_)
        revert u hw9 hB9
        refine fz_p4 ?_
        intro a272 f272 sg72 wd72 hw9 hB9
        try dsimp only at hw9 hB9
        have hP : va_P (dC, dI) vwCl (WR a k h0 (fT (fT (fT (fT (fT vi 52 (nI (nd + 1))) 17 (nI a272)) 19 (nI f272)) 20 sg72) 18 wd72) vj (fT (fT (fT (fT (fT (fT (fT vF 29 (upd (vF 29) (nI nd).toNatClampNeg 3)) 30 (upd (vF 30) (nI nd).toNatClampNeg (nI oA))) 31 (upd (vF 31) (nI nd).toNatClampNeg (-1))) 32 (upd (vF 32) (nI nd).toNatClampNeg (-1))) 33 (upd (vF 33) (nI nd).toNatClampNeg (nI fn))) 34 (upd (vF 34) (nI nd).toNatClampNeg 0)) 35 (upd (vF 35) (nI nd).toNatClampNeg 0)) vG) H := fz_P ht hB9.1
        have hD := fz_sd hP (hB9.2.weaken (fun _ q _ h => hFc q.1 h)) rfl
        revert hw9
        refine fz_a2 ?_
        intro f72_0 f72_1
        have hl1 := f72_0.1
        have hl2 := f72_0.2.1
        refine lv_aload_n hx hb dX12_beginName_75 rfl (lv_at hl 3 rfl) ?_
        refine lv_iload hx hb dX12_beginName_76 (lv_at hl 0 rfl) ?_
        have hFc := allFree hD hS hA
        refine va_calli (va_runV (As := [.int (nI nd)]) (rest := []) ⟨hx, hb, hml, hown, hts⟩ (r_X12_placesOf l dC dI a k h0 (fT (fT (fT (fT (fT vi 52 (nI (nd + 1))) 17 (nI a272)) 19 (nI f272)) 20 sg72) 18 wd72) vj (fT (fT (fT (fT (fT (fT (fT vF 29 (upd (vF 29) (nI nd).toNatClampNeg 3)) 30 (upd (vF 30) (nI nd).toNatClampNeg (nI oA))) 31 (upd (vF 31) (nI nd).toNatClampNeg (-1))) 32 (upd (vF 32) (nI nd).toNatClampNeg (-1))) 33 (upd (vF 33) (nI nd).toNatClampNeg (nI fn))) 34 (upd (vF 34) (nI nd).toNatClampNeg 0)) 35 (upd (vF 35) (nI nd).toNatClampNeg 0)) vG nd 3 oA pl ((by omega)) (u_at (by omega) (by decide)) (u_at (by omega) rfl) (by first | with_reducible assumption | decide | omega | rfl | assumption) ((show Kd23 3 from by unfold Kd23; decide)) ((by decide)) ((fun h9 => (congrFun ht18 oA).trans (hSm.1.1 h9))) ((fun h9 => (congrFun ht24 oA).trans (hSm.1.2 h9))) H.size) (cwV 1 hts gwsRX12_beginName_4 rfl rfl rfl hd_yX12_placesOf_RX12 (by decide +kernel)) (fz_pre (va_recv hK hP (ci := 12) (q0 := 0) rfl rfl) hP hK hD) rfl rfl hl.1 rfl (lv_room (Nat.le_of_ble_eq_true rfl)) dX12_beginName_78 (by decide +kernel)) hS (fun q _ h => hFc q h) hFc (fun r78 u t9_ H locs ht hvm hw9 hB9 hz1 hk1 hS => ?_)
        have hP : va_P (dC, dI) vwCl (WR a k h0 (fT (fT (fT (fT (fT vi 52 (nI (nd + 1))) 17 (nI a272)) 19 (nI f272)) 20 sg72) 18 wd72) vj (fT (fT (fT (fT (fT (fT (fT vF 29 (upd (vF 29) (nI nd).toNatClampNeg 3)) 30 (upd (vF 30) (nI nd).toNatClampNeg (nI oA))) 31 (upd (vF 31) (nI nd).toNatClampNeg (-1))) 32 (upd (vF 32) (nI nd).toNatClampNeg (-1))) 33 (upd (vF 33) (nI nd).toNatClampNeg (nI fn))) 34 (upd (vF 34) (nI nd).toNatClampNeg 0)) 35 (upd (vF 35) (nI nd).toNatClampNeg 0)) vG) H := fz_P ht hB9.1
        have hD := fz_sd hP (hB9.2.weaken (fun _ q _ h => hFc q.1 h)) rfl
        obtain rfl := hw9
        refine lv_if_ne (tgt := 91) hx hb dX12_beginName_81 (by decide) (fun c_81 => ?_) (fun c_81 => ?_)
        · have t_81 : ((pl : Nat) : Int) ≠ 0 := toI_ne c_81 (nI_toInt (by omega)) (by decide)
          refine lv_aload_n hx hb dX12_beginName_91 rfl (lv_at hl 3 rfl) ?_
          refine va_get (D := (dC, dI)) (ci := 12) (v := .ref (a 41)) (C := RX12) (T := TX12) (N := 163) (fs := fM (vS a (fT (fT (fT (fT (fT vi 52 (nI (nd + 1))) 17 (nI a272)) 19 (nI f272)) 20 sg72) 18 wd72) vj)) hx hb hts iwsRX12_beginName_in12 hown hK hP 0 rfl rfl 66 (by decide) (hts _ hm_r_X12_beginName_2) (fun _ h9 => h9) rfl dX12_beginName_92 ?_
          refine lv_iload_n hx hb dX12_beginName_95 rfl (lv_at hl 4 rfl) ?_
          refine lv_iload hx hb dX12_beginName_96 (lv_at hl 0 rfl) ?_
          refine va_iast (cA := k 41) (n := 120) (f := (vF 41)) hx hb hK hP hD hS 42 41 (WR_get 41 (by decide)) (TR_get 41 (by decide)) (vp_in_nI (show dN < 120 by omega) (by omega)) dX12_beginName_98 (fun H locs hP hD hS => ?_)
          have hP : va_P (dC, dI) vwCl (WR a k h0 (fT (fT (fT (fT (fT vi 52 (nI (nd + 1))) 17 (nI a272)) 19 (nI f272)) 20 sg72) 18 wd72) vj (fT (fT (fT (fT (fT (fT (fT (fT vF 29 (upd (vF 29) (nI nd).toNatClampNeg 3)) 30 (upd (vF 30) (nI nd).toNatClampNeg (nI oA))) 31 (upd (vF 31) (nI nd).toNatClampNeg (-1))) 32 (upd (vF 32) (nI nd).toNatClampNeg (-1))) 33 (upd (vF 33) (nI nd).toNatClampNeg (nI fn))) 34 (upd (vF 34) (nI nd).toNatClampNeg 0)) 35 (upd (vF 35) (nI nd).toNatClampNeg 0)) 41 (upd (vF 41) ((nI dN)).toNatClampNeg (nI nd))) vG) H := fz_w (WR_F 41 (by decide) _ rfl) hP
          have hD : va_D A (WR a k h0 (fT (fT (fT (fT (fT vi 52 (nI (nd + 1))) 17 (nI a272)) 19 (nI f272)) 20 sg72) 18 wd72) vj (fT (fT (fT (fT (fT (fT (fT (fT vF 29 (upd (vF 29) (nI nd).toNatClampNeg 3)) 30 (upd (vF 30) (nI nd).toNatClampNeg (nI oA))) 31 (upd (vF 31) (nI nd).toNatClampNeg (-1))) 32 (upd (vF 32) (nI nd).toNatClampNeg (-1))) 33 (upd (vF 33) (nI nd).toNatClampNeg (nI fn))) 34 (upd (vF 34) (nI nd).toNatClampNeg 0)) 35 (upd (vF 35) (nI nd).toNatClampNeg 0)) 41 (upd (vF 41) ((nI dN)).toNatClampNeg (nI nd))) vG) := fz_wD (WR_F 41 (by decide) _ rfl) hD
          refine lv_aload_n hx hb dX12_beginName_99 rfl (lv_at hl 3 rfl) ?_
          refine lv_bipush (v := 91) hx hb dX12_beginName_100 (by decide) ?_
          have hFc := allFree hD hS hA
          refine va_calli (va_runV (As := [.int 91]) (rest := []) ⟨hx, hb, hml, hown, hts⟩ (r_X12_needSign l dC dI a k h0 (fT (fT (fT (fT (fT vi 52 (nI (nd + 1))) 17 (nI a272)) 19 (nI f272)) 20 sg72) 18 wd72) vj (fT (fT (fT (fT (fT (fT (fT (fT vF 29 (upd (vF 29) (nI nd).toNatClampNeg 3)) 30 (upd (vF 30) (nI nd).toNatClampNeg (nI oA))) 31 (upd (vF 31) (nI nd).toNatClampNeg (-1))) 32 (upd (vF 32) (nI nd).toNatClampNeg (-1))) 33 (upd (vF 33) (nI nd).toNatClampNeg (nI fn))) 34 (upd (vF 34) (nI nd).toNatClampNeg 0)) 35 (upd (vF 35) (nI nd).toNatClampNeg 0)) 41 (upd (vF 41) ((nI dN)).toNatClampNeg (nI nd))) vG 91 tp a272 f272 hTp (by first | with_reducible assumption | decide | omega | rfl | assumption) rfl rfl (f72_0) (by first | with_reducible assumption | decide | omega | rfl | assumption) H.size) (cwV 1 hts gwsRX12_beginName_5 rfl rfl rfl hd_yX12_needSign_RX12 (by decide +kernel)) (fz_preE (va_recv hK hP (ci := 12) (q0 := 0) rfl rfl) hP hK hD (fun a U g mk qE => qE.same rfl) (fun U hU9 hW => by rw [hU9]; exact (((hE : StrA A s s.heap).kept hS.2.1).narrow (fun q h => hFc q h)).warm hW)) rfl rfl hl.1 rfl (lv_room (Nat.le_of_ble_eq_true rfl)) dX12_beginName_102 (by decide +kernel)) hS (fun q _ h => hFc q h) hFc (fun r102 u t9_ H locs ht hvm hw9 hB9 hz1 hk1 hS => ?_)
          revert u hw9 hB9
          refine fz_p6 ?_
          intro a2102 f2102 sg102 wd102 s2102 p2102 hw9 hB9
          try dsimp only at hw9 hB9
          have e9i : fT (fT (fT (fT (fT (fT (fT vi 52 (nI (nd + 1))) 17 (nI a2102)) 19 (nI f2102)) 20 sg102) 18 wd102) 21 s2102) 22 p2102 = fT (fT (fT (fT (fT (fT (fT (fT (fT (fT (fT vi 52 (nI (nd + 1))) 17 (nI a272)) 19 (nI f272)) 20 sg72) 18 wd72) 17 (nI a2102)) 19 (nI f2102)) 20 sg102) 18 wd102) 21 s2102) 22 p2102 := ch_E vi [nI (nd + 1), nI a2102, nI f2102, sg102, wd102, s2102, p2102, nI a272, nI f272, sg72, wd72] [(22, 7), (21, 6), (18, 5), (20, 4), (19, 3), (17, 2), (52, 1)] [(22, 7), (21, 6), (18, 5), (20, 4), (19, 3), (17, 2), (18, 11), (20, 10), (19, 9), (17, 8), (52, 1)] [] trivial (by decide +kernel)
          have hP := wr_Pi e9i (fz_P ht hB9.1)
          have hD := wr_Di e9i (hB9.2.weaken (fun _ q _ h => hFc q.1 h))
          clear e9i
          rcases hw9 with ⟨rfl, f102_0, f102_1, f102_2, f102_3⟩ | ⟨rfl, f102_0, f102_1, f102_2⟩
          · have f102_3 : (vi 21) = 0 := f102_3
            refine lv_if_ne (tgt := 109) hx hb dX12_beginName_105 (by decide) (fun _ => ?_) (fun c9 => absurd c9 (by decide))
            refine lv_aload_n hx hb dX12_beginName_109 rfl (lv_at hl 3 rfl) ?_
            refine va_get (D := (dC, dI)) (ci := 12) (v := .ref (a 40)) (C := RX12) (T := TX12) (N := 163) (fs := fM (vS a (fT (fT (fT (fT (fT (fT (fT vi 52 (nI (nd + 1))) 17 (nI a2102)) 19 (nI f2102)) 20 sg102) 18 wd102) 21 s2102) 22 p2102) vj)) hx hb hts iwsRX12_beginName_in12 hown hK hP 0 rfl rfl 65 (by decide) (hts _ hm_r_X12_beginName_3) (fun _ h9 => h9) rfl dX12_beginName_110 ?_
            refine lv_iload_n hx hb dX12_beginName_113 rfl (lv_at hl 4 rfl) ?_
            refine lv_iconst (v := 3) hx hb dX12_beginName_114 (by decide) ?_
            refine va_iast (cA := k 40) (n := 120) (f := (vF 40)) hx hb hK hP hD hS 41 40 (WR_get 40 (by decide)) (TR_get 40 (by decide)) (vp_in_nI (show dN < 120 by omega) (by omega)) dX12_beginName_115 (fun H locs hP hD hS => ?_)
            have hP : va_P (dC, dI) vwCl (WR a k h0 (fT (fT (fT (fT (fT (fT (fT vi 52 (nI (nd + 1))) 17 (nI a2102)) 19 (nI f2102)) 20 sg102) 18 wd102) 21 s2102) 22 p2102) vj (fT (fT (fT (fT (fT (fT (fT (fT (fT vF 29 (upd (vF 29) (nI nd).toNatClampNeg 3)) 30 (upd (vF 30) (nI nd).toNatClampNeg (nI oA))) 31 (upd (vF 31) (nI nd).toNatClampNeg (-1))) 32 (upd (vF 32) (nI nd).toNatClampNeg (-1))) 33 (upd (vF 33) (nI nd).toNatClampNeg (nI fn))) 34 (upd (vF 34) (nI nd).toNatClampNeg 0)) 35 (upd (vF 35) (nI nd).toNatClampNeg 0)) 41 (upd (vF 41) ((nI dN)).toNatClampNeg (nI nd))) 40 (upd (vF 40) ((nI dN)).toNatClampNeg 3)) vG) H := fz_w (WR_F 40 (by decide) _ rfl) hP
            have hD : va_D A (WR a k h0 (fT (fT (fT (fT (fT (fT (fT vi 52 (nI (nd + 1))) 17 (nI a2102)) 19 (nI f2102)) 20 sg102) 18 wd102) 21 s2102) 22 p2102) vj (fT (fT (fT (fT (fT (fT (fT (fT (fT vF 29 (upd (vF 29) (nI nd).toNatClampNeg 3)) 30 (upd (vF 30) (nI nd).toNatClampNeg (nI oA))) 31 (upd (vF 31) (nI nd).toNatClampNeg (-1))) 32 (upd (vF 32) (nI nd).toNatClampNeg (-1))) 33 (upd (vF 33) (nI nd).toNatClampNeg (nI fn))) 34 (upd (vF 34) (nI nd).toNatClampNeg 0)) 35 (upd (vF 35) (nI nd).toNatClampNeg 0)) 41 (upd (vF 41) ((nI dN)).toNatClampNeg (nI nd))) 40 (upd (vF 40) ((nI dN)).toNatClampNeg 3)) vG) := fz_wD (WR_F 40 (by decide) _ rfl) hD
            refine lv_aload_n hx hb dX12_beginName_116 rfl (lv_at hl 3 rfl) ?_
            refine lv_iconst (v := 0) hx hb dX12_beginName_117 (by decide) ?_
            have hFc := allFree hD hS hA
            refine va_callv (va_runV (As := [.int 0]) (rest := []) ⟨hx, hb, hml, hown, hts⟩ (r_X12_begin1 l dC dI a k h0 (fT (fT (fT (fT (fT (fT (fT vi 52 (nI (nd + 1))) 17 (nI a2102)) 19 (nI f2102)) 20 sg102) 18 wd102) 21 s2102) 22 p2102) vj (fT (fT (fT (fT (fT (fT (fT (fT (fT vF 29 (upd (vF 29) (nI nd).toNatClampNeg 3)) 30 (upd (vF 30) (nI nd).toNatClampNeg (nI oA))) 31 (upd (vF 31) (nI nd).toNatClampNeg (-1))) 32 (upd (vF 32) (nI nd).toNatClampNeg (-1))) 33 (upd (vF 33) (nI nd).toNatClampNeg (nI fn))) 34 (upd (vF 34) (nI nd).toNatClampNeg 0)) 35 (upd (vF 35) (nI nd).toNatClampNeg 0)) 41 (upd (vF 41) ((nI dN)).toNatClampNeg (nI nd))) 40 (upd (vF 40) ((nI dN)).toNatClampNeg 3)) vG 0 tp a2102 f2102 nm se pa va bd (dN + 1) wi hTp (by first | with_reducible assumption | decide | omega | rfl | assumption) rfl rfl (f102_1) ((show 0 ≤ (s2102).toInt by rw [f102_0]; decide)) hnm (by first | with_reducible assumption | decide | omega | rfl | assumption) (by first | with_reducible assumption | decide | omega | rfl | assumption) (by first | with_reducible assumption | decide | omega | rfl | assumption) hbd (by first | with_reducible assumption | decide | omega | rfl | assumption) (by first | with_reducible assumption | decide | omega | rfl | assumption) (hdp) (by first | with_reducible assumption | decide | omega | rfl | assumption) hwi (by first | with_reducible assumption | decide | omega | rfl | assumption) H.size) (cwV 1 hts gwsRX12_beginName_6 rfl rfl rfl hd_yX12_begin1_RX12 (by decide +kernel)) (fz_pre (va_recv hK hP (ci := 12) (q0 := 0) rfl rfl) hP hK hD) rfl rfl hl.1 rfl (lv_room (Nat.le_of_ble_eq_true rfl)) dX12_beginName_118 (by decide +kernel)) hS (fun q _ h => hFc q h) hFc (fun u t9_ H locs ht hvm hw9 hB9 hz1 hk1 hS => ?_)
            revert u hw9 hB9
            refine fz_p10 ?_
            intro s2118 p2118 g39118 g40118 g41118 g42118 g47118 g48118 d2118 w2118 hw9 hB9
            try dsimp only at hw9 hB9
            have e9i : fT (fT (fT (fT (fT (fT (fT (fT (fT vi 52 (nI (nd + 1))) 17 (nI a2102)) 19 (nI f2102)) 20 sg102) 18 wd102) 21 s2118) 22 p2118) 75 (nI w2118)) 74 (nI d2118) = fT (fT (fT (fT (fT (fT (fT (fT (fT (fT (fT vi 52 (nI (nd + 1))) 17 (nI a2102)) 19 (nI f2102)) 20 sg102) 18 wd102) 21 s2102) 22 p2102) 75 (nI w2118)) 74 (nI d2118)) 21 s2118) 22 p2118 := ch_E vi [nI (nd + 1), nI a2102, nI f2102, sg102, wd102, s2118, p2118, nI w2118, nI d2118, s2102, p2102] [(74, 9), (75, 8), (22, 7), (21, 6), (18, 5), (20, 4), (19, 3), (17, 2), (52, 1)] [(22, 7), (21, 6), (74, 9), (75, 8), (22, 11), (21, 10), (18, 5), (20, 4), (19, 3), (17, 2), (52, 1)] [] trivial (by decide +kernel)
            have e9F : fT (fT (fT (fT (fT (fT (fT (fT (fT (fT (fT (fT (fT vF 29 (upd (vF 29) (nI nd).toNatClampNeg 3)) 30 (upd (vF 30) (nI nd).toNatClampNeg (nI oA))) 31 (upd (vF 31) (nI nd).toNatClampNeg (-1))) 32 (upd (vF 32) (nI nd).toNatClampNeg (-1))) 33 (upd (vF 33) (nI nd).toNatClampNeg (nI fn))) 34 (upd (vF 34) (nI nd).toNatClampNeg 0)) 35 (upd (vF 35) (nI nd).toNatClampNeg 0)) 41 g41118) 40 g40118) 39 g39118) 42 g42118) 47 g47118) 48 g48118 = fT (fT (fT (fT (fT (fT (fT (fT (fT (fT (fT (fT (fT (fT (fT vF 29 (upd (vF 29) (nI nd).toNatClampNeg 3)) 30 (upd (vF 30) (nI nd).toNatClampNeg (nI oA))) 31 (upd (vF 31) (nI nd).toNatClampNeg (-1))) 32 (upd (vF 32) (nI nd).toNatClampNeg (-1))) 33 (upd (vF 33) (nI nd).toNatClampNeg (nI fn))) 34 (upd (vF 34) (nI nd).toNatClampNeg 0)) 35 (upd (vF 35) (nI nd).toNatClampNeg 0)) 41 (upd (vF 41) ((nI dN)).toNatClampNeg (nI nd))) 40 (upd (vF 40) ((nI dN)).toNatClampNeg 3)) 39 g39118) 40 g40118) 41 g41118) 42 g42118) 47 g47118) 48 g48118 := ((congrArg (fun g9 => fT (fT (fT (fT g9 41 g41118) 42 g42118) 47 g47118) 48 g48118) ((fT_sw _ _ _ (Nat.ne_of_beq_eq_false rfl)).trans (congrArg (fun g9 => fT g9 39 g39118) (fT_sm _ _ _ _)))).trans (congrArg (fun g9 => fT (fT (fT g9 42 g42118) 47 g47118) 48 g48118) ((fT_sw _ _ _ (Nat.ne_of_beq_eq_false rfl)).trans (congrArg (fun g9 => fT g9 39 g39118) ((fT_sw _ _ _ (Nat.ne_of_beq_eq_false rfl)).trans (congrArg (fun g9 => fT g9 40 g40118) (fT_sm _ _ _ _))))))).symm
            have hP := wr_PF e9F (wr_Pi e9i (fz_P ht hB9.1))
            have hD := wr_DF e9F (wr_Di e9i (hB9.2.weaken (fun _ q _ h => hFc q.1 h)))
            clear e9i e9F
            revert hw9
            refine fz_a4 ?_
            intro f118_0 f118_1 f118_2 f118_3
            have f118_1 : 0 < (s2118).toInt ∨ (s2118 = s2102 ∧ BgO 0 wd102 sg102 g39118 g40118 g41118 g42118 g48118 (dN + 1) wi d2118 w2118) := f118_1
            have f118_2 : FrmO (dN + 1) (vF 39) (upd (vF 40) ((nI dN)).toNatClampNeg 3) (upd (vF 41) ((nI dN)).toNatClampNeg (nI nd)) (vF 42) (vF 48) g39118 g40118 g41118 g42118 g48118 := f118_2
            refine W.widen (k := 0) (n := 0) (by decide +kernel) (by decide +kernel) ?_
            have e9 : fT (fT (fT (fT (fT (fT (fT (fT (fT (fT (fT vi 52 (nI (nd + 1))) 17 (nI a2102)) 19 (nI f2102)) 20 sg102) 18 wd102) 21 s2118) 22 p2118) 75 (nI w2118)) 74 (nI d2118)) 76 (vi 76)) 77 (vi 77) = fT (fT (fT (fT (fT (fT (fT (fT (fT vi 52 (nI (nd + 1))) 17 (nI a2102)) 19 (nI f2102)) 20 sg102) 18 wd102) 21 s2118) 22 p2118) 75 (nI w2118)) 74 (nI d2118) := ch_E vi [nI (nd + 1), nI a2102, nI f2102, sg102, wd102, s2118, p2118, nI w2118, nI d2118] [(77, 0), (76, 0), (74, 9), (75, 8), (22, 7), (21, 6), (18, 5), (20, 4), (19, 3), (17, 2), (52, 1)] [(74, 9), (75, 8), (22, 7), (21, 6), (18, 5), (20, 4), (19, 3), (17, 2), (52, 1)] [] trivial (by decide +kernel)
            have hP := wr_Pi e9 hP
            have hD := wr_Di e9 hD
            clear e9
            exact W.vret hx hb hr (fun t9_ ht hW => ⟨⟨(a2102, f2102, sg102, wd102, s2118, p2118, (upd (vF 29) (nI nd).toNatClampNeg 3), (upd (vF 30) (nI nd).toNatClampNeg (nI oA)), (upd (vF 31) (nI nd).toNatClampNeg (-1)), (upd (vF 32) (nI nd).toNatClampNeg (-1)), (upd (vF 33) (nI nd).toNatClampNeg (nI fn)), (upd (vF 34) (nI nd).toNatClampNeg 0), (upd (vF 35) (nI nd).toNatClampNeg 0), g39118, g40118, g41118, g42118, g47118, g48118, d2118, w2118, (nd + 1), (vi 76), (vi 77), gG), rfl, by (try dsimp only); exact ⟨f102_1, by omega, f118_0, by rcases f118_1 with h9 | h9; (exact Or.inl h9); (exact Or.inr ⟨RdS.push (gm := (nd + 1)) hKN.1 hBel hKN.2.1 (Nat.le_refl _) (fun q hq => ⟨rfl, by rw [upd_at (by omega), if_neg (by omega)], by rw [upd_at (by omega), if_neg (by omega)], rfl, rfl⟩) h39 (by decide) h48 (by omega) ⟨⟨by omega, fun _ => by omega, fun h8 => absurd h8 (by decide), by omega⟩, Or.inr (Or.inr (Or.inr (Or.inl ⟨rfl, rfl, by rw [upd_at (by omega), if_pos rfl], rfl, rfl, rfl, nd, pl, by rw [upd_at (by omega), if_pos rfl], by omega, by omega, hK0.nv, ⟨3, oA, o1, o2, aT, by decide, u_at (by omega) (by decide), ⟨u_at (by omega) rfl, hoA⟩, hSm, by omega⟩, u_at (by omega) rfl, u_at (by omega) rfl⟩)))⟩ f118_2 (by rw [← hwc]; exact h9.2) (show (0 : Int32) = nI 0 by decide) (by decide) (by omega) (by omega) (by omega) (by omega) (by omega) (by show 10 * (4000 - _) + dN + 1 + 3 ≤ mM - 1; omega), hKN.2.1.less (Nat.zero_le _)⟩), by omega⟩, by rw [ht]; exact hP, hD⟩, hS.F ht⟩) hS.2.2 dX12_beginName_121
          · refine lv_if_ne (tgt := 109) hx hb dX12_beginName_105 (by decide) (fun c9 => absurd c9 (by decide)) (fun _ => ?_)
            refine W.widen (k := 0) (n := 0) (by decide +kernel) (by decide +kernel) ?_
            have e9 : fT (fT (fT (fT (fT (fT (fT (fT (fT (fT (fT vi 52 (nI (nd + 1))) 17 (nI a2102)) 19 (nI f2102)) 20 sg102) 18 wd102) 21 s2102) 22 p2102) 75 (nI wi)) 74 (nI (dN + 1))) 76 (vi 76)) 77 (vi 77) = fT (fT (fT (fT (fT (fT (fT vi 52 (nI (nd + 1))) 17 (nI a2102)) 19 (nI f2102)) 20 sg102) 18 wd102) 21 s2102) 22 p2102 := ch_E vi [nI (nd + 1), nI a2102, nI f2102, sg102, wd102, s2102, p2102, nI wi, nI (dN + 1)] [(77, 0), (76, 0), (74, 9), (75, 8), (22, 7), (21, 6), (18, 5), (20, 4), (19, 3), (17, 2), (52, 1)] [(22, 7), (21, 6), (18, 5), (20, 4), (19, 3), (17, 2), (52, 1)] [75, 74] ⟨show nI wi = vi 75 from (by first | with_reducible rfl | with_reducible assumption | (symm; with_reducible assumption) | rfl | assumption | (symm; assumption) | (subst_vars; rfl)), show nI (dN + 1) = vi 74 from (by first | with_reducible rfl | with_reducible assumption | (symm; with_reducible assumption) | rfl | assumption | (symm; assumption) | (subst_vars; rfl)), trivial⟩ (by decide +kernel)
            have hP := wr_Pi e9 hP
            have hD := wr_Di e9 hD
            clear e9
            have e9 : fT (fT (fT (fT (fT (fT (fT (fT (fT (fT (fT (fT (fT vF 29 (upd (vF 29) (nI nd).toNatClampNeg 3)) 30 (upd (vF 30) (nI nd).toNatClampNeg (nI oA))) 31 (upd (vF 31) (nI nd).toNatClampNeg (-1))) 32 (upd (vF 32) (nI nd).toNatClampNeg (-1))) 33 (upd (vF 33) (nI nd).toNatClampNeg (nI fn))) 34 (upd (vF 34) (nI nd).toNatClampNeg 0)) 35 (upd (vF 35) (nI nd).toNatClampNeg 0)) 41 (upd (vF 41) ((nI dN)).toNatClampNeg (nI nd))) 40 (vF 40)) 39 (vF 39)) 42 (vF 42)) 47 (vF 47)) 48 (vF 48) = fT (fT (fT (fT (fT (fT (fT (fT vF 29 (upd (vF 29) (nI nd).toNatClampNeg 3)) 30 (upd (vF 30) (nI nd).toNatClampNeg (nI oA))) 31 (upd (vF 31) (nI nd).toNatClampNeg (-1))) 32 (upd (vF 32) (nI nd).toNatClampNeg (-1))) 33 (upd (vF 33) (nI nd).toNatClampNeg (nI fn))) 34 (upd (vF 34) (nI nd).toNatClampNeg 0)) 35 (upd (vF 35) (nI nd).toNatClampNeg 0)) 41 (upd (vF 41) ((nI dN)).toNatClampNeg (nI nd)) := ch_E vF [upd (vF 29) (nI nd).toNatClampNeg 3, upd (vF 30) (nI nd).toNatClampNeg (nI oA), upd (vF 31) (nI nd).toNatClampNeg (-1), upd (vF 32) (nI nd).toNatClampNeg (-1), upd (vF 33) (nI nd).toNatClampNeg (nI fn), upd (vF 34) (nI nd).toNatClampNeg 0, upd (vF 35) (nI nd).toNatClampNeg 0, upd (vF 41) ((nI dN)).toNatClampNeg (nI nd)] [(48, 0), (47, 0), (42, 0), (39, 0), (40, 0), (41, 8), (35, 7), (34, 6), (33, 5), (32, 4), (31, 3), (30, 2), (29, 1)] [(41, 8), (35, 7), (34, 6), (33, 5), (32, 4), (31, 3), (30, 2), (29, 1)] [] trivial (by decide +kernel)
            have hP := wr_PF e9 hP
            have hD := wr_DF e9 hD
            clear e9
            exact W.vret hx hb hr (fun t9_ ht hW => ⟨⟨(a2102, f2102, sg102, wd102, s2102, p2102, (upd (vF 29) (nI nd).toNatClampNeg 3), (upd (vF 30) (nI nd).toNatClampNeg (nI oA)), (upd (vF 31) (nI nd).toNatClampNeg (-1)), (upd (vF 32) (nI nd).toNatClampNeg (-1)), (upd (vF 33) (nI nd).toNatClampNeg (nI fn)), (upd (vF 34) (nI nd).toNatClampNeg 0), (upd (vF 35) (nI nd).toNatClampNeg 0), (vF 39), (vF 40), (upd (vF 41) ((nI dN)).toNatClampNeg (nI nd)), (vF 42), (vF 47), (vF 48), (dN + 1), wi, (nd + 1), (vi 76), (vi 77), gG), rfl, by (try dsimp only); exact ⟨f102_1, by omega, by omega, Or.inl f102_0, by omega⟩, by rw [ht]; exact hP, hD⟩, hS.F ht⟩) hS.2.2 dX12_beginName_108
        · have t_81 : ((pl : Nat) : Int) = 0 := toI_nne c_81 (nI_toInt (by omega)) (by decide)
          have hKM := hK0.mkName (p := 51 - 2 * (cw + xe)) (kv := 3) (av := nI oA) (bv := -1) (cv := -1) (by omega) (k := 3) (by decide) (by decide) ⟨rfl, hoA⟩ hSm (by omega) (by omega) rfl rfl
          refine lv_aload_n hx hb dX12_beginName_84 rfl (lv_at hl 3 rfl) ?_
          refine lv_iload hx hb dX12_beginName_85 (lv_at hl 0 rfl) ?_
          have hFc := allFree hD hS hA
          refine va_callv (va_runV (As := [.int (nI nd)]) (rest := []) ⟨hx, hb, hml, hown, hts⟩ (r_X12_end1w l dC dI a k h0 (fT (fT (fT (fT (fT vi 52 (nI (nd + 1))) 17 (nI a272)) 19 (nI f272)) 20 sg72) 18 wd72) vj (fT (fT (fT (fT (fT (fT (fT vF 29 (upd (vF 29) (nI nd).toNatClampNeg 3)) 30 (upd (vF 30) (nI nd).toNatClampNeg (nI oA))) 31 (upd (vF 31) (nI nd).toNatClampNeg (-1))) 32 (upd (vF 32) (nI nd).toNatClampNeg (-1))) 33 (upd (vF 33) (nI nd).toNatClampNeg (nI fn))) 34 (upd (vF 34) (nI nd).toNatClampNeg 0)) 35 (upd (vF 35) (nI nd).toNatClampNeg 0)) vG (nI nd) dN wi xe (hdp) (by first | with_reducible assumption | decide | omega | rfl | assumption) hwi (by first | with_reducible assumption | decide | omega | rfl | assumption) (h48) (by first | with_reducible assumption | decide | omega | rfl | assumption) H.size) (cwV 1 hts gwsRX12_beginName_7 rfl rfl rfl hd_yX12_end1_RX12 (by decide +kernel)) (fz_pre (va_recv hK hP (ci := 12) (q0 := 0) rfl rfl) hP hK hD) rfl rfl hl.1 rfl (lv_room (Nat.le_of_ble_eq_true rfl)) dX12_beginName_87 (by decide +kernel)) hS (fun q _ h => hFc q h) hFc (fun u t9_ H locs ht hvm hw9 hB9 hz1 hk1 hS => ?_)
          have hP : va_P (dC, dI) vwCl (WR a k h0 (fT (fT (fT (fT (fT (fT (fT (fT (fT vi 52 (nI (nd + 1))) 17 (nI a272)) 19 (nI f272)) 20 sg72) 18 wd72) 74 (nI dN)) 75 (nI (wi - xe))) 76 (nI nd)) 77 ((vF 47) dN)) vj (fT (fT (fT (fT (fT (fT (fT vF 29 (upd (vF 29) (nI nd).toNatClampNeg 3)) 30 (upd (vF 30) (nI nd).toNatClampNeg (nI oA))) 31 (upd (vF 31) (nI nd).toNatClampNeg (-1))) 32 (upd (vF 32) (nI nd).toNatClampNeg (-1))) 33 (upd (vF 33) (nI nd).toNatClampNeg (nI fn))) 34 (upd (vF 34) (nI nd).toNatClampNeg 0)) 35 (upd (vF 35) (nI nd).toNatClampNeg 0)) vG) H := fz_P ht hB9.1
          have hD := fz_sd hP (hB9.2.weaken (fun _ q _ h => hFc q.1 h)) rfl
          refine W.widen (k := 0) (n := 0) (by decide +kernel) (by decide +kernel) ?_
          have e9 : fT (fT (fT (fT (fT (fT (fT (fT (fT (fT (fT vi 52 (nI (nd + 1))) 17 (nI a272)) 19 (nI f272)) 20 sg72) 18 wd72) 21 (vi 21)) 22 (vi 22)) 75 (nI (wi - xe))) 74 (nI dN)) 76 (nI nd)) 77 ((vF 47) dN) = fT (fT (fT (fT (fT (fT (fT (fT (fT vi 52 (nI (nd + 1))) 17 (nI a272)) 19 (nI f272)) 20 sg72) 18 wd72) 74 (nI dN)) 75 (nI (wi - xe))) 76 (nI nd)) 77 ((vF 47) dN) := ch_E vi [nI (nd + 1), nI a272, nI f272, sg72, wd72, nI (wi - xe), nI dN, nI nd, (vF 47) dN] [(77, 9), (76, 8), (74, 7), (75, 6), (22, 0), (21, 0), (18, 5), (20, 4), (19, 3), (17, 2), (52, 1)] [(77, 9), (76, 8), (75, 6), (74, 7), (18, 5), (20, 4), (19, 3), (17, 2), (52, 1)] [] trivial (by decide +kernel)
          have hP := wr_Pi e9 hP
          have hD := wr_Di e9 hD
          clear e9
          have e9 : fT (fT (fT (fT (fT (fT (fT (fT (fT (fT (fT (fT (fT vF 29 (upd (vF 29) (nI nd).toNatClampNeg 3)) 30 (upd (vF 30) (nI nd).toNatClampNeg (nI oA))) 31 (upd (vF 31) (nI nd).toNatClampNeg (-1))) 32 (upd (vF 32) (nI nd).toNatClampNeg (-1))) 33 (upd (vF 33) (nI nd).toNatClampNeg (nI fn))) 34 (upd (vF 34) (nI nd).toNatClampNeg 0)) 35 (upd (vF 35) (nI nd).toNatClampNeg 0)) 41 (vF 41)) 40 (vF 40)) 39 (vF 39)) 42 (vF 42)) 47 (vF 47)) 48 (vF 48) = fT (fT (fT (fT (fT (fT (fT vF 29 (upd (vF 29) (nI nd).toNatClampNeg 3)) 30 (upd (vF 30) (nI nd).toNatClampNeg (nI oA))) 31 (upd (vF 31) (nI nd).toNatClampNeg (-1))) 32 (upd (vF 32) (nI nd).toNatClampNeg (-1))) 33 (upd (vF 33) (nI nd).toNatClampNeg (nI fn))) 34 (upd (vF 34) (nI nd).toNatClampNeg 0)) 35 (upd (vF 35) (nI nd).toNatClampNeg 0) := ch_E vF [upd (vF 29) (nI nd).toNatClampNeg 3, upd (vF 30) (nI nd).toNatClampNeg (nI oA), upd (vF 31) (nI nd).toNatClampNeg (-1), upd (vF 32) (nI nd).toNatClampNeg (-1), upd (vF 33) (nI nd).toNatClampNeg (nI fn), upd (vF 34) (nI nd).toNatClampNeg 0, upd (vF 35) (nI nd).toNatClampNeg 0] [(48, 0), (47, 0), (42, 0), (39, 0), (40, 0), (41, 0), (35, 7), (34, 6), (33, 5), (32, 4), (31, 3), (30, 2), (29, 1)] [(35, 7), (34, 6), (33, 5), (32, 4), (31, 3), (30, 2), (29, 1)] [] trivial (by decide +kernel)
          have hP := wr_PF e9 hP
          have hD := wr_DF e9 hD
          clear e9
          exact W.vret hx hb hr (fun t9_ ht hW => ⟨⟨(a272, f272, sg72, wd72, (vi 21), (vi 22), (upd (vF 29) (nI nd).toNatClampNeg 3), (upd (vF 30) (nI nd).toNatClampNeg (nI oA)), (upd (vF 31) (nI nd).toNatClampNeg (-1)), (upd (vF 32) (nI nd).toNatClampNeg (-1)), (upd (vF 33) (nI nd).toNatClampNeg (nI fn)), (upd (vF 34) (nI nd).toNatClampNeg 0), (upd (vF 35) (nI nd).toNatClampNeg 0), (vF 39), (vF 40), (vF 41), (vF 42), (vF 47), (vF 48), dN, (wi - xe), (nd + 1), (nI nd), ((vF 47) dN), (gG.add nd 0 (51 - 2 * (cw + xe)) 0)), rfl, by (try dsimp only); exact ⟨f72_0, by omega, hst0, Or.inr ⟨by (have e9 : wi - xe = cw := by omega); rw [e9]; exact RdS.pop (ex := xe) hKM.1.1 hBel hKM.1.2.1 (Nat.le_refl _) (fun q hq => ⟨rfl, rfl, rfl, rfl, rfl⟩) (by omega) (fun h8 => by omega) (by decide) (Or.inl ⟨by decide, hKM.2⟩) (by omega) (by show gG.vN + 1 + un ≤ nd + 1; omega) (by omega) (by omega) hKM.1.2.2.2 (by omega), hKM.1.2.1.less (Nat.zero_le _)⟩, by omega⟩, by rw [ht]; exact hP, hD⟩, hS.F ht⟩) hS.2.2 dX12_beginName_90
      · have t_46 : (((vF 10) kx34)).toInt = 2 := toI_nne c_46 rfl (by decide)
        refine lv_iconst (v := 2) hx hb dX12_beginName_49 (by decide) ?_
        refine lv_goto (tgt := 54) hx hb dX12_beginName_50 (by decide) ?_
        obtain ⟨pl, o1, o2, aT, hSm⟩ := hDc.1 oA (hoP c_46)
        have hpl2 := hSm.2.2.2.1.1
        have hKN := hK0.node (kv := 2) (av := nI oA) (bv := -1) (cv := -1) (by omega)
        refine lv_aload_n hx hb dX12_beginName_54 rfl (lv_at hl 2 rfl) ?_
        refine va_get (D := (dC, dI)) (ci := 12) (v := .ref (a 13)) (C := RX12) (T := TX12) (N := 163) (fs := fM (vS a vi vj)) hx hb hts iwsRX12_beginName_in12 hown hK hP 0 rfl rfl 29 (by decide) (hts _ hm_r_X12_beginName_0) (fun _ h9 => h9) rfl dX12_beginName_55 ?_
        refine lv_iload_n hx hb dX12_beginName_58 rfl (lv_at hl 0 rfl) ?_
        refine va_iald (cA := k 13) (n := 44) (f := (vF 13)) hx hb hK hP 14 13 (WR_get 13 (by decide)) (TR_get 13 (by decide)) (vp_in_nI (show kx34 < 44 by omega) (by omega)) dX12_beginName_59 ?_
        refine lv_topi (fun y5 hy5 => ?_)
        obtain rfl : ((vF 13) kx34) = y5 := (hy5.trans (by rw [nI_clamp (by omega)])).symm
        refine lv_topi (fun y6 hy6 => ?_)
        obtain rfl : (nI oA) = y6 := (hy6.trans (eoA)).symm
        refine lv_iconst (v := (-1)) hx hb dX12_beginName_60 (by decide) ?_
        refine lv_iconst (v := (-1)) hx hb dX12_beginName_61 (by decide) ?_
        refine lv_aload_n hx hb dX12_beginName_62 rfl (lv_at hl 2 rfl) ?_
        refine va_get (D := (dC, dI)) (ci := 12) (v := .int (vi 19)) (C := RX12) (T := TX12) (N := 163) (fs := fM (vS a vi vj)) hx hb hts iwsRX12_beginName_in12 hown hK hP 0 rfl rfl 19 (by decide) (hts _ hm_r_X12_beginName_1) (fun _ h9 => h9) rfl dX12_beginName_63 ?_
        refine lv_topi (fun y7 hy7 => ?_)
        obtain rfl : (nI fn) = y7 := (hy7.trans (hfr)).symm
        have hFc := allFree hD hS hA
        refine va_calli (va_runV (As := [.int 2, .int (nI oA), .int (-1), .int (-1), .int (nI fn)]) (rest := []) ⟨hx, hb, hml, hown, hts⟩ (r_X12_node l dC dI a k h0 vi vj vF vG nd 2 (nI oA) (-1) (-1) (nI fn) hnd (by first | with_reducible assumption | decide | omega | rfl | assumption) H.size) (cwV 5 hts gwsRX12_beginName_2 rfl rfl rfl hd_yX12_node_RX12 (by decide +kernel)) (fz_pre (va_recv hK hP (ci := 12) (q0 := 0) rfl rfl) hP hK hD) rfl rfl hl.1 rfl (lv_room (Nat.le_of_ble_eq_true rfl)) dX12_beginName_66 (by decide +kernel)) hS (fun q _ h => hFc q h) hFc (fun r66_1 u t9_ H locs ht hvm hw9 hB9 hz1 hk1 hS => ?_)
        have hP : va_P (dC, dI) vwCl (WR a k h0 (fT vi 52 (nI (nd + 1))) vj (fT (fT (fT (fT (fT (fT (fT vF 29 (upd (vF 29) (nI nd).toNatClampNeg 2)) 30 (upd (vF 30) (nI nd).toNatClampNeg (nI oA))) 31 (upd (vF 31) (nI nd).toNatClampNeg (-1))) 32 (upd (vF 32) (nI nd).toNatClampNeg (-1))) 33 (upd (vF 33) (nI nd).toNatClampNeg (nI fn))) 34 (upd (vF 34) (nI nd).toNatClampNeg 0)) 35 (upd (vF 35) (nI nd).toNatClampNeg 0)) vG) H := fz_P ht hB9.1
        have hD := fz_sd hP (hB9.2.weaken (fun _ q _ h => hFc q.1 h)) rfl
        obtain rfl := hw9
        refine lv_istore hx hb dX12_beginName_69 hl (by decide) rfl (fun ls (hl : lv_has ls _ ([(4, .int (nI nd)), (3, .int (nI kx34)), (2, .int (-1)), (0, .ref h0), (1, .int (nI dN))])) => ?_)
        refine lv_aload_n hx hb dX12_beginName_71 rfl (lv_at hl 3 rfl) ?_
        have hFc := allFree hD hS hA
        refine va_callv (va_runV (As := []) (rest := []) ⟨hx, hb, hml, hown, hts⟩ (r_X12_next l dC dI a k h0 (fT vi 52 (nI (nd + 1))) vj (fT (fT (fT (fT (fT (fT (fT vF 29 (upd (vF 29) (nI nd).toNatClampNeg 2)) 30 (upd (vF 30) (nI nd).toNatClampNeg (nI oA))) 31 (upd (vF 31) (nI nd).toNatClampNeg (-1))) 32 (upd (vF 32) (nI nd).toNatClampNeg (-1))) 33 (upd (vF 33) (nI nd).toNatClampNeg (nI fn))) 34 (upd (vF 34) (nI nd).toNatClampNeg 0)) 35 (upd (vF 35) (nI nd).toNatClampNeg 0)) vG tp an hTp (by first | with_reducible assumption | decide | omega | rfl | assumption) ha0 (by first | with_reducible assumption | decide | omega | rfl | assumption) H.size) (cwV 0 hts gwsRX12_beginName_3 rfl rfl rfl hd_yX12_next_RX12 (by decide +kernel)) (fz_preE (va_recv hK hP (ci := 12) (q0 := 0) rfl rfl) hP hK hD (fun a U g mk qE => qE.same rfl) (fun U hU9 hW => by rw [hU9]; exact (((hE : StrA A s s.heap).kept hS.2.1).narrow (fun q h => hFc q h)).warm hW)) rfl rfl hl.1 rfl (lv_room (Nat.le_of_ble_eq_true rfl)) dX12_beginName_72 (by decide +kernel)) hS (fun q _ h => hFc q h) hFc (fun u t9_ H locs ht hvm hw9 hB9 hz1 hk1 hS => ?_)
        revert u hw9 hB9
        refine fz_p4 ?_
        intro a272_1 f272_1 sg72_1 wd72_1 hw9 hB9
        try dsimp only at hw9 hB9
        have hP : va_P (dC, dI) vwCl (WR a k h0 (fT (fT (fT (fT (fT vi 52 (nI (nd + 1))) 17 (nI a272_1)) 19 (nI f272_1)) 20 sg72_1) 18 wd72_1) vj (fT (fT (fT (fT (fT (fT (fT vF 29 (upd (vF 29) (nI nd).toNatClampNeg 2)) 30 (upd (vF 30) (nI nd).toNatClampNeg (nI oA))) 31 (upd (vF 31) (nI nd).toNatClampNeg (-1))) 32 (upd (vF 32) (nI nd).toNatClampNeg (-1))) 33 (upd (vF 33) (nI nd).toNatClampNeg (nI fn))) 34 (upd (vF 34) (nI nd).toNatClampNeg 0)) 35 (upd (vF 35) (nI nd).toNatClampNeg 0)) vG) H := fz_P ht hB9.1
        have hD := fz_sd hP (hB9.2.weaken (fun _ q _ h => hFc q.1 h)) rfl
        revert hw9
        refine fz_a2 ?_
        intro f72_1_0 f72_1_1
        have hl1 := f72_1_0.1
        have hl2 := f72_1_0.2.1
        refine lv_aload_n hx hb dX12_beginName_75 rfl (lv_at hl 3 rfl) ?_
        refine lv_iload hx hb dX12_beginName_76 (lv_at hl 0 rfl) ?_
        have hFc := allFree hD hS hA
        refine va_calli (va_runV (As := [.int (nI nd)]) (rest := []) ⟨hx, hb, hml, hown, hts⟩ (r_X12_placesOf l dC dI a k h0 (fT (fT (fT (fT (fT vi 52 (nI (nd + 1))) 17 (nI a272_1)) 19 (nI f272_1)) 20 sg72_1) 18 wd72_1) vj (fT (fT (fT (fT (fT (fT (fT vF 29 (upd (vF 29) (nI nd).toNatClampNeg 2)) 30 (upd (vF 30) (nI nd).toNatClampNeg (nI oA))) 31 (upd (vF 31) (nI nd).toNatClampNeg (-1))) 32 (upd (vF 32) (nI nd).toNatClampNeg (-1))) 33 (upd (vF 33) (nI nd).toNatClampNeg (nI fn))) 34 (upd (vF 34) (nI nd).toNatClampNeg 0)) 35 (upd (vF 35) (nI nd).toNatClampNeg 0)) vG nd 2 oA pl ((by omega)) (u_at (by omega) (by decide)) (u_at (by omega) rfl) (by first | with_reducible assumption | decide | omega | rfl | assumption) ((show Kd23 2 from by unfold Kd23; decide)) ((by decide)) ((fun h9 => (congrFun ht18 oA).trans (hSm.1.1 h9))) ((fun h9 => (congrFun ht24 oA).trans (hSm.1.2 h9))) H.size) (cwV 1 hts gwsRX12_beginName_4 rfl rfl rfl hd_yX12_placesOf_RX12 (by decide +kernel)) (fz_pre (va_recv hK hP (ci := 12) (q0 := 0) rfl rfl) hP hK hD) rfl rfl hl.1 rfl (lv_room (Nat.le_of_ble_eq_true rfl)) dX12_beginName_78 (by decide +kernel)) hS (fun q _ h => hFc q h) hFc (fun r78_1 u t9_ H locs ht hvm hw9 hB9 hz1 hk1 hS => ?_)
        have hP : va_P (dC, dI) vwCl (WR a k h0 (fT (fT (fT (fT (fT vi 52 (nI (nd + 1))) 17 (nI a272_1)) 19 (nI f272_1)) 20 sg72_1) 18 wd72_1) vj (fT (fT (fT (fT (fT (fT (fT vF 29 (upd (vF 29) (nI nd).toNatClampNeg 2)) 30 (upd (vF 30) (nI nd).toNatClampNeg (nI oA))) 31 (upd (vF 31) (nI nd).toNatClampNeg (-1))) 32 (upd (vF 32) (nI nd).toNatClampNeg (-1))) 33 (upd (vF 33) (nI nd).toNatClampNeg (nI fn))) 34 (upd (vF 34) (nI nd).toNatClampNeg 0)) 35 (upd (vF 35) (nI nd).toNatClampNeg 0)) vG) H := fz_P ht hB9.1
        have hD := fz_sd hP (hB9.2.weaken (fun _ q _ h => hFc q.1 h)) rfl
        obtain rfl := hw9
        refine lv_if_ne (tgt := 91) hx hb dX12_beginName_81 (by decide) (fun c_81 => ?_) (fun c_81 => ?_)
        · have t_81 : ((pl : Nat) : Int) ≠ 0 := toI_ne c_81 (nI_toInt (by omega)) (by decide)
          refine lv_aload_n hx hb dX12_beginName_91 rfl (lv_at hl 3 rfl) ?_
          refine va_get (D := (dC, dI)) (ci := 12) (v := .ref (a 41)) (C := RX12) (T := TX12) (N := 163) (fs := fM (vS a (fT (fT (fT (fT (fT vi 52 (nI (nd + 1))) 17 (nI a272_1)) 19 (nI f272_1)) 20 sg72_1) 18 wd72_1) vj)) hx hb hts iwsRX12_beginName_in12 hown hK hP 0 rfl rfl 66 (by decide) (hts _ hm_r_X12_beginName_2) (fun _ h9 => h9) rfl dX12_beginName_92 ?_
          refine lv_iload_n hx hb dX12_beginName_95 rfl (lv_at hl 4 rfl) ?_
          refine lv_iload hx hb dX12_beginName_96 (lv_at hl 0 rfl) ?_
          refine va_iast (cA := k 41) (n := 120) (f := (vF 41)) hx hb hK hP hD hS 42 41 (WR_get 41 (by decide)) (TR_get 41 (by decide)) (vp_in_nI (show dN < 120 by omega) (by omega)) dX12_beginName_98 (fun H locs hP hD hS => ?_)
          have hP : va_P (dC, dI) vwCl (WR a k h0 (fT (fT (fT (fT (fT vi 52 (nI (nd + 1))) 17 (nI a272_1)) 19 (nI f272_1)) 20 sg72_1) 18 wd72_1) vj (fT (fT (fT (fT (fT (fT (fT (fT vF 29 (upd (vF 29) (nI nd).toNatClampNeg 2)) 30 (upd (vF 30) (nI nd).toNatClampNeg (nI oA))) 31 (upd (vF 31) (nI nd).toNatClampNeg (-1))) 32 (upd (vF 32) (nI nd).toNatClampNeg (-1))) 33 (upd (vF 33) (nI nd).toNatClampNeg (nI fn))) 34 (upd (vF 34) (nI nd).toNatClampNeg 0)) 35 (upd (vF 35) (nI nd).toNatClampNeg 0)) 41 (upd (vF 41) ((nI dN)).toNatClampNeg (nI nd))) vG) H := fz_w (WR_F 41 (by decide) _ rfl) hP
          have hD : va_D A (WR a k h0 (fT (fT (fT (fT (fT vi 52 (nI (nd + 1))) 17 (nI a272_1)) 19 (nI f272_1)) 20 sg72_1) 18 wd72_1) vj (fT (fT (fT (fT (fT (fT (fT (fT vF 29 (upd (vF 29) (nI nd).toNatClampNeg 2)) 30 (upd (vF 30) (nI nd).toNatClampNeg (nI oA))) 31 (upd (vF 31) (nI nd).toNatClampNeg (-1))) 32 (upd (vF 32) (nI nd).toNatClampNeg (-1))) 33 (upd (vF 33) (nI nd).toNatClampNeg (nI fn))) 34 (upd (vF 34) (nI nd).toNatClampNeg 0)) 35 (upd (vF 35) (nI nd).toNatClampNeg 0)) 41 (upd (vF 41) ((nI dN)).toNatClampNeg (nI nd))) vG) := fz_wD (WR_F 41 (by decide) _ rfl) hD
          refine lv_aload_n hx hb dX12_beginName_99 rfl (lv_at hl 3 rfl) ?_
          refine lv_bipush (v := 91) hx hb dX12_beginName_100 (by decide) ?_
          have hFc := allFree hD hS hA
          refine va_calli (va_runV (As := [.int 91]) (rest := []) ⟨hx, hb, hml, hown, hts⟩ (r_X12_needSign l dC dI a k h0 (fT (fT (fT (fT (fT vi 52 (nI (nd + 1))) 17 (nI a272_1)) 19 (nI f272_1)) 20 sg72_1) 18 wd72_1) vj (fT (fT (fT (fT (fT (fT (fT (fT vF 29 (upd (vF 29) (nI nd).toNatClampNeg 2)) 30 (upd (vF 30) (nI nd).toNatClampNeg (nI oA))) 31 (upd (vF 31) (nI nd).toNatClampNeg (-1))) 32 (upd (vF 32) (nI nd).toNatClampNeg (-1))) 33 (upd (vF 33) (nI nd).toNatClampNeg (nI fn))) 34 (upd (vF 34) (nI nd).toNatClampNeg 0)) 35 (upd (vF 35) (nI nd).toNatClampNeg 0)) 41 (upd (vF 41) ((nI dN)).toNatClampNeg (nI nd))) vG 91 tp a272_1 f272_1 hTp (by first | with_reducible assumption | decide | omega | rfl | assumption) rfl rfl (f72_1_0) (by first | with_reducible assumption | decide | omega | rfl | assumption) H.size) (cwV 1 hts gwsRX12_beginName_5 rfl rfl rfl hd_yX12_needSign_RX12 (by decide +kernel)) (fz_preE (va_recv hK hP (ci := 12) (q0 := 0) rfl rfl) hP hK hD (fun a U g mk qE => qE.same rfl) (fun U hU9 hW => by rw [hU9]; exact (((hE : StrA A s s.heap).kept hS.2.1).narrow (fun q h => hFc q h)).warm hW)) rfl rfl hl.1 rfl (lv_room (Nat.le_of_ble_eq_true rfl)) dX12_beginName_102 (by decide +kernel)) hS (fun q _ h => hFc q h) hFc (fun r102_1 u t9_ H locs ht hvm hw9 hB9 hz1 hk1 hS => ?_)
          revert u hw9 hB9
          refine fz_p6 ?_
          intro a2102_1 f2102_1 sg102_1 wd102_1 s2102_1 p2102_1 hw9 hB9
          try dsimp only at hw9 hB9
          have e9i : fT (fT (fT (fT (fT (fT (fT vi 52 (nI (nd + 1))) 17 (nI a2102_1)) 19 (nI f2102_1)) 20 sg102_1) 18 wd102_1) 21 s2102_1) 22 p2102_1 = fT (fT (fT (fT (fT (fT (fT (fT (fT (fT (fT vi 52 (nI (nd + 1))) 17 (nI a272_1)) 19 (nI f272_1)) 20 sg72_1) 18 wd72_1) 17 (nI a2102_1)) 19 (nI f2102_1)) 20 sg102_1) 18 wd102_1) 21 s2102_1) 22 p2102_1 := ch_E vi [nI (nd + 1), nI a2102_1, nI f2102_1, sg102_1, wd102_1, s2102_1, p2102_1, nI a272_1, nI f272_1, sg72_1, wd72_1] [(22, 7), (21, 6), (18, 5), (20, 4), (19, 3), (17, 2), (52, 1)] [(22, 7), (21, 6), (18, 5), (20, 4), (19, 3), (17, 2), (18, 11), (20, 10), (19, 9), (17, 8), (52, 1)] [] trivial (by decide +kernel)
          have hP := wr_Pi e9i (fz_P ht hB9.1)
          have hD := wr_Di e9i (hB9.2.weaken (fun _ q _ h => hFc q.1 h))
          clear e9i
          rcases hw9 with ⟨rfl, f102_1_0, f102_1_1, f102_1_2, f102_1_3⟩ | ⟨rfl, f102_1_0, f102_1_1, f102_1_2⟩
          · have f102_1_3 : (vi 21) = 0 := f102_1_3
            refine lv_if_ne (tgt := 109) hx hb dX12_beginName_105 (by decide) (fun _ => ?_) (fun c9 => absurd c9 (by decide))
            refine lv_aload_n hx hb dX12_beginName_109 rfl (lv_at hl 3 rfl) ?_
            refine va_get (D := (dC, dI)) (ci := 12) (v := .ref (a 40)) (C := RX12) (T := TX12) (N := 163) (fs := fM (vS a (fT (fT (fT (fT (fT (fT (fT vi 52 (nI (nd + 1))) 17 (nI a2102_1)) 19 (nI f2102_1)) 20 sg102_1) 18 wd102_1) 21 s2102_1) 22 p2102_1) vj)) hx hb hts iwsRX12_beginName_in12 hown hK hP 0 rfl rfl 65 (by decide) (hts _ hm_r_X12_beginName_3) (fun _ h9 => h9) rfl dX12_beginName_110 ?_
            refine lv_iload_n hx hb dX12_beginName_113 rfl (lv_at hl 4 rfl) ?_
            refine lv_iconst (v := 3) hx hb dX12_beginName_114 (by decide) ?_
            refine va_iast (cA := k 40) (n := 120) (f := (vF 40)) hx hb hK hP hD hS 41 40 (WR_get 40 (by decide)) (TR_get 40 (by decide)) (vp_in_nI (show dN < 120 by omega) (by omega)) dX12_beginName_115 (fun H locs hP hD hS => ?_)
            have hP : va_P (dC, dI) vwCl (WR a k h0 (fT (fT (fT (fT (fT (fT (fT vi 52 (nI (nd + 1))) 17 (nI a2102_1)) 19 (nI f2102_1)) 20 sg102_1) 18 wd102_1) 21 s2102_1) 22 p2102_1) vj (fT (fT (fT (fT (fT (fT (fT (fT (fT vF 29 (upd (vF 29) (nI nd).toNatClampNeg 2)) 30 (upd (vF 30) (nI nd).toNatClampNeg (nI oA))) 31 (upd (vF 31) (nI nd).toNatClampNeg (-1))) 32 (upd (vF 32) (nI nd).toNatClampNeg (-1))) 33 (upd (vF 33) (nI nd).toNatClampNeg (nI fn))) 34 (upd (vF 34) (nI nd).toNatClampNeg 0)) 35 (upd (vF 35) (nI nd).toNatClampNeg 0)) 41 (upd (vF 41) ((nI dN)).toNatClampNeg (nI nd))) 40 (upd (vF 40) ((nI dN)).toNatClampNeg 3)) vG) H := fz_w (WR_F 40 (by decide) _ rfl) hP
            have hD : va_D A (WR a k h0 (fT (fT (fT (fT (fT (fT (fT vi 52 (nI (nd + 1))) 17 (nI a2102_1)) 19 (nI f2102_1)) 20 sg102_1) 18 wd102_1) 21 s2102_1) 22 p2102_1) vj (fT (fT (fT (fT (fT (fT (fT (fT (fT vF 29 (upd (vF 29) (nI nd).toNatClampNeg 2)) 30 (upd (vF 30) (nI nd).toNatClampNeg (nI oA))) 31 (upd (vF 31) (nI nd).toNatClampNeg (-1))) 32 (upd (vF 32) (nI nd).toNatClampNeg (-1))) 33 (upd (vF 33) (nI nd).toNatClampNeg (nI fn))) 34 (upd (vF 34) (nI nd).toNatClampNeg 0)) 35 (upd (vF 35) (nI nd).toNatClampNeg 0)) 41 (upd (vF 41) ((nI dN)).toNatClampNeg (nI nd))) 40 (upd (vF 40) ((nI dN)).toNatClampNeg 3)) vG) := fz_wD (WR_F 40 (by decide) _ rfl) hD
            refine lv_aload_n hx hb dX12_beginName_116 rfl (lv_at hl 3 rfl) ?_
            refine lv_iconst (v := 0) hx hb dX12_beginName_117 (by decide) ?_
            have hFc := allFree hD hS hA
            refine va_callv (va_runV (As := [.int 0]) (rest := []) ⟨hx, hb, hml, hown, hts⟩ (r_X12_begin1 l dC dI a k h0 (fT (fT (fT (fT (fT (fT (fT vi 52 (nI (nd + 1))) 17 (nI a2102_1)) 19 (nI f2102_1)) 20 sg102_1) 18 wd102_1) 21 s2102_1) 22 p2102_1) vj (fT (fT (fT (fT (fT (fT (fT (fT (fT vF 29 (upd (vF 29) (nI nd).toNatClampNeg 2)) 30 (upd (vF 30) (nI nd).toNatClampNeg (nI oA))) 31 (upd (vF 31) (nI nd).toNatClampNeg (-1))) 32 (upd (vF 32) (nI nd).toNatClampNeg (-1))) 33 (upd (vF 33) (nI nd).toNatClampNeg (nI fn))) 34 (upd (vF 34) (nI nd).toNatClampNeg 0)) 35 (upd (vF 35) (nI nd).toNatClampNeg 0)) 41 (upd (vF 41) ((nI dN)).toNatClampNeg (nI nd))) 40 (upd (vF 40) ((nI dN)).toNatClampNeg 3)) vG 0 tp a2102_1 f2102_1 nm se pa va bd (dN + 1) wi hTp (by first | with_reducible assumption | decide | omega | rfl | assumption) rfl rfl (f102_1_1) ((show 0 ≤ (s2102_1).toInt by rw [f102_1_0]; decide)) hnm (by first | with_reducible assumption | decide | omega | rfl | assumption) (by first | with_reducible assumption | decide | omega | rfl | assumption) (by first | with_reducible assumption | decide | omega | rfl | assumption) hbd (by first | with_reducible assumption | decide | omega | rfl | assumption) (by first | with_reducible assumption | decide | omega | rfl | assumption) (hdp) (by first | with_reducible assumption | decide | omega | rfl | assumption) hwi (by first | with_reducible assumption | decide | omega | rfl | assumption) H.size) (cwV 1 hts gwsRX12_beginName_6 rfl rfl rfl hd_yX12_begin1_RX12 (by decide +kernel)) (fz_pre (va_recv hK hP (ci := 12) (q0 := 0) rfl rfl) hP hK hD) rfl rfl hl.1 rfl (lv_room (Nat.le_of_ble_eq_true rfl)) dX12_beginName_118 (by decide +kernel)) hS (fun q _ h => hFc q h) hFc (fun u t9_ H locs ht hvm hw9 hB9 hz1 hk1 hS => ?_)
            revert u hw9 hB9
            refine fz_p10 ?_
            intro s2118_1 p2118_1 g39118_1 g40118_1 g41118_1 g42118_1 g47118_1 g48118_1 d2118_1 w2118_1 hw9 hB9
            try dsimp only at hw9 hB9
            have e9i : fT (fT (fT (fT (fT (fT (fT (fT (fT vi 52 (nI (nd + 1))) 17 (nI a2102_1)) 19 (nI f2102_1)) 20 sg102_1) 18 wd102_1) 21 s2118_1) 22 p2118_1) 75 (nI w2118_1)) 74 (nI d2118_1) = fT (fT (fT (fT (fT (fT (fT (fT (fT (fT (fT vi 52 (nI (nd + 1))) 17 (nI a2102_1)) 19 (nI f2102_1)) 20 sg102_1) 18 wd102_1) 21 s2102_1) 22 p2102_1) 75 (nI w2118_1)) 74 (nI d2118_1)) 21 s2118_1) 22 p2118_1 := ch_E vi [nI (nd + 1), nI a2102_1, nI f2102_1, sg102_1, wd102_1, s2118_1, p2118_1, nI w2118_1, nI d2118_1, s2102_1, p2102_1] [(74, 9), (75, 8), (22, 7), (21, 6), (18, 5), (20, 4), (19, 3), (17, 2), (52, 1)] [(22, 7), (21, 6), (74, 9), (75, 8), (22, 11), (21, 10), (18, 5), (20, 4), (19, 3), (17, 2), (52, 1)] [] trivial (by decide +kernel)
            have e9F : fT (fT (fT (fT (fT (fT (fT (fT (fT (fT (fT (fT (fT vF 29 (upd (vF 29) (nI nd).toNatClampNeg 2)) 30 (upd (vF 30) (nI nd).toNatClampNeg (nI oA))) 31 (upd (vF 31) (nI nd).toNatClampNeg (-1))) 32 (upd (vF 32) (nI nd).toNatClampNeg (-1))) 33 (upd (vF 33) (nI nd).toNatClampNeg (nI fn))) 34 (upd (vF 34) (nI nd).toNatClampNeg 0)) 35 (upd (vF 35) (nI nd).toNatClampNeg 0)) 41 g41118_1) 40 g40118_1) 39 g39118_1) 42 g42118_1) 47 g47118_1) 48 g48118_1 = fT (fT (fT (fT (fT (fT (fT (fT (fT (fT (fT (fT (fT (fT (fT vF 29 (upd (vF 29) (nI nd).toNatClampNeg 2)) 30 (upd (vF 30) (nI nd).toNatClampNeg (nI oA))) 31 (upd (vF 31) (nI nd).toNatClampNeg (-1))) 32 (upd (vF 32) (nI nd).toNatClampNeg (-1))) 33 (upd (vF 33) (nI nd).toNatClampNeg (nI fn))) 34 (upd (vF 34) (nI nd).toNatClampNeg 0)) 35 (upd (vF 35) (nI nd).toNatClampNeg 0)) 41 (upd (vF 41) ((nI dN)).toNatClampNeg (nI nd))) 40 (upd (vF 40) ((nI dN)).toNatClampNeg 3)) 39 g39118_1) 40 g40118_1) 41 g41118_1) 42 g42118_1) 47 g47118_1) 48 g48118_1 := ((congrArg (fun g9 => fT (fT (fT (fT g9 41 g41118_1) 42 g42118_1) 47 g47118_1) 48 g48118_1) ((fT_sw _ _ _ (Nat.ne_of_beq_eq_false rfl)).trans (congrArg (fun g9 => fT g9 39 g39118_1) (fT_sm _ _ _ _)))).trans (congrArg (fun g9 => fT (fT (fT g9 42 g42118_1) 47 g47118_1) 48 g48118_1) ((fT_sw _ _ _ (Nat.ne_of_beq_eq_false rfl)).trans (congrArg (fun g9 => fT g9 39 g39118_1) ((fT_sw _ _ _ (Nat.ne_of_beq_eq_false rfl)).trans (congrArg (fun g9 => fT g9 40 g40118_1) (fT_sm _ _ _ _))))))).symm
            have hP := wr_PF e9F (wr_Pi e9i (fz_P ht hB9.1))
            have hD := wr_DF e9F (wr_Di e9i (hB9.2.weaken (fun _ q _ h => hFc q.1 h)))
            clear e9i e9F
            revert hw9
            refine fz_a4 ?_
            intro f118_1_0 f118_1_1 f118_1_2 f118_1_3
            have f118_1_1 : 0 < (s2118_1).toInt ∨ (s2118_1 = s2102_1 ∧ BgO 0 wd102_1 sg102_1 g39118_1 g40118_1 g41118_1 g42118_1 g48118_1 (dN + 1) wi d2118_1 w2118_1) := f118_1_1
            have f118_1_2 : FrmO (dN + 1) (vF 39) (upd (vF 40) ((nI dN)).toNatClampNeg 3) (upd (vF 41) ((nI dN)).toNatClampNeg (nI nd)) (vF 42) (vF 48) g39118_1 g40118_1 g41118_1 g42118_1 g48118_1 := f118_1_2
            refine W.widen (k := 0) (n := 0) (by decide +kernel) (by decide +kernel) ?_
            have e9 : fT (fT (fT (fT (fT (fT (fT (fT (fT (fT (fT vi 52 (nI (nd + 1))) 17 (nI a2102_1)) 19 (nI f2102_1)) 20 sg102_1) 18 wd102_1) 21 s2118_1) 22 p2118_1) 75 (nI w2118_1)) 74 (nI d2118_1)) 76 (vi 76)) 77 (vi 77) = fT (fT (fT (fT (fT (fT (fT (fT (fT vi 52 (nI (nd + 1))) 17 (nI a2102_1)) 19 (nI f2102_1)) 20 sg102_1) 18 wd102_1) 21 s2118_1) 22 p2118_1) 75 (nI w2118_1)) 74 (nI d2118_1) := ch_E vi [nI (nd + 1), nI a2102_1, nI f2102_1, sg102_1, wd102_1, s2118_1, p2118_1, nI w2118_1, nI d2118_1] [(77, 0), (76, 0), (74, 9), (75, 8), (22, 7), (21, 6), (18, 5), (20, 4), (19, 3), (17, 2), (52, 1)] [(74, 9), (75, 8), (22, 7), (21, 6), (18, 5), (20, 4), (19, 3), (17, 2), (52, 1)] [] trivial (by decide +kernel)
            have hP := wr_Pi e9 hP
            have hD := wr_Di e9 hD
            clear e9
            exact W.vret hx hb hr (fun t9_ ht hW => ⟨⟨(a2102_1, f2102_1, sg102_1, wd102_1, s2118_1, p2118_1, (upd (vF 29) (nI nd).toNatClampNeg 2), (upd (vF 30) (nI nd).toNatClampNeg (nI oA)), (upd (vF 31) (nI nd).toNatClampNeg (-1)), (upd (vF 32) (nI nd).toNatClampNeg (-1)), (upd (vF 33) (nI nd).toNatClampNeg (nI fn)), (upd (vF 34) (nI nd).toNatClampNeg 0), (upd (vF 35) (nI nd).toNatClampNeg 0), g39118_1, g40118_1, g41118_1, g42118_1, g47118_1, g48118_1, d2118_1, w2118_1, (nd + 1), (vi 76), (vi 77), gG), rfl, by (try dsimp only); exact ⟨f102_1_1, by omega, f118_1_0, by rcases f118_1_1 with h9 | h9; (exact Or.inl h9); (exact Or.inr ⟨RdS.push (gm := (nd + 1)) hKN.1 hBel hKN.2.1 (Nat.le_refl _) (fun q hq => ⟨rfl, by rw [upd_at (by omega), if_neg (by omega)], by rw [upd_at (by omega), if_neg (by omega)], rfl, rfl⟩) h39 (by decide) h48 (by omega) ⟨⟨by omega, fun _ => by omega, fun h8 => absurd h8 (by decide), by omega⟩, Or.inr (Or.inr (Or.inr (Or.inl ⟨rfl, rfl, by rw [upd_at (by omega), if_pos rfl], rfl, rfl, rfl, nd, pl, by rw [upd_at (by omega), if_pos rfl], by omega, by omega, hK0.nv, ⟨2, oA, o1, o2, aT, by decide, u_at (by omega) (by decide), ⟨u_at (by omega) rfl, hoA⟩, hSm, by omega⟩, u_at (by omega) rfl, u_at (by omega) rfl⟩)))⟩ f118_1_2 (by rw [← hwc]; exact h9.2) (show (0 : Int32) = nI 0 by decide) (by decide) (by omega) (by omega) (by omega) (by omega) (by omega) (by show 10 * (4000 - _) + dN + 1 + 3 ≤ mM - 1; omega), hKN.2.1.less (Nat.zero_le _)⟩), by omega⟩, by rw [ht]; exact hP, hD⟩, hS.F ht⟩) hS.2.2 dX12_beginName_121
          · refine lv_if_ne (tgt := 109) hx hb dX12_beginName_105 (by decide) (fun c9 => absurd c9 (by decide)) (fun _ => ?_)
            refine W.widen (k := 0) (n := 0) (by decide +kernel) (by decide +kernel) ?_
            have e9 : fT (fT (fT (fT (fT (fT (fT (fT (fT (fT (fT vi 52 (nI (nd + 1))) 17 (nI a2102_1)) 19 (nI f2102_1)) 20 sg102_1) 18 wd102_1) 21 s2102_1) 22 p2102_1) 75 (nI wi)) 74 (nI (dN + 1))) 76 (vi 76)) 77 (vi 77) = fT (fT (fT (fT (fT (fT (fT vi 52 (nI (nd + 1))) 17 (nI a2102_1)) 19 (nI f2102_1)) 20 sg102_1) 18 wd102_1) 21 s2102_1) 22 p2102_1 := ch_E vi [nI (nd + 1), nI a2102_1, nI f2102_1, sg102_1, wd102_1, s2102_1, p2102_1, nI wi, nI (dN + 1)] [(77, 0), (76, 0), (74, 9), (75, 8), (22, 7), (21, 6), (18, 5), (20, 4), (19, 3), (17, 2), (52, 1)] [(22, 7), (21, 6), (18, 5), (20, 4), (19, 3), (17, 2), (52, 1)] [75, 74] ⟨show nI wi = vi 75 from (by first | with_reducible rfl | with_reducible assumption | (symm; with_reducible assumption) | rfl | assumption | (symm; assumption) | (subst_vars; rfl)), show nI (dN + 1) = vi 74 from (by first | with_reducible rfl | with_reducible assumption | (symm; with_reducible assumption) | rfl | assumption | (symm; assumption) | (subst_vars; rfl)), trivial⟩ (by decide +kernel)
            have hP := wr_Pi e9 hP
            have hD := wr_Di e9 hD
            clear e9
            have e9 : fT (fT (fT (fT (fT (fT (fT (fT (fT (fT (fT (fT (fT vF 29 (upd (vF 29) (nI nd).toNatClampNeg 2)) 30 (upd (vF 30) (nI nd).toNatClampNeg (nI oA))) 31 (upd (vF 31) (nI nd).toNatClampNeg (-1))) 32 (upd (vF 32) (nI nd).toNatClampNeg (-1))) 33 (upd (vF 33) (nI nd).toNatClampNeg (nI fn))) 34 (upd (vF 34) (nI nd).toNatClampNeg 0)) 35 (upd (vF 35) (nI nd).toNatClampNeg 0)) 41 (upd (vF 41) ((nI dN)).toNatClampNeg (nI nd))) 40 (vF 40)) 39 (vF 39)) 42 (vF 42)) 47 (vF 47)) 48 (vF 48) = fT (fT (fT (fT (fT (fT (fT (fT vF 29 (upd (vF 29) (nI nd).toNatClampNeg 2)) 30 (upd (vF 30) (nI nd).toNatClampNeg (nI oA))) 31 (upd (vF 31) (nI nd).toNatClampNeg (-1))) 32 (upd (vF 32) (nI nd).toNatClampNeg (-1))) 33 (upd (vF 33) (nI nd).toNatClampNeg (nI fn))) 34 (upd (vF 34) (nI nd).toNatClampNeg 0)) 35 (upd (vF 35) (nI nd).toNatClampNeg 0)) 41 (upd (vF 41) ((nI dN)).toNatClampNeg (nI nd)) := ch_E vF [upd (vF 29) (nI nd).toNatClampNeg 2, upd (vF 30) (nI nd).toNatClampNeg (nI oA), upd (vF 31) (nI nd).toNatClampNeg (-1), upd (vF 32) (nI nd).toNatClampNeg (-1), upd (vF 33) (nI nd).toNatClampNeg (nI fn), upd (vF 34) (nI nd).toNatClampNeg 0, upd (vF 35) (nI nd).toNatClampNeg 0, upd (vF 41) ((nI dN)).toNatClampNeg (nI nd)] [(48, 0), (47, 0), (42, 0), (39, 0), (40, 0), (41, 8), (35, 7), (34, 6), (33, 5), (32, 4), (31, 3), (30, 2), (29, 1)] [(41, 8), (35, 7), (34, 6), (33, 5), (32, 4), (31, 3), (30, 2), (29, 1)] [] trivial (by decide +kernel)
            have hP := wr_PF e9 hP
            have hD := wr_DF e9 hD
            clear e9
            exact W.vret hx hb hr (fun t9_ ht hW => ⟨⟨(a2102_1, f2102_1, sg102_1, wd102_1, s2102_1, p2102_1, (upd (vF 29) (nI nd).toNatClampNeg 2), (upd (vF 30) (nI nd).toNatClampNeg (nI oA)), (upd (vF 31) (nI nd).toNatClampNeg (-1)), (upd (vF 32) (nI nd).toNatClampNeg (-1)), (upd (vF 33) (nI nd).toNatClampNeg (nI fn)), (upd (vF 34) (nI nd).toNatClampNeg 0), (upd (vF 35) (nI nd).toNatClampNeg 0), (vF 39), (vF 40), (upd (vF 41) ((nI dN)).toNatClampNeg (nI nd)), (vF 42), (vF 47), (vF 48), (dN + 1), wi, (nd + 1), (vi 76), (vi 77), gG), rfl, by (try dsimp only); exact ⟨f102_1_1, by omega, by omega, Or.inl f102_1_0, by omega⟩, by rw [ht]; exact hP, hD⟩, hS.F ht⟩) hS.2.2 dX12_beginName_108
        · have t_81 : ((pl : Nat) : Int) = 0 := toI_nne c_81 (nI_toInt (by omega)) (by decide)
          have hKM := hK0.mkName (p := 51 - 2 * (cw + xe)) (kv := 2) (av := nI oA) (bv := -1) (cv := -1) (by omega) (k := 2) (by decide) (by decide) ⟨rfl, hoA⟩ hSm (by omega) (by omega) rfl rfl
          refine lv_aload_n hx hb dX12_beginName_84 rfl (lv_at hl 3 rfl) ?_
          refine lv_iload hx hb dX12_beginName_85 (lv_at hl 0 rfl) ?_
          have hFc := allFree hD hS hA
          refine va_callv (va_runV (As := [.int (nI nd)]) (rest := []) ⟨hx, hb, hml, hown, hts⟩ (r_X12_end1w l dC dI a k h0 (fT (fT (fT (fT (fT vi 52 (nI (nd + 1))) 17 (nI a272_1)) 19 (nI f272_1)) 20 sg72_1) 18 wd72_1) vj (fT (fT (fT (fT (fT (fT (fT vF 29 (upd (vF 29) (nI nd).toNatClampNeg 2)) 30 (upd (vF 30) (nI nd).toNatClampNeg (nI oA))) 31 (upd (vF 31) (nI nd).toNatClampNeg (-1))) 32 (upd (vF 32) (nI nd).toNatClampNeg (-1))) 33 (upd (vF 33) (nI nd).toNatClampNeg (nI fn))) 34 (upd (vF 34) (nI nd).toNatClampNeg 0)) 35 (upd (vF 35) (nI nd).toNatClampNeg 0)) vG (nI nd) dN wi xe (hdp) (by first | with_reducible assumption | decide | omega | rfl | assumption) hwi (by first | with_reducible assumption | decide | omega | rfl | assumption) (h48) (by first | with_reducible assumption | decide | omega | rfl | assumption) H.size) (cwV 1 hts gwsRX12_beginName_7 rfl rfl rfl hd_yX12_end1_RX12 (by decide +kernel)) (fz_pre (va_recv hK hP (ci := 12) (q0 := 0) rfl rfl) hP hK hD) rfl rfl hl.1 rfl (lv_room (Nat.le_of_ble_eq_true rfl)) dX12_beginName_87 (by decide +kernel)) hS (fun q _ h => hFc q h) hFc (fun u t9_ H locs ht hvm hw9 hB9 hz1 hk1 hS => ?_)
          have hP : va_P (dC, dI) vwCl (WR a k h0 (fT (fT (fT (fT (fT (fT (fT (fT (fT vi 52 (nI (nd + 1))) 17 (nI a272_1)) 19 (nI f272_1)) 20 sg72_1) 18 wd72_1) 74 (nI dN)) 75 (nI (wi - xe))) 76 (nI nd)) 77 ((vF 47) dN)) vj (fT (fT (fT (fT (fT (fT (fT vF 29 (upd (vF 29) (nI nd).toNatClampNeg 2)) 30 (upd (vF 30) (nI nd).toNatClampNeg (nI oA))) 31 (upd (vF 31) (nI nd).toNatClampNeg (-1))) 32 (upd (vF 32) (nI nd).toNatClampNeg (-1))) 33 (upd (vF 33) (nI nd).toNatClampNeg (nI fn))) 34 (upd (vF 34) (nI nd).toNatClampNeg 0)) 35 (upd (vF 35) (nI nd).toNatClampNeg 0)) vG) H := fz_P ht hB9.1
          have hD := fz_sd hP (hB9.2.weaken (fun _ q _ h => hFc q.1 h)) rfl
          refine W.widen (k := 0) (n := 0) (by decide +kernel) (by decide +kernel) ?_
          have e9 : fT (fT (fT (fT (fT (fT (fT (fT (fT (fT (fT vi 52 (nI (nd + 1))) 17 (nI a272_1)) 19 (nI f272_1)) 20 sg72_1) 18 wd72_1) 21 (vi 21)) 22 (vi 22)) 75 (nI (wi - xe))) 74 (nI dN)) 76 (nI nd)) 77 ((vF 47) dN) = fT (fT (fT (fT (fT (fT (fT (fT (fT vi 52 (nI (nd + 1))) 17 (nI a272_1)) 19 (nI f272_1)) 20 sg72_1) 18 wd72_1) 74 (nI dN)) 75 (nI (wi - xe))) 76 (nI nd)) 77 ((vF 47) dN) := ch_E vi [nI (nd + 1), nI a272_1, nI f272_1, sg72_1, wd72_1, nI (wi - xe), nI dN, nI nd, (vF 47) dN] [(77, 9), (76, 8), (74, 7), (75, 6), (22, 0), (21, 0), (18, 5), (20, 4), (19, 3), (17, 2), (52, 1)] [(77, 9), (76, 8), (75, 6), (74, 7), (18, 5), (20, 4), (19, 3), (17, 2), (52, 1)] [] trivial (by decide +kernel)
          have hP := wr_Pi e9 hP
          have hD := wr_Di e9 hD
          clear e9
          have e9 : fT (fT (fT (fT (fT (fT (fT (fT (fT (fT (fT (fT (fT vF 29 (upd (vF 29) (nI nd).toNatClampNeg 2)) 30 (upd (vF 30) (nI nd).toNatClampNeg (nI oA))) 31 (upd (vF 31) (nI nd).toNatClampNeg (-1))) 32 (upd (vF 32) (nI nd).toNatClampNeg (-1))) 33 (upd (vF 33) (nI nd).toNatClampNeg (nI fn))) 34 (upd (vF 34) (nI nd).toNatClampNeg 0)) 35 (upd (vF 35) (nI nd).toNatClampNeg 0)) 41 (vF 41)) 40 (vF 40)) 39 (vF 39)) 42 (vF 42)) 47 (vF 47)) 48 (vF 48) = fT (fT (fT (fT (fT (fT (fT vF 29 (upd (vF 29) (nI nd).toNatClampNeg 2)) 30 (upd (vF 30) (nI nd).toNatClampNeg (nI oA))) 31 (upd (vF 31) (nI nd).toNatClampNeg (-1))) 32 (upd (vF 32) (nI nd).toNatClampNeg (-1))) 33 (upd (vF 33) (nI nd).toNatClampNeg (nI fn))) 34 (upd (vF 34) (nI nd).toNatClampNeg 0)) 35 (upd (vF 35) (nI nd).toNatClampNeg 0) := ch_E vF [upd (vF 29) (nI nd).toNatClampNeg 2, upd (vF 30) (nI nd).toNatClampNeg (nI oA), upd (vF 31) (nI nd).toNatClampNeg (-1), upd (vF 32) (nI nd).toNatClampNeg (-1), upd (vF 33) (nI nd).toNatClampNeg (nI fn), upd (vF 34) (nI nd).toNatClampNeg 0, upd (vF 35) (nI nd).toNatClampNeg 0] [(48, 0), (47, 0), (42, 0), (39, 0), (40, 0), (41, 0), (35, 7), (34, 6), (33, 5), (32, 4), (31, 3), (30, 2), (29, 1)] [(35, 7), (34, 6), (33, 5), (32, 4), (31, 3), (30, 2), (29, 1)] [] trivial (by decide +kernel)
          have hP := wr_PF e9 hP
          have hD := wr_DF e9 hD
          clear e9
          exact W.vret hx hb hr (fun t9_ ht hW => ⟨⟨(a272_1, f272_1, sg72_1, wd72_1, (vi 21), (vi 22), (upd (vF 29) (nI nd).toNatClampNeg 2), (upd (vF 30) (nI nd).toNatClampNeg (nI oA)), (upd (vF 31) (nI nd).toNatClampNeg (-1)), (upd (vF 32) (nI nd).toNatClampNeg (-1)), (upd (vF 33) (nI nd).toNatClampNeg (nI fn)), (upd (vF 34) (nI nd).toNatClampNeg 0), (upd (vF 35) (nI nd).toNatClampNeg 0), (vF 39), (vF 40), (vF 41), (vF 42), (vF 47), (vF 48), dN, (wi - xe), (nd + 1), (nI nd), ((vF 47) dN), (gG.add nd 0 (51 - 2 * (cw + xe)) 0)), rfl, by (try dsimp only); exact ⟨f72_1_0, by omega, hst0, Or.inr ⟨by (have e9 : wi - xe = cw := by omega); rw [e9]; exact RdS.pop (ex := xe) hKM.1.1 hBel hKM.1.2.1 (Nat.le_refl _) (fun q hq => ⟨rfl, rfl, rfl, rfl, rfl⟩) (by omega) (fun h8 => by omega) (by decide) (Or.inl ⟨by decide, hKM.2⟩) (by omega) (by show gG.vN + 1 + un ≤ nd + 1; omega) (by omega) (by omega) hKM.1.2.2.2 (by omega), hKM.1.2.1.less (Nat.zero_le _)⟩, by omega⟩, by rw [ht]; exact hP, hD⟩, hS.F ht⟩) hS.2.2 dX12_beginName_90
  · have f1_1 : SmW (vF 9) (vF 14) (vF 15) fn an kx1 := f1_1
    refine lv_istore_n hx hb dX12_beginName_4 rfl hl (by decide) rfl (fun ls (hl : lv_has ls _ ([(2, .int (nI kx1)), (0, .ref h0), (1, .int (nI dN))])) => ?_)
    refine lv_iload_n hx hb dX12_beginName_5 rfl (lv_at hl 0 rfl) ?_
    refine lv_iconst (v := (-1)) hx hb dX12_beginName_6 (by decide) ?_
    refine lv_icmp_eq (tgt := 33) hx hb dX12_beginName_7 (by decide) (fun c9 => False.elim (nI_nm1 (by omega) c9)) (fun c_7 => ?_)
    have t_7 : ¬ ((kx1 : Nat) : Int) = -1 := toI_neq c_7 (nI_toInt (by omega)) (by decide)
    have hKK := hK0.mkBnd (p := 51 - 2 * (cw + xe)) (kv := 1) (av := nI kx1) (bv := 0) (cv := 0) (by omega) (by decide) (by omega) (show kx1 < 60 by omega) rfl
    have hKN := hKK.1
    have hLN := hKK.2
    refine lv_aload_n hx hb dX12_beginName_10 rfl (lv_at hl 1 rfl) ?_
    refine lv_iconst (v := 1) hx hb dX12_beginName_11 (by decide) ?_
    refine lv_iload_n hx hb dX12_beginName_12 rfl (lv_at hl 0 rfl) ?_
    refine lv_iconst (v := 0) hx hb dX12_beginName_13 (by decide) ?_
    refine lv_iconst (v := 0) hx hb dX12_beginName_14 (by decide) ?_
    refine lv_aload_n hx hb dX12_beginName_15 rfl (lv_at hl 1 rfl) ?_
    refine va_get (D := (dC, dI)) (ci := 12) (v := .int (vi 19)) (C := RX12) (T := TX12) (N := 163) (fs := fM (vS a vi vj)) hx hb hts iwsRX12_beginName_in12 hown hK hP 0 rfl rfl 19 (by decide) (hts _ hm_r_X12_beginName_1) (fun _ h9 => h9) rfl dX12_beginName_16 ?_
    refine lv_topi (fun y8 hy8 => ?_)
    obtain rfl : (nI fn) = y8 := (hy8.trans (hfr)).symm
    have hFc := allFree hD hS hA
    refine va_calli (va_runV (As := [.int 1, .int (nI kx1), .int 0, .int 0, .int (nI fn)]) (rest := []) ⟨hx, hb, hml, hown, hts⟩ (r_X12_node l dC dI a k h0 vi vj vF vG nd 1 (nI kx1) 0 0 (nI fn) hnd (by first | with_reducible assumption | decide | omega | rfl | assumption) H.size) (cwV 5 hts gwsRX12_beginName_2 rfl rfl rfl hd_yX12_node_RX12 (by decide +kernel)) (fz_pre (va_recv hK hP (ci := 12) (q0 := 0) rfl rfl) hP hK hD) rfl rfl hl.1 rfl (lv_room (Nat.le_of_ble_eq_true rfl)) dX12_beginName_19 (by decide +kernel)) hS (fun q _ h => hFc q h) hFc (fun r19 u t9_ H locs ht hvm hw9 hB9 hz1 hk1 hS => ?_)
    have hP : va_P (dC, dI) vwCl (WR a k h0 (fT vi 52 (nI (nd + 1))) vj (fT (fT (fT (fT (fT (fT (fT vF 29 (upd (vF 29) (nI nd).toNatClampNeg 1)) 30 (upd (vF 30) (nI nd).toNatClampNeg (nI kx1))) 31 (upd (vF 31) (nI nd).toNatClampNeg 0)) 32 (upd (vF 32) (nI nd).toNatClampNeg 0)) 33 (upd (vF 33) (nI nd).toNatClampNeg (nI fn))) 34 (upd (vF 34) (nI nd).toNatClampNeg 0)) 35 (upd (vF 35) (nI nd).toNatClampNeg 0)) vG) H := fz_P ht hB9.1
    have hD := fz_sd hP (hB9.2.weaken (fun _ q _ h => hFc q.1 h)) rfl
    obtain rfl := hw9
    refine lv_istore_n hx hb dX12_beginName_22 rfl hl (by decide) rfl (fun ls (hl : lv_has ls _ ([(3, .int (nI nd)), (2, .int (nI kx1)), (0, .ref h0), (1, .int (nI dN))])) => ?_)
    refine lv_aload_n hx hb dX12_beginName_23 rfl (lv_at hl 2 rfl) ?_
    have hFc := allFree hD hS hA
    refine va_callv (va_runV (As := []) (rest := []) ⟨hx, hb, hml, hown, hts⟩ (r_X12_next l dC dI a k h0 (fT vi 52 (nI (nd + 1))) vj (fT (fT (fT (fT (fT (fT (fT vF 29 (upd (vF 29) (nI nd).toNatClampNeg 1)) 30 (upd (vF 30) (nI nd).toNatClampNeg (nI kx1))) 31 (upd (vF 31) (nI nd).toNatClampNeg 0)) 32 (upd (vF 32) (nI nd).toNatClampNeg 0)) 33 (upd (vF 33) (nI nd).toNatClampNeg (nI fn))) 34 (upd (vF 34) (nI nd).toNatClampNeg 0)) 35 (upd (vF 35) (nI nd).toNatClampNeg 0)) vG tp an hTp (by first | with_reducible assumption | decide | omega | rfl | assumption) ha0 (by first | with_reducible assumption | decide | omega | rfl | assumption) H.size) (cwV 0 hts gwsRX12_beginName_3 rfl rfl rfl hd_yX12_next_RX12 (by decide +kernel)) (fz_preE (va_recv hK hP (ci := 12) (q0 := 0) rfl rfl) hP hK hD (fun a U g mk qE => qE.same rfl) (fun U hU9 hW => by rw [hU9]; exact (((hE : StrA A s s.heap).kept hS.2.1).narrow (fun q h => hFc q h)).warm hW)) rfl rfl hl.1 rfl (lv_room (Nat.le_of_ble_eq_true rfl)) dX12_beginName_24 (by decide +kernel)) hS (fun q _ h => hFc q h) hFc (fun u t9_ H locs ht hvm hw9 hB9 hz1 hk1 hS => ?_)
    revert u hw9 hB9
    refine fz_p4 ?_
    intro a224 f224 sg24 wd24 hw9 hB9
    try dsimp only at hw9 hB9
    have hP : va_P (dC, dI) vwCl (WR a k h0 (fT (fT (fT (fT (fT vi 52 (nI (nd + 1))) 17 (nI a224)) 19 (nI f224)) 20 sg24) 18 wd24) vj (fT (fT (fT (fT (fT (fT (fT vF 29 (upd (vF 29) (nI nd).toNatClampNeg 1)) 30 (upd (vF 30) (nI nd).toNatClampNeg (nI kx1))) 31 (upd (vF 31) (nI nd).toNatClampNeg 0)) 32 (upd (vF 32) (nI nd).toNatClampNeg 0)) 33 (upd (vF 33) (nI nd).toNatClampNeg (nI fn))) 34 (upd (vF 34) (nI nd).toNatClampNeg 0)) 35 (upd (vF 35) (nI nd).toNatClampNeg 0)) vG) H := fz_P ht hB9.1
    have hD := fz_sd hP (hB9.2.weaken (fun _ q _ h => hFc q.1 h)) rfl
    revert hw9
    refine fz_a2 ?_
    intro f24_0 f24_1
    have hl1 := f24_0.1
    have hl2 := f24_0.2.1
    refine lv_aload_n hx hb dX12_beginName_27 rfl (lv_at hl 2 rfl) ?_
    refine lv_iload_n hx hb dX12_beginName_28 rfl (lv_at hl 0 rfl) ?_
    have hFc := allFree hD hS hA
    refine va_callv (va_runV (As := [.int (nI nd)]) (rest := []) ⟨hx, hb, hml, hown, hts⟩ (r_X12_end1w l dC dI a k h0 (fT (fT (fT (fT (fT vi 52 (nI (nd + 1))) 17 (nI a224)) 19 (nI f224)) 20 sg24) 18 wd24) vj (fT (fT (fT (fT (fT (fT (fT vF 29 (upd (vF 29) (nI nd).toNatClampNeg 1)) 30 (upd (vF 30) (nI nd).toNatClampNeg (nI kx1))) 31 (upd (vF 31) (nI nd).toNatClampNeg 0)) 32 (upd (vF 32) (nI nd).toNatClampNeg 0)) 33 (upd (vF 33) (nI nd).toNatClampNeg (nI fn))) 34 (upd (vF 34) (nI nd).toNatClampNeg 0)) 35 (upd (vF 35) (nI nd).toNatClampNeg 0)) vG (nI nd) dN wi xe (hdp) (by first | with_reducible assumption | decide | omega | rfl | assumption) hwi (by first | with_reducible assumption | decide | omega | rfl | assumption) (h48) (by first | with_reducible assumption | decide | omega | rfl | assumption) H.size) (cwV 1 hts gwsRX12_beginName_7 rfl rfl rfl hd_yX12_end1_RX12 (by decide +kernel)) (fz_pre (va_recv hK hP (ci := 12) (q0 := 0) rfl rfl) hP hK hD) rfl rfl hl.1 rfl (lv_room (Nat.le_of_ble_eq_true rfl)) dX12_beginName_29 (by decide +kernel)) hS (fun q _ h => hFc q h) hFc (fun u t9_ H locs ht hvm hw9 hB9 hz1 hk1 hS => ?_)
    have hP : va_P (dC, dI) vwCl (WR a k h0 (fT (fT (fT (fT (fT (fT (fT (fT (fT vi 52 (nI (nd + 1))) 17 (nI a224)) 19 (nI f224)) 20 sg24) 18 wd24) 74 (nI dN)) 75 (nI (wi - xe))) 76 (nI nd)) 77 ((vF 47) dN)) vj (fT (fT (fT (fT (fT (fT (fT vF 29 (upd (vF 29) (nI nd).toNatClampNeg 1)) 30 (upd (vF 30) (nI nd).toNatClampNeg (nI kx1))) 31 (upd (vF 31) (nI nd).toNatClampNeg 0)) 32 (upd (vF 32) (nI nd).toNatClampNeg 0)) 33 (upd (vF 33) (nI nd).toNatClampNeg (nI fn))) 34 (upd (vF 34) (nI nd).toNatClampNeg 0)) 35 (upd (vF 35) (nI nd).toNatClampNeg 0)) vG) H := fz_P ht hB9.1
    have hD := fz_sd hP (hB9.2.weaken (fun _ q _ h => hFc q.1 h)) rfl
    refine W.widen (k := 0) (n := 0) (by decide +kernel) (by decide +kernel) ?_
    have e9 : fT (fT (fT (fT (fT (fT (fT (fT (fT (fT (fT vi 52 (nI (nd + 1))) 17 (nI a224)) 19 (nI f224)) 20 sg24) 18 wd24) 21 (vi 21)) 22 (vi 22)) 75 (nI (wi - xe))) 74 (nI dN)) 76 (nI nd)) 77 ((vF 47) dN) = fT (fT (fT (fT (fT (fT (fT (fT (fT vi 52 (nI (nd + 1))) 17 (nI a224)) 19 (nI f224)) 20 sg24) 18 wd24) 74 (nI dN)) 75 (nI (wi - xe))) 76 (nI nd)) 77 ((vF 47) dN) := ch_E vi [nI (nd + 1), nI a224, nI f224, sg24, wd24, nI (wi - xe), nI dN, nI nd, (vF 47) dN] [(77, 9), (76, 8), (74, 7), (75, 6), (22, 0), (21, 0), (18, 5), (20, 4), (19, 3), (17, 2), (52, 1)] [(77, 9), (76, 8), (75, 6), (74, 7), (18, 5), (20, 4), (19, 3), (17, 2), (52, 1)] [] trivial (by decide +kernel)
    have hP := wr_Pi e9 hP
    have hD := wr_Di e9 hD
    clear e9
    have e9 : fT (fT (fT (fT (fT (fT (fT (fT (fT (fT (fT (fT (fT vF 29 (upd (vF 29) (nI nd).toNatClampNeg 1)) 30 (upd (vF 30) (nI nd).toNatClampNeg (nI kx1))) 31 (upd (vF 31) (nI nd).toNatClampNeg 0)) 32 (upd (vF 32) (nI nd).toNatClampNeg 0)) 33 (upd (vF 33) (nI nd).toNatClampNeg (nI fn))) 34 (upd (vF 34) (nI nd).toNatClampNeg 0)) 35 (upd (vF 35) (nI nd).toNatClampNeg 0)) 41 (vF 41)) 40 (vF 40)) 39 (vF 39)) 42 (vF 42)) 47 (vF 47)) 48 (vF 48) = fT (fT (fT (fT (fT (fT (fT vF 29 (upd (vF 29) (nI nd).toNatClampNeg 1)) 30 (upd (vF 30) (nI nd).toNatClampNeg (nI kx1))) 31 (upd (vF 31) (nI nd).toNatClampNeg 0)) 32 (upd (vF 32) (nI nd).toNatClampNeg 0)) 33 (upd (vF 33) (nI nd).toNatClampNeg (nI fn))) 34 (upd (vF 34) (nI nd).toNatClampNeg 0)) 35 (upd (vF 35) (nI nd).toNatClampNeg 0) := ch_E vF [upd (vF 29) (nI nd).toNatClampNeg 1, upd (vF 30) (nI nd).toNatClampNeg (nI kx1), upd (vF 31) (nI nd).toNatClampNeg 0, upd (vF 32) (nI nd).toNatClampNeg 0, upd (vF 33) (nI nd).toNatClampNeg (nI fn), upd (vF 34) (nI nd).toNatClampNeg 0, upd (vF 35) (nI nd).toNatClampNeg 0] [(48, 0), (47, 0), (42, 0), (39, 0), (40, 0), (41, 0), (35, 7), (34, 6), (33, 5), (32, 4), (31, 3), (30, 2), (29, 1)] [(35, 7), (34, 6), (33, 5), (32, 4), (31, 3), (30, 2), (29, 1)] [] trivial (by decide +kernel)
    have hP := wr_PF e9 hP
    have hD := wr_DF e9 hD
    clear e9
    exact W.vret hx hb hr (fun t9_ ht hW => ⟨⟨(a224, f224, sg24, wd24, (vi 21), (vi 22), (upd (vF 29) (nI nd).toNatClampNeg 1), (upd (vF 30) (nI nd).toNatClampNeg (nI kx1)), (upd (vF 31) (nI nd).toNatClampNeg 0), (upd (vF 32) (nI nd).toNatClampNeg 0), (upd (vF 33) (nI nd).toNatClampNeg (nI fn)), (upd (vF 34) (nI nd).toNatClampNeg 0), (upd (vF 35) (nI nd).toNatClampNeg 0), (vF 39), (vF 40), (vF 41), (vF 42), (vF 47), (vF 48), dN, (wi - xe), (nd + 1), (nI nd), ((vF 47) dN), (gG.add nd 0 (51 - 2 * (cw + xe)) 0)), rfl, by (try dsimp only); exact ⟨f24_0, by omega, hst0, Or.inr ⟨by (have e9 : wi - xe = cw := by omega); rw [e9]; exact RdS.pop (ex := xe) hKN.1 hBel hKN.2.1 (Nat.le_refl _) (fun q hq => ⟨rfl, rfl, rfl, rfl, rfl⟩) (by omega) (fun h8 => by omega) (by decide) (Or.inl ⟨by decide, hLN⟩) (by omega) (by show gG.vN + 1 + un ≤ nd + 1; omega) (by omega) (by omega) hKN.2.2.2 (by omega), hKN.2.1.less (Nat.zero_le _)⟩, by omega⟩, by rw [ht]; exact hP, hD⟩, hS.F ht⟩) hS.2.2 dX12_beginName_32
end

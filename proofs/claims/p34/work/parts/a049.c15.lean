theorem dX12_pivot_0 : decode cX12_pivot 0 = .ok (.aload_n 0, 1) := dk_42 (by decide +kernel)
theorem dX12_pivot_1 : decode cX12_pivot 1 = .ok (.getfield 414, 3) := dk_180 (by decide +kernel)
theorem dX12_pivot_4 : decode cX12_pivot 4 = .ok (.ifCond .eq 13, 3) := dk_153 (by decide +kernel)
theorem dX12_pivot_7 : decode cX12_pivot 7 = .ok (.aload_n 0, 1) := dk_42 (by decide +kernel)
theorem dX12_pivot_8 : decode cX12_pivot 8 = .ok (.iload_n 1, 1) := dk_27 (by decide +kernel)
theorem dX12_pivot_9 : decode cX12_pivot 9 = .ok (.iload_n 2, 1) := dk_28 (by decide +kernel)
theorem dX12_pivot_10 : decode cX12_pivot 10 = .ok (.invokevirtual 436, 3) := dk_182 (by decide +kernel)
theorem dX12_pivot_13 : decode cX12_pivot 13 = .ok (.ifCond .eq 4, 3) := dk_153 (by decide +kernel)
theorem dX12_pivot_16 : decode cX12_pivot 16 = .ok (.return_, 1) := dk_177 (by decide +kernel)
theorem dX12_pivot_17 : decode cX12_pivot 17 = .ok (.aload_n 0, 1) := dk_42 (by decide +kernel)
theorem dX12_pivot_18 : decode cX12_pivot 18 = .ok (.invokevirtual 440, 3) := dk_182 (by decide +kernel)
theorem dX12_pivot_21 : decode cX12_pivot 21 = .ok (.aload_n 0, 1) := dk_42 (by decide +kernel)
theorem dX12_pivot_22 : decode cX12_pivot 22 = .ok (.iload_n 1, 1) := dk_27 (by decide +kernel)
theorem dX12_pivot_23 : decode cX12_pivot 23 = .ok (.iload_n 2, 1) := dk_28 (by decide +kernel)
theorem dX12_pivot_24 : decode cX12_pivot 24 = .ok (.invokevirtual 405, 3) := dk_182 (by decide +kernel)
theorem dX12_pivot_27 : decode cX12_pivot 27 = .ok (.istore_n 3, 1) := dk_62 (by decide +kernel)
theorem dX12_pivot_28 : decode cX12_pivot 28 = .ok (.aload_n 0, 1) := dk_42 (by decide +kernel)
theorem dX12_pivot_29 : decode cX12_pivot 29 = .ok (.iload_n 3, 1) := dk_29 (by decide +kernel)
theorem dX12_pivot_30 : decode cX12_pivot 30 = .ok (.invokevirtual 353, 3) := dk_182 (by decide +kernel)
theorem dX12_pivot_33 : decode cX12_pivot 33 = .ok (.istore 4, 2) := dk_54 (by decide +kernel)
theorem dX12_pivot_35 : decode cX12_pivot 35 = .ok (.aload_n 0, 1) := dk_42 (by decide +kernel)
theorem dX12_pivot_36 : decode cX12_pivot 36 = .ok (.bipush 21, 2) := dk_16 (by decide +kernel)
theorem dX12_pivot_38 : decode cX12_pivot 38 = .ok (.iload_n 3, 1) := dk_29 (by decide +kernel)
theorem dX12_pivot_39 : decode cX12_pivot 39 = .ok (.invokevirtual 365, 3) := dk_182 (by decide +kernel)
theorem dX12_pivot_42 : decode cX12_pivot 42 = .ok (.iconst 0, 1) := dk_3 (by decide +kernel)
theorem dX12_pivot_43 : decode cX12_pivot 43 = .ok (.istore 5, 2) := dk_54 (by decide +kernel)
theorem dX12_pivot_45 : decode cX12_pivot 45 = .ok (.iload 5, 2) := dk_21 (by decide +kernel)
theorem dX12_pivot_47 : decode cX12_pivot 47 = .ok (.aload_n 0, 1) := dk_42 (by decide +kernel)
theorem dX12_pivot_48 : decode cX12_pivot 48 = .ok (.getfield 399, 3) := dk_180 (by decide +kernel)
theorem dX12_pivot_51 : decode cX12_pivot 51 = .ok (.aload_n 0, 1) := dk_42 (by decide +kernel)
theorem dX12_pivot_52 : decode cX12_pivot 52 = .ok (.getfield 402, 3) := dk_180 (by decide +kernel)
theorem dX12_pivot_55 : decode cX12_pivot 55 = .ok (.iadd, 1) := dk_96 (by decide +kernel)
theorem dX12_pivot_56 : decode cX12_pivot 56 = .ok (.if_icmp .ge 151, 3) := dk_162 (by decide +kernel)
theorem dX12_pivot_59 : decode cX12_pivot 59 = .ok (.iload 5, 2) := dk_21 (by decide +kernel)
theorem dX12_pivot_61 : decode cX12_pivot 61 = .ok (.iload_n 1, 1) := dk_27 (by decide +kernel)
theorem dX12_pivot_62 : decode cX12_pivot 62 = .ok (.if_icmp .ne 6, 3) := dk_160 (by decide +kernel)
theorem dX12_pivot_65 : decode cX12_pivot 65 = .ok (.goto 136, 3) := dk_167 (by decide +kernel)
theorem dX12_pivot_68 : decode cX12_pivot 68 = .ok (.iconst 0, 1) := dk_3 (by decide +kernel)
theorem dX12_pivot_69 : decode cX12_pivot 69 = .ok (.istore 6, 2) := dk_54 (by decide +kernel)
theorem dX12_pivot_71 : decode cX12_pivot 71 = .ok (.iload 6, 2) := dk_21 (by decide +kernel)
theorem dX12_pivot_73 : decode cX12_pivot 73 = .ok (.aload_n 0, 1) := dk_42 (by decide +kernel)
theorem dX12_pivot_74 : decode cX12_pivot 74 = .ok (.getfield 396, 3) := dk_180 (by decide +kernel)
theorem dX12_pivot_77 : decode cX12_pivot 77 = .ok (.if_icmp .gt 108, 3) := dk_163 (by decide +kernel)
theorem dX12_pivot_80 : decode cX12_pivot 80 = .ok (.iload 6, 2) := dk_21 (by decide +kernel)
theorem dX12_pivot_82 : decode cX12_pivot 82 = .ok (.iload_n 2, 1) := dk_28 (by decide +kernel)
theorem dX12_pivot_83 : decode cX12_pivot 83 = .ok (.if_icmp .ne 6, 3) := dk_160 (by decide +kernel)
theorem dX12_pivot_86 : decode cX12_pivot 86 = .ok (.goto 93, 3) := dk_167 (by decide +kernel)
theorem dX12_pivot_89 : decode cX12_pivot 89 = .ok (.aload_n 0, 1) := dk_42 (by decide +kernel)
theorem dX12_pivot_90 : decode cX12_pivot 90 = .ok (.bipush 22, 2) := dk_16 (by decide +kernel)
theorem dX12_pivot_92 : decode cX12_pivot 92 = .ok (.aload_n 0, 1) := dk_42 (by decide +kernel)
theorem dX12_pivot_93 : decode cX12_pivot 93 = .ok (.iload 5, 2) := dk_21 (by decide +kernel)
theorem dX12_pivot_95 : decode cX12_pivot 95 = .ok (.iload 6, 2) := dk_21 (by decide +kernel)
theorem dX12_pivot_97 : decode cX12_pivot 97 = .ok (.invokevirtual 405, 3) := dk_182 (by decide +kernel)
theorem dX12_pivot_100 : decode cX12_pivot 100 = .ok (.bipush 21, 2) := dk_16 (by decide +kernel)
theorem dX12_pivot_102 : decode cX12_pivot 102 = .ok (.invokevirtual 390, 3) := dk_182 (by decide +kernel)
theorem dX12_pivot_105 : decode cX12_pivot 105 = .ok (.aload_n 0, 1) := dk_42 (by decide +kernel)
theorem dX12_pivot_106 : decode cX12_pivot 106 = .ok (.bipush 23, 2) := dk_16 (by decide +kernel)
theorem dX12_pivot_108 : decode cX12_pivot 108 = .ok (.aload_n 0, 1) := dk_42 (by decide +kernel)
theorem dX12_pivot_109 : decode cX12_pivot 109 = .ok (.iload 5, 2) := dk_21 (by decide +kernel)
theorem dX12_pivot_111 : decode cX12_pivot 111 = .ok (.iload_n 2, 1) := dk_28 (by decide +kernel)
theorem dX12_pivot_112 : decode cX12_pivot 112 = .ok (.invokevirtual 405, 3) := dk_182 (by decide +kernel)
theorem dX12_pivot_115 : decode cX12_pivot 115 = .ok (.aload_n 0, 1) := dk_42 (by decide +kernel)
theorem dX12_pivot_116 : decode cX12_pivot 116 = .ok (.iload_n 1, 1) := dk_27 (by decide +kernel)
theorem dX12_pivot_117 : decode cX12_pivot 117 = .ok (.iload 6, 2) := dk_21 (by decide +kernel)
theorem dX12_pivot_119 : decode cX12_pivot 119 = .ok (.invokevirtual 405, 3) := dk_182 (by decide +kernel)
theorem dX12_pivot_122 : decode cX12_pivot 122 = .ok (.invokevirtual 390, 3) := dk_182 (by decide +kernel)
theorem dX12_pivot_125 : decode cX12_pivot 125 = .ok (.aload_n 0, 1) := dk_42 (by decide +kernel)
theorem dX12_pivot_126 : decode cX12_pivot 126 = .ok (.bipush 24, 2) := dk_16 (by decide +kernel)
theorem dX12_pivot_128 : decode cX12_pivot 128 = .ok (.bipush 22, 2) := dk_16 (by decide +kernel)
theorem dX12_pivot_130 : decode cX12_pivot 130 = .ok (.bipush 23, 2) := dk_16 (by decide +kernel)
theorem dX12_pivot_132 : decode cX12_pivot 132 = .ok (.iconst (-1), 1) := dk_2 (by decide +kernel)
theorem dX12_pivot_133 : decode cX12_pivot 133 = .ok (.invokevirtual 443, 3) := dk_182 (by decide +kernel)
theorem dX12_pivot_136 : decode cX12_pivot 136 = .ok (.aload_n 0, 1) := dk_42 (by decide +kernel)
theorem dX12_pivot_137 : decode cX12_pivot 137 = .ok (.bipush 25, 2) := dk_16 (by decide +kernel)
theorem dX12_pivot_139 : decode cX12_pivot 139 = .ok (.bipush 26, 2) := dk_16 (by decide +kernel)
theorem dX12_pivot_141 : decode cX12_pivot 141 = .ok (.bipush 24, 2) := dk_16 (by decide +kernel)
theorem dX12_pivot_143 : decode cX12_pivot 143 = .ok (.bipush 20, 2) := dk_16 (by decide +kernel)
theorem dX12_pivot_145 : decode cX12_pivot 145 = .ok (.invokevirtual 383, 3) := dk_182 (by decide +kernel)
theorem dX12_pivot_148 : decode cX12_pivot 148 = .ok (.aload_n 0, 1) := dk_42 (by decide +kernel)
theorem dX12_pivot_149 : decode cX12_pivot 149 = .ok (.aload_n 0, 1) := dk_42 (by decide +kernel)
theorem dX12_pivot_150 : decode cX12_pivot 150 = .ok (.iload 5, 2) := dk_21 (by decide +kernel)
theorem dX12_pivot_152 : decode cX12_pivot 152 = .ok (.iload 6, 2) := dk_21 (by decide +kernel)
theorem dX12_pivot_154 : decode cX12_pivot 154 = .ok (.invokevirtual 405, 3) := dk_182 (by decide +kernel)
theorem dX12_pivot_157 : decode cX12_pivot 157 = .ok (.bipush 25, 2) := dk_16 (by decide +kernel)
theorem dX12_pivot_159 : decode cX12_pivot 159 = .ok (.invokevirtual 365, 3) := dk_182 (by decide +kernel)
theorem dX12_pivot_162 : decode cX12_pivot 162 = .ok (.iload 4, 2) := dk_21 (by decide +kernel)
theorem dX12_pivot_164 : decode cX12_pivot 164 = .ok (.ifCond .ge 15, 3) := dk_156 (by decide +kernel)
theorem dX12_pivot_167 : decode cX12_pivot 167 = .ok (.aload_n 0, 1) := dk_42 (by decide +kernel)
theorem dX12_pivot_168 : decode cX12_pivot 168 = .ok (.aload_n 0, 1) := dk_42 (by decide +kernel)
theorem dX12_pivot_169 : decode cX12_pivot 169 = .ok (.iload 5, 2) := dk_21 (by decide +kernel)
theorem dX12_pivot_171 : decode cX12_pivot 171 = .ok (.iload 6, 2) := dk_21 (by decide +kernel)
theorem dX12_pivot_173 : decode cX12_pivot 173 = .ok (.invokevirtual 405, 3) := dk_182 (by decide +kernel)
theorem dX12_pivot_176 : decode cX12_pivot 176 = .ok (.invokevirtual 379, 3) := dk_182 (by decide +kernel)
theorem dX12_pivot_179 : decode cX12_pivot 179 = .ok (.iinc 6 1, 3) := dk_132 (by decide +kernel)
theorem dX12_pivot_182 : decode cX12_pivot 182 = .ok (.goto (-111), 3) := dk_167 (by decide +kernel)
theorem dX12_pivot_185 : decode cX12_pivot 185 = .ok (.iload 4, 2) := dk_21 (by decide +kernel)
theorem dX12_pivot_187 : decode cX12_pivot 187 = .ok (.ifCond .le 14, 3) := dk_158 (by decide +kernel)
theorem dX12_pivot_190 : decode cX12_pivot 190 = .ok (.aload_n 0, 1) := dk_42 (by decide +kernel)
theorem dX12_pivot_191 : decode cX12_pivot 191 = .ok (.aload_n 0, 1) := dk_42 (by decide +kernel)
theorem dX12_pivot_192 : decode cX12_pivot 192 = .ok (.iload 5, 2) := dk_21 (by decide +kernel)
theorem dX12_pivot_194 : decode cX12_pivot 194 = .ok (.iload_n 2, 1) := dk_28 (by decide +kernel)
theorem dX12_pivot_195 : decode cX12_pivot 195 = .ok (.invokevirtual 405, 3) := dk_182 (by decide +kernel)
theorem dX12_pivot_198 : decode cX12_pivot 198 = .ok (.invokevirtual 379, 3) := dk_182 (by decide +kernel)
theorem dX12_pivot_201 : decode cX12_pivot 201 = .ok (.iinc 5 1, 3) := dk_132 (by decide +kernel)
theorem dX12_pivot_204 : decode cX12_pivot 204 = .ok (.goto (-159), 3) := dk_167 (by decide +kernel)
theorem dX12_pivot_207 : decode cX12_pivot 207 = .ok (.iconst 0, 1) := dk_3 (by decide +kernel)
theorem dX12_pivot_208 : decode cX12_pivot 208 = .ok (.istore 5, 2) := dk_54 (by decide +kernel)
theorem dX12_pivot_210 : decode cX12_pivot 210 = .ok (.iload 5, 2) := dk_21 (by decide +kernel)
theorem dX12_pivot_212 : decode cX12_pivot 212 = .ok (.aload_n 0, 1) := dk_42 (by decide +kernel)
theorem dX12_pivot_213 : decode cX12_pivot 213 = .ok (.getfield 396, 3) := dk_180 (by decide +kernel)
theorem dX12_pivot_216 : decode cX12_pivot 216 = .ok (.if_icmp .gt 31, 3) := dk_163 (by decide +kernel)
theorem dX12_pivot_219 : decode cX12_pivot 219 = .ok (.iload 4, 2) := dk_21 (by decide +kernel)
theorem dX12_pivot_221 : decode cX12_pivot 221 = .ok (.ifCond .ge 26, 3) := dk_156 (by decide +kernel)
theorem dX12_pivot_224 : decode cX12_pivot 224 = .ok (.iload 5, 2) := dk_21 (by decide +kernel)
theorem dX12_pivot_226 : decode cX12_pivot 226 = .ok (.iload_n 2, 1) := dk_28 (by decide +kernel)
theorem dX12_pivot_227 : decode cX12_pivot 227 = .ok (.if_icmp .eq 14, 3) := dk_159 (by decide +kernel)
theorem dX12_pivot_230 : decode cX12_pivot 230 = .ok (.aload_n 0, 1) := dk_42 (by decide +kernel)
theorem dX12_pivot_231 : decode cX12_pivot 231 = .ok (.aload_n 0, 1) := dk_42 (by decide +kernel)
theorem dX12_pivot_232 : decode cX12_pivot 232 = .ok (.iload_n 1, 1) := dk_27 (by decide +kernel)
theorem dX12_pivot_233 : decode cX12_pivot 233 = .ok (.iload 5, 2) := dk_21 (by decide +kernel)
theorem dX12_pivot_235 : decode cX12_pivot 235 = .ok (.invokevirtual 405, 3) := dk_182 (by decide +kernel)
theorem dX12_pivot_238 : decode cX12_pivot 238 = .ok (.invokevirtual 379, 3) := dk_182 (by decide +kernel)
theorem dX12_pivot_241 : decode cX12_pivot 241 = .ok (.iinc 5 1, 3) := dk_132 (by decide +kernel)
theorem dX12_pivot_244 : decode cX12_pivot 244 = .ok (.goto (-34), 3) := dk_167 (by decide +kernel)
theorem dX12_pivot_247 : decode cX12_pivot 247 = .ok (.aload_n 0, 1) := dk_42 (by decide +kernel)
theorem dX12_pivot_248 : decode cX12_pivot 248 = .ok (.iload_n 3, 1) := dk_29 (by decide +kernel)
theorem dX12_pivot_249 : decode cX12_pivot 249 = .ok (.bipush 20, 2) := dk_16 (by decide +kernel)
theorem dX12_pivot_251 : decode cX12_pivot 251 = .ok (.invokevirtual 365, 3) := dk_182 (by decide +kernel)
theorem dX12_pivot_254 : decode cX12_pivot 254 = .ok (.iload 4, 2) := dk_21 (by decide +kernel)
theorem dX12_pivot_256 : decode cX12_pivot 256 = .ok (.ifCond .ge 8, 3) := dk_156 (by decide +kernel)
theorem dX12_pivot_259 : decode cX12_pivot 259 = .ok (.aload_n 0, 1) := dk_42 (by decide +kernel)
theorem dX12_pivot_260 : decode cX12_pivot 260 = .ok (.iload_n 3, 1) := dk_29 (by decide +kernel)
theorem dX12_pivot_261 : decode cX12_pivot 261 = .ok (.invokevirtual 379, 3) := dk_182 (by decide +kernel)
theorem dX12_pivot_264 : decode cX12_pivot 264 = .ok (.aload_n 0, 1) := dk_42 (by decide +kernel)
theorem dX12_pivot_265 : decode cX12_pivot 265 = .ok (.bipush 20, 2) := dk_16 (by decide +kernel)
theorem dX12_pivot_267 : decode cX12_pivot 267 = .ok (.bipush 21, 2) := dk_16 (by decide +kernel)
theorem dX12_pivot_269 : decode cX12_pivot 269 = .ok (.invokevirtual 365, 3) := dk_182 (by decide +kernel)
theorem dX12_pivot_272 : decode cX12_pivot 272 = .ok (.iload 4, 2) := dk_21 (by decide +kernel)
theorem dX12_pivot_274 : decode cX12_pivot 274 = .ok (.ifCond .ge 9, 3) := dk_156 (by decide +kernel)
theorem dX12_pivot_277 : decode cX12_pivot 277 = .ok (.aload_n 0, 1) := dk_42 (by decide +kernel)
theorem dX12_pivot_278 : decode cX12_pivot 278 = .ok (.bipush 20, 2) := dk_16 (by decide +kernel)
theorem dX12_pivot_280 : decode cX12_pivot 280 = .ok (.invokevirtual 379, 3) := dk_182 (by decide +kernel)
theorem dX12_pivot_283 : decode cX12_pivot 283 = .ok (.aload_n 0, 1) := dk_42 (by decide +kernel)
theorem dX12_pivot_284 : decode cX12_pivot 284 = .ok (.iload_n 1, 1) := dk_27 (by decide +kernel)
theorem dX12_pivot_285 : decode cX12_pivot 285 = .ok (.iload_n 2, 1) := dk_28 (by decide +kernel)
theorem dX12_pivot_286 : decode cX12_pivot 286 = .ok (.invokevirtual 433, 3) := dk_182 (by decide +kernel)
theorem dX12_pivot_289 : decode cX12_pivot 289 = .ok (.return_, 1) := dk_177 (by decide +kernel)
def wsRX12_pivot : List Cond := .code yX12_pivot cX12_pivot 7 none :: ([.fieldLink RX12 414 "OptimaWorksModel" "quick" "Z", .fieldLink RX12 399 "OptimaWorksModel" "rows" "I", .fieldLink RX12 402 "OptimaWorksModel" "goals" "I", .fieldLink RX12 396 "OptimaWorksModel" "columns" "I"] ++ wsX120 ++ (wsV RX12 436 RX12 yX12_pivotsQuick wsRX12_pivotsQuick) ++ (wsV RX12 440 RX12 yX12_spill wsRX12_spill) ++ (wsV RX12 405 RX12 yX12_at wsRX12_at) ++ (wsV RX12 353 RX12 yX12_sign wsRX12_sign) ++ (wsV RX12 365 RX12 yX12_copy wsRX12_copy) ++ (wsV RX12 379 RX12 yX12_turn wsRX12_turn) ++ (wsV RX12 433 RX12 yX12_exchange wsRX12_exchange) ++ (wsV RX12 390 RX12 yX12_times wsRX12_times) ++ (wsV RX12 443 RX12 yX12_add wsRX12_add) ++ (wsV RX12 383 RX12 yX12_divide wsRX12_divide))
theorem iwsRX12_pivot_in12 : ∀ w ∈ wsX120, w ∈ wsRX12_pivot := fun _ h => List.mem_cons_of_mem _ (List.mem_append_left _ (List.mem_append_left _ (List.mem_append_left _ (List.mem_append_left _ (List.mem_append_left _ (List.mem_append_left _ (List.mem_append_left _ (List.mem_append_left _ (List.mem_append_left _ (List.mem_append_left _ (List.mem_append_right _ h)))))))))))
theorem gwsRX12_pivot_0 : GoodIn wsRX12_pivot (wsV RX12 436 RX12 yX12_pivotsQuick wsRX12_pivotsQuick) := goodIn_sub (fun _ h => List.mem_cons_of_mem _ (List.mem_append_left _ (List.mem_append_left _ (List.mem_append_left _ (List.mem_append_left _ (List.mem_append_left _ (List.mem_append_left _ (List.mem_append_left _ (List.mem_append_left _ (List.mem_append_left _ (List.mem_append_right _ h))))))))))) (gdV (by decide +kernel) gdwsRX12_pivotsQuick)
theorem gwsRX12_pivot_1 : GoodIn wsRX12_pivot (wsV RX12 440 RX12 yX12_spill wsRX12_spill) := goodIn_sub (fun _ h => List.mem_cons_of_mem _ (List.mem_append_left _ (List.mem_append_left _ (List.mem_append_left _ (List.mem_append_left _ (List.mem_append_left _ (List.mem_append_left _ (List.mem_append_left _ (List.mem_append_left _ (List.mem_append_right _ h)))))))))) (gdV (by decide +kernel) gdwsRX12_spill)
theorem gwsRX12_pivot_2 : GoodIn wsRX12_pivot (wsV RX12 405 RX12 yX12_at wsRX12_at) := goodIn_sub (fun _ h => List.mem_cons_of_mem _ (List.mem_append_left _ (List.mem_append_left _ (List.mem_append_left _ (List.mem_append_left _ (List.mem_append_left _ (List.mem_append_left _ (List.mem_append_left _ (List.mem_append_right _ h))))))))) (gdV (by decide +kernel) gdwsRX12_at)
theorem gwsRX12_pivot_3 : GoodIn wsRX12_pivot (wsV RX12 353 RX12 yX12_sign wsRX12_sign) := goodIn_sub (fun _ h => List.mem_cons_of_mem _ (List.mem_append_left _ (List.mem_append_left _ (List.mem_append_left _ (List.mem_append_left _ (List.mem_append_left _ (List.mem_append_left _ (List.mem_append_right _ h)))))))) (gdV (by decide +kernel) gdwsRX12_sign)
theorem gwsRX12_pivot_4 : GoodIn wsRX12_pivot (wsV RX12 365 RX12 yX12_copy wsRX12_copy) := goodIn_sub (fun _ h => List.mem_cons_of_mem _ (List.mem_append_left _ (List.mem_append_left _ (List.mem_append_left _ (List.mem_append_left _ (List.mem_append_left _ (List.mem_append_right _ h))))))) (gdV (by decide +kernel) gdwsRX12_copy)
theorem gwsRX12_pivot_5 : GoodIn wsRX12_pivot (wsV RX12 379 RX12 yX12_turn wsRX12_turn) := goodIn_sub (fun _ h => List.mem_cons_of_mem _ (List.mem_append_left _ (List.mem_append_left _ (List.mem_append_left _ (List.mem_append_left _ (List.mem_append_right _ h)))))) (gdV (by decide +kernel) gdwsRX12_turn)
theorem gwsRX12_pivot_6 : GoodIn wsRX12_pivot (wsV RX12 433 RX12 yX12_exchange wsRX12_exchange) := goodIn_sub (fun _ h => List.mem_cons_of_mem _ (List.mem_append_left _ (List.mem_append_left _ (List.mem_append_left _ (List.mem_append_right _ h))))) (gdV (by decide +kernel) gdwsRX12_exchange)
theorem gwsRX12_pivot_7 : GoodIn wsRX12_pivot (wsV RX12 390 RX12 yX12_times wsRX12_times) := goodIn_sub (fun _ h => List.mem_cons_of_mem _ (List.mem_append_left _ (List.mem_append_left _ (List.mem_append_right _ h)))) (gdV (by decide +kernel) gdwsRX12_times)
theorem gwsRX12_pivot_8 : GoodIn wsRX12_pivot (wsV RX12 443 RX12 yX12_add wsRX12_add) := goodIn_sub (fun _ h => List.mem_cons_of_mem _ (List.mem_append_left _ (List.mem_append_right _ h))) (gdV (by decide +kernel) gdwsRX12_add)
theorem gwsRX12_pivot_9 : GoodIn wsRX12_pivot (wsV RX12 383 RX12 yX12_divide wsRX12_divide) := goodIn_sub (fun _ h => List.mem_cons_of_mem _ (List.mem_append_right _ h)) (gdV (by decide +kernel) gdwsRX12_divide)
theorem gdwsRX12_pivot : wsRX12_pivot.all goodWord = true := gdC rfl (gdA (gdA (gdA (gdA (gdA (gdA (gdA (gdA (gdA (gdA (gdA (by decide +kernel : ([.fieldLink RX12 414 "OptimaWorksModel" "quick" "Z", .fieldLink RX12 399 "OptimaWorksModel" "rows" "I", .fieldLink RX12 402 "OptimaWorksModel" "goals" "I", .fieldLink RX12 396 "OptimaWorksModel" "columns" "I"] : List Cond).all goodWord = true) gdwsX120) (gdV (by decide +kernel) gdwsRX12_pivotsQuick)) (gdV (by decide +kernel) gdwsRX12_spill)) (gdV (by decide +kernel) gdwsRX12_at)) (gdV (by decide +kernel) gdwsRX12_sign)) (gdV (by decide +kernel) gdwsRX12_copy)) (gdV (by decide +kernel) gdwsRX12_turn)) (gdV (by decide +kernel) gdwsRX12_exchange)) (gdV (by decide +kernel) gdwsRX12_times)) (gdV (by decide +kernel) gdwsRX12_add)) (gdV (by decide +kernel) gdwsRX12_divide))
set_option maxHeartbeats 4000000 in
set_option maxRecDepth 100000 in
/-- pivot(r, c) -/
theorem r_X12_pivot (l : Launch) (dC : Nat → ClassId) (dI : Nat → Nat → Nat) (a : Nat → Nat) (k : Nat → ClassId) (h0 : Nat) (vi : Nat → Int32) (vj : Nat → Int64) (vF : Nat → Nat → Int32) (vG : Nat → Nat → Int64) (rn : Nat) (cn : Nat) (C : Nat) (R : Nat) (Gq : Nat) (t : Nat → Nat → Int) (D : Int) (mg : Nat → Int) (hBg : Bg (vF 0) mg) (hC : vi 5 = nI C) (hR : vi 6 = nI R) (hG : vi 7 = nI Gq) (hC45 : 0 < C ∧ C ≤ 45) (hT60 : R + Gq < 60) (hsz : (R + Gq) * (C + 1) ≤ 970) (hT : Tab (vi 11) C (R + Gq) mg (vG 7) (vj 12) t D) (hrn : rn < R) (hcn : cn < C) (hDp : 0 < D) (hp0 : t rn cn ≠ 0) (hbd : ∀ i, i < R + Gq → ∀ j, j ≤ C → (t i j).natAbs < 2 ^ 294) (sz : Nat) : Met l yX12_pivot wsRX12_pivot ({ frames := 2, cells := 0, slots := 0, locals := 63 }) (va_Pc [.ref h0, .int (nI rn), .int (nI cn)] (fun U => U.heap.size = sz ∧ va_P (dC, dI) vwCl (WR a k h0 vi vj vF vG) U.heap ∧ va_K (dC, dI) vwCl (tX12 k) U ∧ va_D (fun _ => True) (WR a k h0 vi vj vF vG))) (va_Qv (fun (u : (Nat → Int32) × (Nat → Int32) × (Nat → Int32) × (Nat → Int64) × (Int32) × (Int64) × (Nat → Int64) × (Nat → Int64) × (Nat → Int)) => (Bg (u.1) (u.2.2.2.2.2.2.2.2)) ∧ (Tab (u.2.2.2.2.1) C (R + Gq) (u.2.2.2.2.2.2.2.2) (u.2.2.2.2.2.2.1) (u.2.2.2.2.2.1) (nvT rn cn (sgI (t rn cn)) t D) ((sgI (t rn cn)) * t rn cn)) ∧ (∀ q, (q < 20 ∨ (26 < q ∧ q < 30) ∨ 30 + (R + Gq) * (C + 1) ≤ q) → (u.2.2.2.2.2.2.2.2) q = mg q)) (fun (u : (Nat → Int32) × (Nat → Int32) × (Nat → Int32) × (Nat → Int64) × (Int32) × (Int64) × (Nat → Int64) × (Nat → Int64) × (Nat → Int)) t => va_P (dC, dI) vwCl (WR a k h0 (fT vi 11 (u.2.2.2.2.1)) (fT vj 12 (u.2.2.2.2.2.1)) (fT (fT (fT (fT (fT vF 0 (u.1)) 2 (u.2.1)) 3 (u.2.2.1)) 4 (upd (vF 4) (nI cn).toNatClampNeg (vF 5 rn))) 5 (upd (vF 5) (nI rn).toNatClampNeg (vF 4 cn))) (fT (fT (fT vG 8 (u.2.2.2.2.2.2.2.1)) 7 (u.2.2.2.2.2.2.1)) 1 (u.2.2.2.1))) t.heap ∧ va_D (va_A (WR a k h0 vi vj vF vG) sz) (WR a k h0 (fT vi 11 (u.2.2.2.2.1)) (fT vj 12 (u.2.2.2.2.2.1)) (fT (fT (fT (fT (fT vF 0 (u.1)) 2 (u.2.1)) 3 (u.2.2.1)) 4 (upd (vF 4) (nI cn).toNatClampNeg (vF 5 rn))) 5 (upd (vF 5) (nI rn).toNatClampNeg (vF 4 cn))) (fT (fT (fT vG 8 (u.2.2.2.2.2.2.2.1)) 7 (u.2.2.2.2.2.2.1)) 1 (u.2.2.2.1)))) (va_A (WR a k h0 vi vj vF vG) sz)) 0 0 (va_A (WR a k h0 vi vj vF vG) sz) := by
  refine Met.ofW (cc := cX12_pivot) (maxL := 7) (ret := none) (by decide) rfl ?_
  intro p e s m args below meth c s₁ B hml hv
  obtain ⟨rfl, hsz, hP, hK, hD0⟩ := hv
  have hx := B.exec
  have hb := B.bytes
  have hr := B.returns
  have hts := atoms_spec (ws := wsRX12_pivot) B.pre
  have hown : s.vm.findClass RX12 = some m.cls := findClass_of_methodNamed B.named
  have hlocks := B.notSynchronized
  subst hsz
  have hD := hD0.self (sz := s.heap.size)
  generalize hAe : va_A (WR a k h0 vi vj vF vG) s.heap.size = A at hD ⊢
  have hA : ∀ q : Nat, s.heap.size ≤ q → A q := fun q h => by rw [← hAe]; exact Or.inr h
  have hS : va_S A s.heap s.heap [] := va_S.rf
  have hl := lv_entry ([.ref h0, .int (nI rn), .int (nI cn)]) (n := 7) (Nat.le_of_ble_eq_true rfl)
  rw [lg_entry_eq]
  generalize (lg_sl ([.ref h0, .int (nI rn), .int (nI cn)]) ++ List.replicate (7 - (lg_sl ([.ref h0, .int (nI rn), .int (nI cn)])).length) Slot.unset).toArray = ls at hl ⊢
  have hl : lv_has ls 7 [(0, .ref h0), (1, .int (nI rn)), (2, .int (nI cn))] := hl
  have hprc := pl_lt (C := C) (show rn < R + Gq by omega) (show cn ≤ C by omega)
  refine lv_aload_n hx hb dX12_pivot_0 rfl (lv_at hl 0 rfl) ?_
  refine va_get (D := (dC, dI)) (ci := 12) (v := .int (vi 11)) (C := RX12) (T := TX12) (N := 163) (fs := fM (vS a vi vj)) hx hb hts iwsRX12_pivot_in12 hown hK hP 0 rfl rfl 11 (by decide) (hts (.fieldLink RX12 414 "OptimaWorksModel" "quick" "Z") (by decide +kernel)) (fun _ h9 => h9) rfl dX12_pivot_1 ?_
  refine W.cut (pc := 17) (fun H locs ls stk => ∃ (L80 : Nat → Int64),  stk = [] ∧ va_P (dC, dI) vwCl (WR a k h0 vi vj vF (fT vG 8 L80)) H ∧ va_D A (WR a k h0 vi vj vF (fT vG 8 L80)) ∧ va_S A s.heap H locs ∧ lv_has ls 7 [(0, .ref h0), (1, .int (nI rn)), (2, .int (nI cn))]) (fun join1 => ?_) ?_
  · refine lv_if_eq (tgt := 17) hx hb dX12_pivot_4 (by decide) (fun c_4 => ?_) (fun c_4 => ?_)
    · have t_4 : ((vi 11)).toInt = 0 := toI_eq c_4 rfl (by decide)
      have e9 : fT vG 8 (vG 8) = vG := by funext q9; by_cases h9_8 : q9 = 8; (subst h9_8; exact (fT_eq _ _ _).trans (Eq.trans (by first | rfl | assumption | (symm; assumption) | (subst_vars; rfl)) (Eq.refl _).symm)); exact (fT_ne _ _ h9_8).trans (Eq.refl _).symm
      have hP : va_P (dC, dI) vwCl (WR a k h0 vi vj vF (fT vG 8 (vG 8))) s.heap := by rw [e9]; exact hP
      have hD : va_D A (WR a k h0 vi vj vF (fT vG 8 (vG 8))) := by rw [e9]; exact hD
      clear e9
      have hl : lv_has _ _ ([(0, .ref h0), (1, .int (nI rn)), (2, .int (nI cn))]) := lv_sub hl [0, 1, 2] rfl
      exact join1 _ _ _ _ ⟨(vG 8), rfl, hP, hD, hS, hl⟩
    · have t_4 : ¬ ((vi 11)).toInt = 0 := toI_neq c_4 rfl (by decide)
      refine lv_aload_n hx hb dX12_pivot_7 rfl (lv_at hl 0 rfl) ?_
      refine lv_iload_n hx hb dX12_pivot_8 rfl (lv_at hl 1 rfl) ?_
      refine lv_iload_n hx hb dX12_pivot_9 rfl (lv_at hl 2 rfl) ?_
      have hFc := allFree hD hS hA
      refine va_calli (va_runV (As := [.int (nI rn), .int (nI cn)]) (rest := []) ⟨hx, hb, hml, hown, hts⟩ (r_X12_pivotsQuick l dC dI a k h0 vi vj vF vG rn cn C R Gq t D (by first | assumption | decide | omega | rfl) (by first | assumption | decide | omega | rfl) (by first | assumption | decide | omega | rfl) (by first | assumption | decide | omega | rfl) (by first | assumption | decide | omega | rfl) (by first | assumption | decide | omega | rfl) ((hT.q c_4).2) (by first | assumption | decide | omega | rfl) (by first | assumption | decide | omega | rfl) (by first | assumption | decide | omega | rfl) (by first | assumption | decide | omega | rfl) s.heap.size) (cwV 2 hts gwsRX12_pivot_0 rfl rfl rfl (by decide +kernel) ⟨by decide +kernel, by decide +kernel⟩) ⟨fun a U g mk q => by obtain ⟨q0, q1, qP, qK, qD⟩ := q; exact ⟨q0, q1, qP, va_K.moved (u := U) (U := U.calling g mk a) (Vm.Alike.refl U.vm) qK, qD⟩, va_recv hK hP (ci := 12) (q0 := 0) rfl rfl, fun U hU9 hW => ⟨rfl, by rw [hU9], by rw [hU9]; exact hP, va_K.moved hW.alike hK, hD.weaken (fun _ _ _ _ => trivial)⟩⟩ rfl rfl hl.1 rfl (lv_room (Nat.le_of_ble_eq_true rfl)) dX12_pivot_10 ⟨by decide +kernel, by decide +kernel⟩) hS (fun q _ h => hFc q h) hFc (fun r10 u t9_ H1 locs ht hvm hw9 hB9 hz1 hk1 hS => ?_)
      obtain ⟨qd10, F10, L810, f410, f510⟩ := u
      try dsimp only at hw9 hB9
      obtain ⟨hP1, hD1⟩ := hB9
      rw [ht] at hP1
      have hP := hP1
      have hD := hD1.weaken (fun _ q _ h => hFc q.1 h)
      generalize H1 = H at hP hS ⊢
      have hP : va_P (dC, dI) vwCl (WR a k h0 vi (fT vj 12 qd10) (fT (fT vF 4 f410) 5 f510) (fT (fT vG 8 L810) 7 F10)) H := hP
      have hD : va_D A (WR a k h0 vi (fT vj 12 qd10) (fT (fT vF 4 f410) 5 f510) (fT (fT vG 8 L810) 7 F10)) := hD
      rcases hw9 with ⟨rfl, rfl, rfl, rfl, rfl⟩ | ⟨rfl, f10_0, rfl, rfl⟩
      · refine lv_if_eq (tgt := 17) hx hb dX12_pivot_13 (by decide) (fun _ => ?_) (fun c9 => absurd (by decide) c9)
        have e9 : vj = fT vj 12 (vj 12) := by funext q9; by_cases h9_12 : q9 = 12; (subst h9_12; exact (Eq.refl _).trans (Eq.trans (by first | rfl | assumption | (symm; assumption) | (subst_vars; rfl)) (fT_eq _ _ _).symm)); exact (Eq.refl _).trans (fT_ne _ _ h9_12).symm
        have hP : va_P (dC, dI) vwCl (WR a k h0 vi vj (fT (fT vF 4 (vF 4)) 5 (vF 5)) (fT (fT vG 8 L810) 7 (vG 7))) H := by rw [e9]; exact hP
        have hD : va_D A (WR a k h0 vi vj (fT (fT vF 4 (vF 4)) 5 (vF 5)) (fT (fT vG 8 L810) 7 (vG 7))) := by rw [e9]; exact hD
        clear e9
        have e9 : vF = fT (fT vF 4 (vF 4)) 5 (vF 5) := by funext q9; by_cases h9_4 : q9 = 4; (subst h9_4; exact (Eq.refl _).trans (Eq.trans (by first | rfl | assumption | (symm; assumption) | (subst_vars; rfl)) ((fT_ne _ _ (Nat.ne_of_beq_eq_false rfl)).trans (fT_eq _ _ _)).symm)); by_cases h9_5 : q9 = 5; (subst h9_5; exact (Eq.refl _).trans (Eq.trans (by first | rfl | assumption | (symm; assumption) | (subst_vars; rfl)) (fT_eq _ _ _).symm)); exact (Eq.refl _).trans ((fT_ne _ _ h9_5).trans (fT_ne _ _ h9_4)).symm
        have hP : va_P (dC, dI) vwCl (WR a k h0 vi vj vF (fT (fT vG 8 L810) 7 (vG 7))) H := by rw [e9]; exact hP
        have hD : va_D A (WR a k h0 vi vj vF (fT (fT vG 8 L810) 7 (vG 7))) := by rw [e9]; exact hD
        clear e9
        have e9 : fT vG 8 L810 = fT (fT vG 8 L810) 7 (vG 7) := by funext q9; by_cases h9_8 : q9 = 8; (subst h9_8; exact (fT_eq _ _ _).trans (Eq.trans (by first | rfl | assumption | (symm; assumption) | (subst_vars; rfl)) ((fT_ne _ _ (Nat.ne_of_beq_eq_false rfl)).trans (fT_eq _ _ _)).symm)); by_cases h9_7 : q9 = 7; (subst h9_7; exact (fT_ne _ _ (Nat.ne_of_beq_eq_false rfl)).trans (Eq.trans (by first | rfl | assumption | (symm; assumption) | (subst_vars; rfl)) (fT_eq _ _ _).symm)); exact (fT_ne _ _ h9_8).trans ((fT_ne _ _ h9_7).trans (fT_ne _ _ h9_8)).symm
        have hP : va_P (dC, dI) vwCl (WR a k h0 vi vj vF (fT vG 8 L810)) H := by rw [e9]; exact hP
        have hD : va_D A (WR a k h0 vi vj vF (fT vG 8 L810)) := by rw [e9]; exact hD
        clear e9
        have hl : lv_has _ _ ([(0, .ref h0), (1, .int (nI rn)), (2, .int (nI cn))]) := lv_sub hl [0, 1, 2] rfl
        exact join1 _ _ _ _ ⟨L810, rfl, hP, hD, hS, hl⟩
      · refine lv_if_eq (tgt := 17) hx hb dX12_pivot_13 (by decide) (fun c9 => absurd c9 (by decide)) (fun _ => ?_)
        refine W.widen (k := 0) (n := 0) (by decide +kernel) (by decide +kernel) ?_
        have e9 : fT vi 11 (vi 11) = vi := fT_id _ _ (rfl)
        have hP : va_P (dC, dI) vwCl (WR a k h0 (fT vi 11 (vi 11)) (fT vj 12 qd10) (fT (fT vF 4 (upd (vF 4) (nI cn).toNatClampNeg (vF 5 rn))) 5 (upd (vF 5) (nI rn).toNatClampNeg (vF 4 cn))) (fT (fT vG 8 L810) 7 F10)) H := by rw [e9]; exact hP
        have hD : va_D A (WR a k h0 (fT vi 11 (vi 11)) (fT vj 12 qd10) (fT (fT vF 4 (upd (vF 4) (nI cn).toNatClampNeg (vF 5 rn))) 5 (upd (vF 5) (nI rn).toNatClampNeg (vF 4 cn))) (fT (fT vG 8 L810) 7 F10)) := by rw [e9]; exact hD
        clear e9
        have e9 : fT (fT (fT (fT (fT vF 0 (vF 0)) 2 (vF 2)) 3 (vF 3)) 4 (upd (vF 4) (nI cn).toNatClampNeg (vF 5 rn))) 5 (upd (vF 5) (nI rn).toNatClampNeg (vF 4 cn)) = fT (fT vF 4 (upd (vF 4) (nI cn).toNatClampNeg (vF 5 rn))) 5 (upd (vF 5) (nI rn).toNatClampNeg (vF 4 cn)) := by funext q9; by_cases h9_0 : q9 = 0; (subst h9_0; exact ((fT_ne _ _ (Nat.ne_of_beq_eq_false rfl)).trans ((fT_ne _ _ (Nat.ne_of_beq_eq_false rfl)).trans ((fT_ne _ _ (Nat.ne_of_beq_eq_false rfl)).trans ((fT_ne _ _ (Nat.ne_of_beq_eq_false rfl)).trans (fT_eq _ _ _))))).trans (Eq.trans (by first | rfl | assumption | (symm; assumption) | (subst_vars; rfl)) ((fT_ne _ _ (Nat.ne_of_beq_eq_false rfl)).trans (fT_ne _ _ (Nat.ne_of_beq_eq_false rfl))).symm)); by_cases h9_2 : q9 = 2; (subst h9_2; exact ((fT_ne _ _ (Nat.ne_of_beq_eq_false rfl)).trans ((fT_ne _ _ (Nat.ne_of_beq_eq_false rfl)).trans ((fT_ne _ _ (Nat.ne_of_beq_eq_false rfl)).trans (fT_eq _ _ _)))).trans (Eq.trans (by first | rfl | assumption | (symm; assumption) | (subst_vars; rfl)) ((fT_ne _ _ (Nat.ne_of_beq_eq_false rfl)).trans (fT_ne _ _ (Nat.ne_of_beq_eq_false rfl))).symm)); by_cases h9_3 : q9 = 3; (subst h9_3; exact ((fT_ne _ _ (Nat.ne_of_beq_eq_false rfl)).trans ((fT_ne _ _ (Nat.ne_of_beq_eq_false rfl)).trans (fT_eq _ _ _))).trans (Eq.trans (by first | rfl | assumption | (symm; assumption) | (subst_vars; rfl)) ((fT_ne _ _ (Nat.ne_of_beq_eq_false rfl)).trans (fT_ne _ _ (Nat.ne_of_beq_eq_false rfl))).symm)); by_cases h9_4 : q9 = 4; (subst h9_4; exact ((fT_ne _ _ (Nat.ne_of_beq_eq_false rfl)).trans (fT_eq _ _ _)).trans (Eq.trans (by first | rfl | assumption | (symm; assumption) | (subst_vars; rfl)) ((fT_ne _ _ (Nat.ne_of_beq_eq_false rfl)).trans (fT_eq _ _ _)).symm)); by_cases h9_5 : q9 = 5; (subst h9_5; exact (fT_eq _ _ _).trans (Eq.trans (by first | rfl | assumption | (symm; assumption) | (subst_vars; rfl)) (fT_eq _ _ _).symm)); exact ((fT_ne _ _ h9_5).trans ((fT_ne _ _ h9_4).trans ((fT_ne _ _ h9_3).trans ((fT_ne _ _ h9_2).trans (fT_ne _ _ h9_0))))).trans ((fT_ne _ _ h9_5).trans (fT_ne _ _ h9_4)).symm
        have hP : va_P (dC, dI) vwCl (WR a k h0 (fT vi 11 (vi 11)) (fT vj 12 qd10) (fT (fT (fT (fT (fT vF 0 (vF 0)) 2 (vF 2)) 3 (vF 3)) 4 (upd (vF 4) (nI cn).toNatClampNeg (vF 5 rn))) 5 (upd (vF 5) (nI rn).toNatClampNeg (vF 4 cn))) (fT (fT vG 8 L810) 7 F10)) H := by rw [e9]; exact hP
        have hD : va_D A (WR a k h0 (fT vi 11 (vi 11)) (fT vj 12 qd10) (fT (fT (fT (fT (fT vF 0 (vF 0)) 2 (vF 2)) 3 (vF 3)) 4 (upd (vF 4) (nI cn).toNatClampNeg (vF 5 rn))) 5 (upd (vF 5) (nI rn).toNatClampNeg (vF 4 cn))) (fT (fT vG 8 L810) 7 F10)) := by rw [e9]; exact hD
        clear e9
        have e9 : fT (fT (fT vG 8 L810) 7 F10) 1 (vG 1) = fT (fT vG 8 L810) 7 F10 := fT_id _ _ ((fT_ne _ _ (Nat.ne_of_beq_eq_false rfl)).trans (fT_ne _ _ (Nat.ne_of_beq_eq_false rfl)))
        have hP : va_P (dC, dI) vwCl (WR a k h0 (fT vi 11 (vi 11)) (fT vj 12 qd10) (fT (fT (fT (fT (fT vF 0 (vF 0)) 2 (vF 2)) 3 (vF 3)) 4 (upd (vF 4) (nI cn).toNatClampNeg (vF 5 rn))) 5 (upd (vF 5) (nI rn).toNatClampNeg (vF 4 cn))) (fT (fT (fT vG 8 L810) 7 F10) 1 (vG 1))) H := by rw [e9]; exact hP
        have hD : va_D A (WR a k h0 (fT vi 11 (vi 11)) (fT vj 12 qd10) (fT (fT (fT (fT (fT vF 0 (vF 0)) 2 (vF 2)) 3 (vF 3)) 4 (upd (vF 4) (nI cn).toNatClampNeg (vF 5 rn))) 5 (upd (vF 5) (nI rn).toNatClampNeg (vF 4 cn))) (fT (fT (fT vG 8 L810) 7 F10) 1 (vG 1))) := by rw [e9]; exact hD
        clear e9
        exact W.vret hx hb hr (fun t9_ ht hW => ⟨⟨((vF 0), (vF 2), (vF 3), (vG 1), (vi 11), qd10, F10, L810, mg), rfl, by (try dsimp only); exact ⟨hBg, Or.inr ⟨(hT.q c_4).1, f10_0⟩, fun q h => rfl⟩, by rw [ht]; exact hP, hD⟩, hS.F ht⟩) hS.2.2 dX12_pivot_16
  · rintro H locs ls stk ⟨L80, rfl, hP, hD, hS, hl⟩
    refine lv_aload_n hx hb dX12_pivot_17 rfl (lv_at hl 0 rfl) ?_
    have hFc := allFree hD hS hA
    refine va_callv (va_runV (As := []) (rest := []) ⟨hx, hb, hml, hown, hts⟩ (r_X12_spill l dC dI a k h0 vi vj vF (fT vG 8 L80) C R Gq t D mg hBg (by first | assumption | decide | omega | rfl) (by first | assumption | decide | omega | rfl) (by first | assumption | decide | omega | rfl) (by first | assumption | decide | omega | rfl) (by first | assumption | decide | omega | rfl) (by first | assumption | decide | omega | rfl) (hT) (by first | assumption | decide | omega | rfl) H.size) (cwV 0 hts gwsRX12_pivot_1 rfl rfl rfl (by decide +kernel) ⟨by decide +kernel, by decide +kernel⟩) ⟨fun a U g mk q => by obtain ⟨q0, q1, qP, qK, qD⟩ := q; exact ⟨q0, q1, qP, va_K.moved (u := U) (U := U.calling g mk a) (Vm.Alike.refl U.vm) qK, qD⟩, va_recv hK hP (ci := 12) (q0 := 0) rfl rfl, fun U hU9 hW => ⟨rfl, by rw [hU9], by rw [hU9]; exact hP, va_K.moved hW.alike hK, hD.weaken (fun _ _ _ _ => trivial)⟩⟩ rfl rfl hl.1 rfl (lv_room (Nat.le_of_ble_eq_true rfl)) dX12_pivot_18 ⟨by decide +kernel, by decide +kernel⟩) hS (fun q _ h => hFc q h) hFc (fun u t9_ H1 locs ht hvm hw9 hB9 hz1 hk1 hS => ?_)
    obtain ⟨g18, m218⟩ := u
    try dsimp only at hw9 hB9
    obtain ⟨hP1, hD1⟩ := hB9
    rw [ht] at hP1
    have hP := hP1
    have hD := hD1.weaken (fun _ q _ h => hFc q.1 h)
    generalize H1 = H at hP hS ⊢
    have hP : va_P (dC, dI) vwCl (WR a k h0 (fT vi 11 0) vj (fT vF 0 g18) (fT vG 8 L80)) H := hP
    have hD : va_D A (WR a k h0 (fT vi 11 0) vj (fT vF 0 g18) (fT vG 8 L80)) := hD
    obtain ⟨f18_0, f18_1, f18_2⟩ := hw9
    refine lv_aload_n hx hb dX12_pivot_21 rfl (lv_at hl 0 rfl) ?_
    refine lv_iload_n hx hb dX12_pivot_22 rfl (lv_at hl 1 rfl) ?_
    refine lv_iload_n hx hb dX12_pivot_23 rfl (lv_at hl 2 rfl) ?_
    have hFc := allFree hD hS hA
    refine va_calli (va_runV (As := [.int (nI rn), .int (nI cn)]) (rest := []) ⟨hx, hb, hml, hown, hts⟩ (r_X12_at l dC dI a k h0 (fT vi 11 0) vj (fT vF 0 g18) (fT vG 8 L80) rn cn C (by first | assumption | decide | omega | rfl) H.size) (cwV 2 hts gwsRX12_pivot_2 rfl rfl rfl (by decide +kernel) ⟨by decide +kernel, by decide +kernel⟩) ⟨fun a U g mk q => by obtain ⟨q0, q1, qP, qK, qD⟩ := q; exact ⟨q0, q1, qP, va_K.moved (u := U) (U := U.calling g mk a) (Vm.Alike.refl U.vm) qK, qD⟩, va_recv hK hP (ci := 12) (q0 := 0) rfl rfl, fun U hU9 hW => ⟨rfl, by rw [hU9], by rw [hU9]; exact hP, va_K.moved hW.alike hK, hD.weaken (fun _ _ _ _ => trivial)⟩⟩ rfl rfl hl.1 rfl (lv_room (Nat.le_of_ble_eq_true rfl)) dX12_pivot_24 ⟨by decide +kernel, by decide +kernel⟩) hS (fun q _ h => hFc q h) hFc (fun r24 u t9_ H1 locs ht hvm hw9 hB9 hz1 hk1 hS => ?_)
    obtain ⟨hP1, hD1⟩ := hB9
    rw [ht] at hP1
    have hP := hP1
    have hD := hD1.weaken (fun _ q _ h => hFc q.1 h)
    generalize H1 = H at hP hS ⊢
    have hP : va_P (dC, dI) vwCl (WR a k h0 (fT vi 11 0) vj (fT vF 0 g18) (fT vG 8 L80)) H := hP
    have hD : va_D A (WR a k h0 (fT vi 11 0) vj (fT vF 0 g18) (fT vG 8 L80)) := hD
    obtain rfl := hw9
    refine lv_istore_n hx hb dX12_pivot_27 rfl hl (by decide) rfl (fun ls (hl : lv_has ls _ ([(3, .int (nI (30 + rn * (C + 1) + cn))), (0, .ref h0), (1, .int (nI rn)), (2, .int (nI cn))])) => ?_)
    refine lv_aload_n hx hb dX12_pivot_28 rfl (lv_at hl 1 rfl) ?_
    refine lv_iload_n hx hb dX12_pivot_29 rfl (lv_at hl 0 rfl) ?_
    have hFc := allFree hD hS hA
    refine va_calli (va_runV (As := [.int (nI (30 + rn * (C + 1) + cn))]) (rest := []) ⟨hx, hb, hml, hown, hts⟩ (b_X12_sign l dC dI a k h0 (fT vi 11 0) vj (fT vF 0 g18) (fT vG 8 L80) (30 + rn * (C + 1) + cn) m218 f18_0 (t rn cn) (by rw [(f18_1.1 rn (by omega) cn (by omega))]) (by first | assumption | decide | omega | rfl) H.size) (cwV 1 hts gwsRX12_pivot_3 rfl rfl rfl (by decide +kernel) ⟨by decide +kernel, by decide +kernel⟩) ⟨fun a U g mk q => by obtain ⟨q0, q1, qP, qK, qD⟩ := q; exact ⟨q0, q1, qP, va_K.moved (u := U) (U := U.calling g mk a) (Vm.Alike.refl U.vm) qK, qD⟩, va_recv hK hP (ci := 12) (q0 := 0) rfl rfl, fun U hU9 hW => ⟨rfl, by rw [hU9], by rw [hU9]; exact hP, va_K.moved hW.alike hK, hD.weaken (fun _ _ _ _ => trivial)⟩⟩ rfl rfl hl.1 rfl (lv_room (Nat.le_of_ble_eq_true rfl)) dX12_pivot_30 ⟨by decide +kernel, by decide +kernel⟩) hS (fun q _ h => hFc q h) hFc (fun r30 u t9_ H1 locs ht hvm hw9 hB9 hz1 hk1 hS => ?_)
    obtain ⟨hP1, hD1⟩ := hB9
    rw [ht] at hP1
    have hP := hP1
    have hD := hD1.weaken (fun _ q _ h => hFc q.1 h)
    generalize H1 = H at hP hS ⊢
    have hP : va_P (dC, dI) vwCl (WR a k h0 (fT vi 11 0) vj (fT vF 0 g18) (fT vG 8 L80)) H := hP
    have hD : va_D A (WR a k h0 (fT vi 11 0) vj (fT vF 0 g18) (fT vG 8 L80)) := hD
    have f30_0 := hw9
    try dsimp only at f30_0
    refine lv_istore hx hb dX12_pivot_33 hl (by decide) rfl (fun ls (hl : lv_has ls _ ([(4, .int r30), (3, .int (nI (30 + rn * (C + 1) + cn))), (0, .ref h0), (1, .int (nI rn)), (2, .int (nI cn))])) => ?_)
    have hgs : ((r30).toInt = 1 ∧ (sgI (t rn cn)) = 1) ∨ ((r30).toInt = -1 ∧ (sgI (t rn cn)) = -1) := by rcases f30_0 with h9 | h9 | h9; (exact absurd h9.2 hp0); (exact Or.inl ⟨h9.1, sgI_p (by omega)⟩); (exact Or.inr ⟨h9.1, sgI_n (by omega)⟩)
    refine lv_aload_n hx hb dX12_pivot_35 rfl (lv_at hl 2 rfl) ?_
    refine lv_bipush (v := 21) hx hb dX12_pivot_36 (by decide) ?_
    refine lv_iload_n hx hb dX12_pivot_38 rfl (lv_at hl 1 rfl) ?_
    have hFc := allFree hD hS hA
    refine va_callv (va_runV (As := [.int 21, .int (nI (30 + rn * (C + 1) + cn))]) (rest := []) ⟨hx, hb, hml, hown, hts⟩ (b_X12_copy l dC dI a k h0 (fT vi 11 0) vj (fT vF 0 g18) (fT vG 8 L80) 21 (30 + rn * (C + 1) + cn) m218 f18_0 (t rn cn) (by rw [(f18_1.1 rn (by omega) cn (by omega))]) (by first | assumption | decide | omega | rfl) (by first | assumption | decide | omega | rfl) (by first | assumption | decide | omega | rfl) H.size) (cwV 2 hts gwsRX12_pivot_4 rfl rfl rfl (by decide +kernel) ⟨by decide +kernel, by decide +kernel⟩) ⟨fun a U g mk q => by obtain ⟨q0, q1, qP, qK, qD⟩ := q; exact ⟨q0, q1, qP, va_K.moved (u := U) (U := U.calling g mk a) (Vm.Alike.refl U.vm) qK, qD⟩, va_recv hK hP (ci := 12) (q0 := 0) rfl rfl, fun U hU9 hW => ⟨rfl, by rw [hU9], by rw [hU9]; exact hP, va_K.moved hW.alike hK, hD.weaken (fun _ _ _ _ => trivial)⟩⟩ rfl rfl hl.1 rfl (lv_room (Nat.le_of_ble_eq_true rfl)) dX12_pivot_39 ⟨by decide +kernel, by decide +kernel⟩) hS (fun q _ h => hFc q h) hFc (fun u t9_ H1 locs ht hvm hw9 hB9 hz1 hk1 hS => ?_)
    obtain ⟨g39, hwit39⟩ : ∃ w9, w9 = u := ⟨u, rfl⟩
    subst hwit39
    obtain ⟨hP1, hD1⟩ := hB9
    rw [ht] at hP1
    have hP := hP1
    have hD := hD1.weaken (fun _ q _ h => hFc q.1 h)
    generalize H1 = H at hP hS ⊢
    have hP : va_P (dC, dI) vwCl (WR a k h0 (fT vi 11 0) vj (fT (fT vF 0 g18) 0 g39) (fT vG 8 L80)) H := hP
    have hD : va_D A (WR a k h0 (fT vi 11 0) vj (fT (fT vF 0 g18) 0 g39) (fT vG 8 L80)) := hD
    have e9 : fT vF 0 g39 = fT (fT vF 0 g18) 0 g39 := (fT_sm _ _ _ _).symm
    rw [← e9] at hP hD
    clear e9
    have hP : va_P (dC, dI) vwCl (WR a k h0 (fT vi 11 0) vj (fT vF 0 g39) (fT vG 8 L80)) H := hP
    have hD : va_D A (WR a k h0 (fT vi 11 0) vj (fT vF 0 g39) (fT vG 8 L80)) := hD
    have f39_0 := hw9
    try dsimp only at f39_0
    refine lv_iconst (v := 0) hx hb dX12_pivot_42 (by decide) ?_
    refine lv_istore hx hb dX12_pivot_43 hl (by decide) rfl (fun ls (hl : lv_has ls _ ([(5, .int 0), (4, .int r30), (3, .int (nI (30 + rn * (C + 1) + cn))), (0, .ref h0), (1, .int (nI rn)), (2, .int (nI cn))])) => ?_)
    have e9 : fT (fT (fT vF 0 g39) 2 (vF 2)) 3 (vF 3) = fT vF 0 g39 := by funext q9; by_cases h9_0 : q9 = 0; (subst h9_0; exact ((fT_ne _ _ (Nat.ne_of_beq_eq_false rfl)).trans ((fT_ne _ _ (Nat.ne_of_beq_eq_false rfl)).trans (fT_eq _ _ _))).trans (Eq.trans (by first | rfl | assumption | (symm; assumption) | (subst_vars; rfl)) (fT_eq _ _ _).symm)); by_cases h9_2 : q9 = 2; (subst h9_2; exact ((fT_ne _ _ (Nat.ne_of_beq_eq_false rfl)).trans (fT_eq _ _ _)).trans (Eq.trans (by first | rfl | assumption | (symm; assumption) | (subst_vars; rfl)) (fT_ne _ _ (Nat.ne_of_beq_eq_false rfl)).symm)); by_cases h9_3 : q9 = 3; (subst h9_3; exact (fT_eq _ _ _).trans (Eq.trans (by first | rfl | assumption | (symm; assumption) | (subst_vars; rfl)) (fT_ne _ _ (Nat.ne_of_beq_eq_false rfl)).symm)); exact ((fT_ne _ _ h9_3).trans ((fT_ne _ _ h9_2).trans (fT_ne _ _ h9_0))).trans (fT_ne _ _ h9_0).symm
    have hP : va_P (dC, dI) vwCl (WR a k h0 (fT vi 11 0) vj (fT (fT (fT vF 0 g39) 2 (vF 2)) 3 (vF 3)) (fT vG 8 L80)) H := by rw [e9]; exact hP
    have hD : va_D A (WR a k h0 (fT vi 11 0) vj (fT (fT (fT vF 0 g39) 2 (vF 2)) 3 (vF 3)) (fT vG 8 L80)) := by rw [e9]; exact hD
    clear e9
    have e9 : fT (fT vG 8 L80) 1 (vG 1) = fT vG 8 L80 := by funext q9; by_cases h9_8 : q9 = 8; (subst h9_8; exact ((fT_ne _ _ (Nat.ne_of_beq_eq_false rfl)).trans (fT_eq _ _ _)).trans (Eq.trans (by first | rfl | assumption | (symm; assumption) | (subst_vars; rfl)) (fT_eq _ _ _).symm)); by_cases h9_1 : q9 = 1; (subst h9_1; exact (fT_eq _ _ _).trans (Eq.trans (by first | rfl | assumption | (symm; assumption) | (subst_vars; rfl)) (fT_ne _ _ (Nat.ne_of_beq_eq_false rfl)).symm)); exact ((fT_ne _ _ h9_1).trans (fT_ne _ _ h9_8)).trans (fT_ne _ _ h9_8).symm
    have hP : va_P (dC, dI) vwCl (WR a k h0 (fT vi 11 0) vj (fT (fT (fT vF 0 g39) 2 (vF 2)) 3 (vF 3)) (fT (fT vG 8 L80) 1 (vG 1))) H := by rw [e9]; exact hP
    have hD : va_D A (WR a k h0 (fT vi 11 0) vj (fT (fT (fT vF 0 g39) 2 (vF 2)) 3 (vF 3)) (fT (fT vG 8 L80) 1 (vG 1))) := by rw [e9]; exact hD
    clear e9
    have hl : lv_has _ _ ([(0, .ref h0), (1, .int (nI rn)), (2, .int (nI cn)), (3, .int (nI (30 + rn * (C + 1) + cn))), (4, .int r30), (5, .int (nI 0))]) := lv_sub hl [3, 4, 5, 2, 1, 0] rfl
    refine (fun (loop : ∀ (n9 : Nat) (i : Nat) (g1 : Nat → Int32) (f21 : Nat → Int32) (f31 : Nat → Int32) (gs1 : Nat → Int64) (m1 : Nat → Int) (H : Heap) (locs : List Loc) (ls : Array Slot), (Bg g1 m1) → (m1 21 = (t rn cn)) → (m1 20 = D) → (i ≤ R + Gq) → (∀ i2, i2 < (R + Gq) → ∀ j2, j2 ≤ C → m1 (30 + i2 * (C + 1) + j2) = if i2 < i ∧ i2 ≠ rn then nvT rn cn (sgI (t rn cn)) t D i2 j2 else t i2 j2) → (∀ q, (q < 20 ∨ (26 < q ∧ q < 30) ∨ 30 + (R + Gq) * (C + 1) ≤ q) → m1 q = mg q) →  (R + Gq < i + n9) → va_P (dC, dI) vwCl (WR a k h0 (fT vi 11 0) vj (fT (fT (fT vF 0 g1) 2 f21) 3 f31) (fT (fT vG 8 L80) 1 gs1)) H → va_D A (WR a k h0 (fT vi 11 0) vj (fT (fT (fT vF 0 g1) 2 f21) 3 f31) (fT (fT vG 8 L80) 1 gs1)) → va_S A s.heap H locs → lv_has ls 7 [(0, .ref h0), (1, .int (nI rn)), (2, .int (nI cn)), (3, .int (nI (30 + rn * (C + 1) + cn))), (4, .int r30), (5, .int (nI i))] → W p l e _ s m _ below meth c H locs 0 0 _ (F0 m 45 ls [])) => loop (R + Gq + 1) 0 g39 (vF 2) (vF 3) (vG 1) (fT m218 21 (t rn cn)) _ _ _ (f39_0) ((by rw [fT_eq])) ((by rw [fT_ne _ _ (by omega), f18_1.2])) (by omega) (fun i2 hi2 j2 hj2 => by rw [fT_ne _ _ (by omega), f18_1.1 i2 hi2 j2 hj2, if_neg (by omega)]) (fun q hq => by (rw [fT_ne _ _ (by omega), f18_2 _ (by omega) (by omega)])) (by omega) hP hD hS hl) ?_
    intro n9
    induction n9 with
    | zero => intro i g1 f21 f31 gs1 m1 H locs ls hB1 h21 h20 hi htab ho hf9; exact False.elim (by omega)
    | succ n9 ih45 =>
      intro i g1 f21 f31 gs1 m1 H locs ls hB1 h21 h20 hi htab ho hf45 hP hD hS hl
      refine lv_iload hx hb dX12_pivot_45 (lv_at hl 5 rfl) ?_
      refine lv_aload_n hx hb dX12_pivot_47 rfl (lv_at hl 0 rfl) ?_
      refine va_get (D := (dC, dI)) (ci := 12) (v := .int (vi 6)) (C := RX12) (T := TX12) (N := 163) (fs := fM (vS a (fT vi 11 0) vj)) hx hb hts iwsRX12_pivot_in12 hown hK hP 0 rfl rfl 6 (by decide) (hts (.fieldLink RX12 399 "OptimaWorksModel" "rows" "I") (by decide +kernel)) (fun _ h9 => h9) rfl dX12_pivot_48 ?_
      refine lv_topi (fun y1 hy1 => ?_)
      obtain rfl : (nI R) = y1 := (hy1.trans (hR)).symm
      refine lv_aload_n hx hb dX12_pivot_51 rfl (lv_at hl 0 rfl) ?_
      refine va_get (D := (dC, dI)) (ci := 12) (v := .int (vi 7)) (C := RX12) (T := TX12) (N := 163) (fs := fM (vS a (fT vi 11 0) vj)) hx hb hts iwsRX12_pivot_in12 hown hK hP 0 rfl rfl 7 (by decide) (hts (.fieldLink RX12 402 "OptimaWorksModel" "goals" "I") (by decide +kernel)) (fun _ h9 => h9) rfl dX12_pivot_52 ?_
      refine lv_topi (fun y2 hy2 => ?_)
      obtain rfl : (nI Gq) = y2 := (hy2.trans (hG)).symm
      refine lv_iadd hx hb dX12_pivot_55 ?_
      refine lv_topi (fun y3 hy3 => ?_)
      obtain rfl : (nI (R + Gq)) = y3 := (hy3.trans (nI_add R Gq)).symm
      refine lv_icmp_ge (tgt := 207) hx hb dX12_pivot_56 (by decide) (fun c_56 => ?_) (fun c_56 => ?_)
      · have t_56 : ((i : Nat) : Int) ≥ (((R + Gq) : Nat) : Int) := toI_ge c_56 (nI_toInt (by omega)) (nI_toInt (by omega))
        refine lv_iconst (v := 0) hx hb dX12_pivot_207 (by decide) ?_
        refine lv_istore hx hb dX12_pivot_208 hl (by decide) rfl (fun ls (hl : lv_has ls _ ([(5, .int 0), (0, .ref h0), (1, .int (nI rn)), (2, .int (nI cn)), (3, .int (nI (30 + rn * (C + 1) + cn))), (4, .int r30)])) => ?_)
        have hl : lv_has _ _ ([(0, .ref h0), (1, .int (nI rn)), (2, .int (nI cn)), (3, .int (nI (30 + rn * (C + 1) + cn))), (4, .int r30), (5, .int (nI 0))]) := lv_sub hl [1, 2, 3, 4, 5, 0] rfl
        refine (fun (loop : ∀ (n9 : Nat) (j : Nat) (g5 : Nat → Int32) (m5 : Nat → Int) (H : Heap) (locs : List Loc) (ls : Array Slot), (Bg g5 m5) → (m5 21 = (t rn cn)) → (m5 20 = D) → (j ≤ C + 1) → (j = 0 ∨ (sgI (t rn cn)) = -1) → (∀ i2, i2 < (R + Gq) → ∀ j2, j2 ≤ C → m5 (30 + i2 * (C + 1) + j2) = if i2 = rn then (if j2 < j ∧ j2 ≠ cn then (sgI (t rn cn)) * t rn j2 else t rn j2) else nvT rn cn (sgI (t rn cn)) t D i2 j2) → (∀ q, (q < 20 ∨ (26 < q ∧ q < 30) ∨ 30 + (R + Gq) * (C + 1) ≤ q) → m5 q = mg q) →  (C + 1 < j + n9) → va_P (dC, dI) vwCl (WR a k h0 (fT vi 11 0) vj (fT (fT (fT vF 0 g5) 2 f21) 3 f31) (fT (fT vG 8 L80) 1 gs1)) H → va_D A (WR a k h0 (fT vi 11 0) vj (fT (fT (fT vF 0 g5) 2 f21) 3 f31) (fT (fT vG 8 L80) 1 gs1)) → va_S A s.heap H locs → lv_has ls 7 [(0, .ref h0), (1, .int (nI rn)), (2, .int (nI cn)), (3, .int (nI (30 + rn * (C + 1) + cn))), (4, .int r30), (5, .int (nI j))] → W p l e _ s m _ below meth c H locs 0 0 _ (F0 m 210 ls [])) => loop (C + 2) 0 g1 m1 _ _ _ (hB1) ((by rw [h21])) ((by rw [h20])) (by omega) (Or.inl rfl) (fun i2 hi2 j2 hj2 => by rw [htab i2 hi2 j2 hj2]; by_cases e9 : i2 = rn; (rw [if_neg (by omega), if_pos e9, if_neg (by omega), e9]); (rw [if_pos (by omega), if_neg e9])) (ho) (by omega) hP hD hS hl) ?_
        intro n9
        induction n9 with
        | zero => intro j g5 m5 H locs ls hB5 h21c h20c hj5 hj0 htab5 ho5 hf9; exact False.elim (by omega)
        | succ n9 ih210_1 =>
          intro j g5 m5 H locs ls hB5 h21c h20c hj5 hj0 htab5 ho5 hf210_1 hP hD hS hl
          refine lv_iload hx hb dX12_pivot_210 (lv_at hl 5 rfl) ?_
          refine lv_aload_n hx hb dX12_pivot_212 rfl (lv_at hl 0 rfl) ?_
          refine va_get (D := (dC, dI)) (ci := 12) (v := .int (vi 5)) (C := RX12) (T := TX12) (N := 163) (fs := fM (vS a (fT vi 11 0) vj)) hx hb hts iwsRX12_pivot_in12 hown hK hP 0 rfl rfl 5 (by decide) (hts (.fieldLink RX12 396 "OptimaWorksModel" "columns" "I") (by decide +kernel)) (fun _ h9 => h9) rfl dX12_pivot_213 ?_
          refine lv_topi (fun y4 hy4 => ?_)
          obtain rfl : (nI C) = y4 := (hy4.trans (hC)).symm
          refine lv_icmp_gt (tgt := 247) hx hb dX12_pivot_216 (by decide) (fun c_216 => ?_) (fun c_216 => ?_)
          · have t_216 : ((j : Nat) : Int) > ((C : Nat) : Int) := toI_gt c_216 (nI_toInt (by omega)) (nI_toInt (by omega))
            refine lv_aload_n hx hb dX12_pivot_247 rfl (lv_at hl 0 rfl) ?_
            refine lv_iload_n hx hb dX12_pivot_248 rfl (lv_at hl 3 rfl) ?_
            refine lv_bipush (v := 20) hx hb dX12_pivot_249 (by decide) ?_
            have hFc := allFree hD hS hA
            refine va_callv (va_runV (As := [.int (nI (30 + rn * (C + 1) + cn)), .int 20]) (rest := []) ⟨hx, hb, hml, hown, hts⟩ (b_X12_copy l dC dI a k h0 (fT vi 11 0) vj (fT (fT (fT vF 0 g5) 2 f21) 3 f31) (fT (fT vG 8 L80) 1 gs1) (30 + rn * (C + 1) + cn) 20 m5 hB5 D (by rw [h20c]) (by first | assumption | decide | omega | rfl) (by first | assumption | decide | omega | rfl) (by first | assumption | decide | omega | rfl) H.size) (cwV 2 hts gwsRX12_pivot_4 rfl rfl rfl (by decide +kernel) ⟨by decide +kernel, by decide +kernel⟩) ⟨fun a U g mk q => by obtain ⟨q0, q1, qP, qK, qD⟩ := q; exact ⟨q0, q1, qP, va_K.moved (u := U) (U := U.calling g mk a) (Vm.Alike.refl U.vm) qK, qD⟩, va_recv hK hP (ci := 12) (q0 := 0) rfl rfl, fun U hU9 hW => ⟨rfl, by rw [hU9], by rw [hU9]; exact hP, va_K.moved hW.alike hK, hD.weaken (fun _ _ _ _ => trivial)⟩⟩ rfl rfl hl.1 rfl (lv_room (Nat.le_of_ble_eq_true rfl)) dX12_pivot_251 ⟨by decide +kernel, by decide +kernel⟩) hS (fun q _ h => hFc q h) hFc (fun u t9_ H1 locs ht hvm hw9 hB9 hz1 hk1 hS => ?_)
            obtain ⟨g251, hwit251⟩ : ∃ w9, w9 = u := ⟨u, rfl⟩
            subst hwit251
            obtain ⟨hP1, hD1⟩ := hB9
            rw [ht] at hP1
            have hP := hP1
            have hD := hD1.weaken (fun _ q _ h => hFc q.1 h)
            generalize H1 = H at hP hS ⊢
            have hP : va_P (dC, dI) vwCl (WR a k h0 (fT vi 11 0) vj (fT (fT (fT (fT vF 0 g5) 2 f21) 3 f31) 0 g251) (fT (fT vG 8 L80) 1 gs1)) H := hP
            have hD : va_D A (WR a k h0 (fT vi 11 0) vj (fT (fT (fT (fT vF 0 g5) 2 f21) 3 f31) 0 g251) (fT (fT vG 8 L80) 1 gs1)) := hD
            have e9 : fT (fT (fT vF 0 g251) 2 f21) 3 f31 = fT (fT (fT (fT vF 0 g5) 2 f21) 3 f31) 0 g251 := ((fT_sw _ _ _ (Nat.ne_of_beq_eq_false rfl)).trans (congrArg (fun g9 => fT g9 3 f31) ((fT_sw _ _ _ (Nat.ne_of_beq_eq_false rfl)).trans (congrArg (fun g9 => fT g9 2 f21) (fT_sm _ _ _ _))))).symm
            rw [← e9] at hP hD
            clear e9
            have hP : va_P (dC, dI) vwCl (WR a k h0 (fT vi 11 0) vj (fT (fT (fT vF 0 g251) 2 f21) 3 f31) (fT (fT vG 8 L80) 1 gs1)) H := hP
            have hD : va_D A (WR a k h0 (fT vi 11 0) vj (fT (fT (fT vF 0 g251) 2 f21) 3 f31) (fT (fT vG 8 L80) 1 gs1)) := hD
            have f251_0 := hw9
            try dsimp only at f251_0
            refine lv_iload hx hb dX12_pivot_254 (lv_at hl 4 rfl) ?_
            refine lv_if_ge (tgt := 264) hx hb dX12_pivot_256 (by decide) (fun c9 => False.elim (by have t9 : (r30).toInt ≥ 0 := toI_ge c9 rfl (by decide); omega)) (fun c_256 => ?_)
            have t_256 : ¬ (r30).toInt ≥ 0 := toI_nge c_256 rfl (by decide)
            refine lv_aload_n hx hb dX12_pivot_259 rfl (lv_at hl 0 rfl) ?_
            refine lv_iload_n hx hb dX12_pivot_260 rfl (lv_at hl 3 rfl) ?_
            have hFc := allFree hD hS hA
            refine va_callv (va_runV (As := [.int (nI (30 + rn * (C + 1) + cn))]) (rest := []) ⟨hx, hb, hml, hown, hts⟩ (b_X12_turn l dC dI a k h0 (fT vi 11 0) vj (fT (fT (fT vF 0 g251) 2 f21) 3 f31) (fT (fT vG 8 L80) 1 gs1) (30 + rn * (C + 1) + cn) (fT m5 (30 + rn * (C + 1) + cn) D) f251_0 D (by rw [fT_eq]) (by first | assumption | decide | omega | rfl) H.size) (cwV 1 hts gwsRX12_pivot_5 rfl rfl rfl (by decide +kernel) ⟨by decide +kernel, by decide +kernel⟩) ⟨fun a U g mk q => by obtain ⟨q0, q1, qP, qK, qD⟩ := q; exact ⟨q0, q1, qP, va_K.moved (u := U) (U := U.calling g mk a) (Vm.Alike.refl U.vm) qK, qD⟩, va_recv hK hP (ci := 12) (q0 := 0) rfl rfl, fun U hU9 hW => ⟨rfl, by rw [hU9], by rw [hU9]; exact hP, va_K.moved hW.alike hK, hD.weaken (fun _ _ _ _ => trivial)⟩⟩ rfl rfl hl.1 rfl (lv_room (Nat.le_of_ble_eq_true rfl)) dX12_pivot_261 ⟨by decide +kernel, by decide +kernel⟩) hS (fun q _ h => hFc q h) hFc (fun u t9_ H1 locs ht hvm hw9 hB9 hz1 hk1 hS => ?_)
            obtain ⟨hP1, hD1⟩ := hB9
            rw [ht] at hP1
            have hP := hP1
            have hD := hD1.weaken (fun _ q _ h => hFc q.1 h)
            generalize H1 = H at hP hS ⊢
            have hP : va_P (dC, dI) vwCl (WR a k h0 (fT vi 11 0) vj (fT (fT (fT (fT vF 0 g251) 2 f21) 3 f31) 0 (upd g251 (nI (24 * (30 + rn * (C + 1) + cn))).toNatClampNeg (-(g251 (24 * (30 + rn * (C + 1) + cn)))))) (fT (fT vG 8 L80) 1 gs1)) H := hP
            have hD : va_D A (WR a k h0 (fT vi 11 0) vj (fT (fT (fT (fT vF 0 g251) 2 f21) 3 f31) 0 (upd g251 (nI (24 * (30 + rn * (C + 1) + cn))).toNatClampNeg (-(g251 (24 * (30 + rn * (C + 1) + cn)))))) (fT (fT vG 8 L80) 1 gs1)) := hD
            have e9 : fT (fT (fT vF 0 (upd g251 (nI (24 * (30 + rn * (C + 1) + cn))).toNatClampNeg (-(g251 (24 * (30 + rn * (C + 1) + cn)))))) 2 f21) 3 f31 = fT (fT (fT (fT vF 0 g251) 2 f21) 3 f31) 0 (upd g251 (nI (24 * (30 + rn * (C + 1) + cn))).toNatClampNeg (-(g251 (24 * (30 + rn * (C + 1) + cn))))) := ((fT_sw _ _ _ (Nat.ne_of_beq_eq_false rfl)).trans (congrArg (fun g9 => fT g9 3 f31) ((fT_sw _ _ _ (Nat.ne_of_beq_eq_false rfl)).trans (congrArg (fun g9 => fT g9 2 f21) (fT_sm _ _ _ _))))).symm
            rw [← e9] at hP hD
            clear e9
            have hP : va_P (dC, dI) vwCl (WR a k h0 (fT vi 11 0) vj (fT (fT (fT vF 0 (upd g251 (nI (24 * (30 + rn * (C + 1) + cn))).toNatClampNeg (-(g251 (24 * (30 + rn * (C + 1) + cn)))))) 2 f21) 3 f31) (fT (fT vG 8 L80) 1 gs1)) H := hP
            have hD : va_D A (WR a k h0 (fT vi 11 0) vj (fT (fT (fT vF 0 (upd g251 (nI (24 * (30 + rn * (C + 1) + cn))).toNatClampNeg (-(g251 (24 * (30 + rn * (C + 1) + cn)))))) 2 f21) 3 f31) (fT (fT vG 8 L80) 1 gs1)) := hD
            have f261_0 := hw9
            try dsimp only at f261_0
            have f261_0 : Bg (upd g251 (nI (24 * (30 + rn * (C + 1) + cn))).toNatClampNeg (-(g251 (24 * (30 + rn * (C + 1) + cn))))) (fT (fT m5 (30 + rn * (C + 1) + cn) D) (30 + rn * (C + 1) + cn) (-D)) := f261_0
            refine lv_aload_n hx hb dX12_pivot_264 rfl (lv_at hl 0 rfl) ?_
            refine lv_bipush (v := 20) hx hb dX12_pivot_265 (by decide) ?_
            refine lv_bipush (v := 21) hx hb dX12_pivot_267 (by decide) ?_
            have hFc := allFree hD hS hA
            refine va_callv (va_runV (As := [.int 20, .int 21]) (rest := []) ⟨hx, hb, hml, hown, hts⟩ (b_X12_copy l dC dI a k h0 (fT vi 11 0) vj (fT (fT (fT vF 0 (upd g251 (nI (24 * (30 + rn * (C + 1) + cn))).toNatClampNeg (-(g251 (24 * (30 + rn * (C + 1) + cn)))))) 2 f21) 3 f31) (fT (fT vG 8 L80) 1 gs1) 20 21 (fT (fT m5 (30 + rn * (C + 1) + cn) D) (30 + rn * (C + 1) + cn) (-D)) f261_0 (t rn cn) (by rw [fT_ne _ _ (by omega), fT_ne _ _ (by omega), h21c]) (by first | assumption | decide | omega | rfl) (by first | assumption | decide | omega | rfl) (by first | assumption | decide | omega | rfl) H.size) (cwV 2 hts gwsRX12_pivot_4 rfl rfl rfl (by decide +kernel) ⟨by decide +kernel, by decide +kernel⟩) ⟨fun a U g mk q => by obtain ⟨q0, q1, qP, qK, qD⟩ := q; exact ⟨q0, q1, qP, va_K.moved (u := U) (U := U.calling g mk a) (Vm.Alike.refl U.vm) qK, qD⟩, va_recv hK hP (ci := 12) (q0 := 0) rfl rfl, fun U hU9 hW => ⟨rfl, by rw [hU9], by rw [hU9]; exact hP, va_K.moved hW.alike hK, hD.weaken (fun _ _ _ _ => trivial)⟩⟩ rfl rfl hl.1 rfl (lv_room (Nat.le_of_ble_eq_true rfl)) dX12_pivot_269 ⟨by decide +kernel, by decide +kernel⟩) hS (fun q _ h => hFc q h) hFc (fun u t9_ H1 locs ht hvm hw9 hB9 hz1 hk1 hS => ?_)
            obtain ⟨g269, hwit269⟩ : ∃ w9, w9 = u := ⟨u, rfl⟩
            subst hwit269
            obtain ⟨hP1, hD1⟩ := hB9
            rw [ht] at hP1
            have hP := hP1
            have hD := hD1.weaken (fun _ q _ h => hFc q.1 h)
            generalize H1 = H at hP hS ⊢
            have hP : va_P (dC, dI) vwCl (WR a k h0 (fT vi 11 0) vj (fT (fT (fT (fT vF 0 (upd g251 (nI (24 * (30 + rn * (C + 1) + cn))).toNatClampNeg (-(g251 (24 * (30 + rn * (C + 1) + cn)))))) 2 f21) 3 f31) 0 g269) (fT (fT vG 8 L80) 1 gs1)) H := hP
            have hD : va_D A (WR a k h0 (fT vi 11 0) vj (fT (fT (fT (fT vF 0 (upd g251 (nI (24 * (30 + rn * (C + 1) + cn))).toNatClampNeg (-(g251 (24 * (30 + rn * (C + 1) + cn)))))) 2 f21) 3 f31) 0 g269) (fT (fT vG 8 L80) 1 gs1)) := hD
            have e9 : fT (fT (fT vF 0 g269) 2 f21) 3 f31 = fT (fT (fT (fT vF 0 (upd g251 (nI (24 * (30 + rn * (C + 1) + cn))).toNatClampNeg (-(g251 (24 * (30 + rn * (C + 1) + cn)))))) 2 f21) 3 f31) 0 g269 := ((fT_sw _ _ _ (Nat.ne_of_beq_eq_false rfl)).trans (congrArg (fun g9 => fT g9 3 f31) ((fT_sw _ _ _ (Nat.ne_of_beq_eq_false rfl)).trans (congrArg (fun g9 => fT g9 2 f21) (fT_sm _ _ _ _))))).symm
            rw [← e9] at hP hD
            clear e9
            have hP : va_P (dC, dI) vwCl (WR a k h0 (fT vi 11 0) vj (fT (fT (fT vF 0 g269) 2 f21) 3 f31) (fT (fT vG 8 L80) 1 gs1)) H := hP
            have hD : va_D A (WR a k h0 (fT vi 11 0) vj (fT (fT (fT vF 0 g269) 2 f21) 3 f31) (fT (fT vG 8 L80) 1 gs1)) := hD
            have f269_0 := hw9
            try dsimp only at f269_0
            refine lv_iload hx hb dX12_pivot_272 (lv_at hl 4 rfl) ?_
            refine lv_if_ge (tgt := 283) hx hb dX12_pivot_274 (by decide) (fun c9 => False.elim (by have t9 : (r30).toInt ≥ 0 := toI_ge c9 rfl (by decide); omega)) (fun c_274 => ?_)
            have t_274 : ¬ (r30).toInt ≥ 0 := toI_nge c_274 rfl (by decide)
            refine lv_aload_n hx hb dX12_pivot_277 rfl (lv_at hl 0 rfl) ?_
            refine lv_bipush (v := 20) hx hb dX12_pivot_278 (by decide) ?_
            have hFc := allFree hD hS hA
            refine va_callv (va_runV (As := [.int 20]) (rest := []) ⟨hx, hb, hml, hown, hts⟩ (b_X12_turn l dC dI a k h0 (fT vi 11 0) vj (fT (fT (fT vF 0 g269) 2 f21) 3 f31) (fT (fT vG 8 L80) 1 gs1) 20 (fT (fT (fT m5 (30 + rn * (C + 1) + cn) D) (30 + rn * (C + 1) + cn) (-D)) 20 (t rn cn)) f269_0 (t rn cn) (by rw [fT_eq]) (by first | assumption | decide | omega | rfl) H.size) (cwV 1 hts gwsRX12_pivot_5 rfl rfl rfl (by decide +kernel) ⟨by decide +kernel, by decide +kernel⟩) ⟨fun a U g mk q => by obtain ⟨q0, q1, qP, qK, qD⟩ := q; exact ⟨q0, q1, qP, va_K.moved (u := U) (U := U.calling g mk a) (Vm.Alike.refl U.vm) qK, qD⟩, va_recv hK hP (ci := 12) (q0 := 0) rfl rfl, fun U hU9 hW => ⟨rfl, by rw [hU9], by rw [hU9]; exact hP, va_K.moved hW.alike hK, hD.weaken (fun _ _ _ _ => trivial)⟩⟩ rfl rfl hl.1 rfl (lv_room (Nat.le_of_ble_eq_true rfl)) dX12_pivot_280 ⟨by decide +kernel, by decide +kernel⟩) hS (fun q _ h => hFc q h) hFc (fun u t9_ H1 locs ht hvm hw9 hB9 hz1 hk1 hS => ?_)
            obtain ⟨hP1, hD1⟩ := hB9
            rw [ht] at hP1
            have hP := hP1
            have hD := hD1.weaken (fun _ q _ h => hFc q.1 h)
            generalize H1 = H at hP hS ⊢
            have hP : va_P (dC, dI) vwCl (WR a k h0 (fT vi 11 0) vj (fT (fT (fT (fT vF 0 g269) 2 f21) 3 f31) 0 (upd g269 (nI (24 * 20)).toNatClampNeg (-(g269 (24 * 20))))) (fT (fT vG 8 L80) 1 gs1)) H := hP
            have hD : va_D A (WR a k h0 (fT vi 11 0) vj (fT (fT (fT (fT vF 0 g269) 2 f21) 3 f31) 0 (upd g269 (nI (24 * 20)).toNatClampNeg (-(g269 (24 * 20))))) (fT (fT vG 8 L80) 1 gs1)) := hD
            have e9 : fT (fT (fT vF 0 (upd g269 (nI (24 * 20)).toNatClampNeg (-(g269 (24 * 20))))) 2 f21) 3 f31 = fT (fT (fT (fT vF 0 g269) 2 f21) 3 f31) 0 (upd g269 (nI (24 * 20)).toNatClampNeg (-(g269 (24 * 20)))) := ((fT_sw _ _ _ (Nat.ne_of_beq_eq_false rfl)).trans (congrArg (fun g9 => fT g9 3 f31) ((fT_sw _ _ _ (Nat.ne_of_beq_eq_false rfl)).trans (congrArg (fun g9 => fT g9 2 f21) (fT_sm _ _ _ _))))).symm
            rw [← e9] at hP hD
            clear e9
            have hP : va_P (dC, dI) vwCl (WR a k h0 (fT vi 11 0) vj (fT (fT (fT vF 0 (upd g269 (nI (24 * 20)).toNatClampNeg (-(g269 (24 * 20))))) 2 f21) 3 f31) (fT (fT vG 8 L80) 1 gs1)) H := hP
            have hD : va_D A (WR a k h0 (fT vi 11 0) vj (fT (fT (fT vF 0 (upd g269 (nI (24 * 20)).toNatClampNeg (-(g269 (24 * 20))))) 2 f21) 3 f31) (fT (fT vG 8 L80) 1 gs1)) := hD
            have f280_0 := hw9
            try dsimp only at f280_0
            have f280_0 : Bg (upd g269 (nI (24 * 20)).toNatClampNeg (-(g269 (24 * 20)))) (fT (fT (fT (fT m5 (30 + rn * (C + 1) + cn) D) (30 + rn * (C + 1) + cn) (-D)) 20 (t rn cn)) 20 (-(t rn cn))) := f280_0
            refine lv_aload_n hx hb dX12_pivot_283 rfl (lv_at hl 0 rfl) ?_
            refine lv_iload_n hx hb dX12_pivot_284 rfl (lv_at hl 1 rfl) ?_
            refine lv_iload_n hx hb dX12_pivot_285 rfl (lv_at hl 2 rfl) ?_
            have hFc := allFree hD hS hA
            refine va_callv (va_runV (As := [.int (nI rn), .int (nI cn)]) (rest := []) ⟨hx, hb, hml, hown, hts⟩ (r_X12_exchange l dC dI a k h0 (fT vi 11 0) vj (fT (fT (fT vF 0 (upd g269 (nI (24 * 20)).toNatClampNeg (-(g269 (24 * 20))))) 2 f21) 3 f31) (fT (fT vG 8 L80) 1 gs1) rn cn (by first | assumption | decide | omega | rfl) (by first | assumption | decide | omega | rfl) H.size) (cwV 2 hts gwsRX12_pivot_6 rfl rfl rfl (by decide +kernel) ⟨by decide +kernel, by decide +kernel⟩) ⟨fun a U g mk q => by obtain ⟨q0, q1, qP, qK, qD⟩ := q; exact ⟨q0, q1, qP, va_K.moved (u := U) (U := U.calling g mk a) (Vm.Alike.refl U.vm) qK, qD⟩, va_recv hK hP (ci := 12) (q0 := 0) rfl rfl, fun U hU9 hW => ⟨rfl, by rw [hU9], by rw [hU9]; exact hP, va_K.moved hW.alike hK, hD.weaken (fun _ _ _ _ => trivial)⟩⟩ rfl rfl hl.1 rfl (lv_room (Nat.le_of_ble_eq_true rfl)) dX12_pivot_286 ⟨by decide +kernel, by decide +kernel⟩) hS (fun q _ h => hFc q h) hFc (fun u t9_ H1 locs ht hvm hw9 hB9 hz1 hk1 hS => ?_)
            obtain ⟨hP1, hD1⟩ := hB9
            rw [ht] at hP1
            have hP := hP1
            have hD := hD1.weaken (fun _ q _ h => hFc q.1 h)
            generalize H1 = H at hP hS ⊢
            have hP : va_P (dC, dI) vwCl (WR a k h0 (fT vi 11 0) vj (fT (fT (fT (fT (fT vF 0 (upd g269 (nI (24 * 20)).toNatClampNeg (-(g269 (24 * 20))))) 2 f21) 3 f31) 4 (upd (vF 4) (nI cn).toNatClampNeg ((vF 5) rn))) 5 (upd (vF 5) (nI rn).toNatClampNeg ((vF 4) cn))) (fT (fT vG 8 L80) 1 gs1)) H := hP
            have hD : va_D A (WR a k h0 (fT vi 11 0) vj (fT (fT (fT (fT (fT vF 0 (upd g269 (nI (24 * 20)).toNatClampNeg (-(g269 (24 * 20))))) 2 f21) 3 f31) 4 (upd (vF 4) (nI cn).toNatClampNeg ((vF 5) rn))) 5 (upd (vF 5) (nI rn).toNatClampNeg ((vF 4) cn))) (fT (fT vG 8 L80) 1 gs1)) := hD
            refine W.widen (k := 0) (n := 0) (by decide +kernel) (by decide +kernel) ?_
            have e9 : fT vj 12 (vj 12) = vj := fT_id _ _ (rfl)
            have hP : va_P (dC, dI) vwCl (WR a k h0 (fT vi 11 0) (fT vj 12 (vj 12)) (fT (fT (fT (fT (fT vF 0 (upd g269 (nI (24 * 20)).toNatClampNeg (-(g269 (24 * 20))))) 2 f21) 3 f31) 4 (upd (vF 4) (nI cn).toNatClampNeg ((vF 5) rn))) 5 (upd (vF 5) (nI rn).toNatClampNeg ((vF 4) cn))) (fT (fT vG 8 L80) 1 gs1)) H := by rw [e9]; exact hP
            have hD : va_D A (WR a k h0 (fT vi 11 0) (fT vj 12 (vj 12)) (fT (fT (fT (fT (fT vF 0 (upd g269 (nI (24 * 20)).toNatClampNeg (-(g269 (24 * 20))))) 2 f21) 3 f31) 4 (upd (vF 4) (nI cn).toNatClampNeg ((vF 5) rn))) 5 (upd (vF 5) (nI rn).toNatClampNeg ((vF 4) cn))) (fT (fT vG 8 L80) 1 gs1)) := by rw [e9]; exact hD
            clear e9
            have e9 : fT (fT (fT (fT (fT vF 0 (upd g269 (nI (24 * 20)).toNatClampNeg (-(g269 (24 * 20))))) 2 f21) 3 f31) 4 (upd (vF 4) (nI cn).toNatClampNeg (vF 5 rn))) 5 (upd (vF 5) (nI rn).toNatClampNeg (vF 4 cn)) = fT (fT (fT (fT (fT vF 0 (upd g269 (nI (24 * 20)).toNatClampNeg (-(g269 (24 * 20))))) 2 f21) 3 f31) 4 (upd (vF 4) (nI cn).toNatClampNeg ((vF 5) rn))) 5 (upd (vF 5) (nI rn).toNatClampNeg ((vF 4) cn)) := by funext q9; by_cases h9_0 : q9 = 0; (subst h9_0; exact ((fT_ne _ _ (Nat.ne_of_beq_eq_false rfl)).trans ((fT_ne _ _ (Nat.ne_of_beq_eq_false rfl)).trans ((fT_ne _ _ (Nat.ne_of_beq_eq_false rfl)).trans ((fT_ne _ _ (Nat.ne_of_beq_eq_false rfl)).trans (fT_eq _ _ _))))).trans (Eq.trans (by first | rfl | assumption | (symm; assumption) | (subst_vars; rfl)) ((fT_ne _ _ (Nat.ne_of_beq_eq_false rfl)).trans ((fT_ne _ _ (Nat.ne_of_beq_eq_false rfl)).trans ((fT_ne _ _ (Nat.ne_of_beq_eq_false rfl)).trans ((fT_ne _ _ (Nat.ne_of_beq_eq_false rfl)).trans (fT_eq _ _ _))))).symm)); by_cases h9_2 : q9 = 2; (subst h9_2; exact ((fT_ne _ _ (Nat.ne_of_beq_eq_false rfl)).trans ((fT_ne _ _ (Nat.ne_of_beq_eq_false rfl)).trans ((fT_ne _ _ (Nat.ne_of_beq_eq_false rfl)).trans (fT_eq _ _ _)))).trans (Eq.trans (by first | rfl | assumption | (symm; assumption) | (subst_vars; rfl)) ((fT_ne _ _ (Nat.ne_of_beq_eq_false rfl)).trans ((fT_ne _ _ (Nat.ne_of_beq_eq_false rfl)).trans ((fT_ne _ _ (Nat.ne_of_beq_eq_false rfl)).trans (fT_eq _ _ _)))).symm)); by_cases h9_3 : q9 = 3; (subst h9_3; exact ((fT_ne _ _ (Nat.ne_of_beq_eq_false rfl)).trans ((fT_ne _ _ (Nat.ne_of_beq_eq_false rfl)).trans (fT_eq _ _ _))).trans (Eq.trans (by first | rfl | assumption | (symm; assumption) | (subst_vars; rfl)) ((fT_ne _ _ (Nat.ne_of_beq_eq_false rfl)).trans ((fT_ne _ _ (Nat.ne_of_beq_eq_false rfl)).trans (fT_eq _ _ _))).symm)); by_cases h9_4 : q9 = 4; (subst h9_4; exact ((fT_ne _ _ (Nat.ne_of_beq_eq_false rfl)).trans (fT_eq _ _ _)).trans (Eq.trans (by first | rfl | assumption | (symm; assumption) | (subst_vars; rfl)) ((fT_ne _ _ (Nat.ne_of_beq_eq_false rfl)).trans (fT_eq _ _ _)).symm)); by_cases h9_5 : q9 = 5; (subst h9_5; exact (fT_eq _ _ _).trans (Eq.trans (by first | rfl | assumption | (symm; assumption) | (subst_vars; rfl)) (fT_eq _ _ _).symm)); exact ((fT_ne _ _ h9_5).trans ((fT_ne _ _ h9_4).trans ((fT_ne _ _ h9_3).trans ((fT_ne _ _ h9_2).trans (fT_ne _ _ h9_0))))).trans ((fT_ne _ _ h9_5).trans ((fT_ne _ _ h9_4).trans ((fT_ne _ _ h9_3).trans ((fT_ne _ _ h9_2).trans (fT_ne _ _ h9_0))))).symm
            have hP : va_P (dC, dI) vwCl (WR a k h0 (fT vi 11 0) (fT vj 12 (vj 12)) (fT (fT (fT (fT (fT vF 0 (upd g269 (nI (24 * 20)).toNatClampNeg (-(g269 (24 * 20))))) 2 f21) 3 f31) 4 (upd (vF 4) (nI cn).toNatClampNeg (vF 5 rn))) 5 (upd (vF 5) (nI rn).toNatClampNeg (vF 4 cn))) (fT (fT vG 8 L80) 1 gs1)) H := by rw [e9]; exact hP
            have hD : va_D A (WR a k h0 (fT vi 11 0) (fT vj 12 (vj 12)) (fT (fT (fT (fT (fT vF 0 (upd g269 (nI (24 * 20)).toNatClampNeg (-(g269 (24 * 20))))) 2 f21) 3 f31) 4 (upd (vF 4) (nI cn).toNatClampNeg (vF 5 rn))) 5 (upd (vF 5) (nI rn).toNatClampNeg (vF 4 cn))) (fT (fT vG 8 L80) 1 gs1)) := by rw [e9]; exact hD
            clear e9
            have e9 : fT (fT (fT vG 8 L80) 7 (vG 7)) 1 gs1 = fT (fT vG 8 L80) 1 gs1 := by funext q9; by_cases h9_8 : q9 = 8; (subst h9_8; exact ((fT_ne _ _ (Nat.ne_of_beq_eq_false rfl)).trans ((fT_ne _ _ (Nat.ne_of_beq_eq_false rfl)).trans (fT_eq _ _ _))).trans (Eq.trans (by first | rfl | assumption | (symm; assumption) | (subst_vars; rfl)) ((fT_ne _ _ (Nat.ne_of_beq_eq_false rfl)).trans (fT_eq _ _ _)).symm)); by_cases h9_7 : q9 = 7; (subst h9_7; exact ((fT_ne _ _ (Nat.ne_of_beq_eq_false rfl)).trans (fT_eq _ _ _)).trans (Eq.trans (by first | rfl | assumption | (symm; assumption) | (subst_vars; rfl)) ((fT_ne _ _ (Nat.ne_of_beq_eq_false rfl)).trans (fT_ne _ _ (Nat.ne_of_beq_eq_false rfl))).symm)); by_cases h9_1 : q9 = 1; (subst h9_1; exact (fT_eq _ _ _).trans (Eq.trans (by first | rfl | assumption | (symm; assumption) | (subst_vars; rfl)) (fT_eq _ _ _).symm)); exact ((fT_ne _ _ h9_1).trans ((fT_ne _ _ h9_7).trans (fT_ne _ _ h9_8))).trans ((fT_ne _ _ h9_1).trans (fT_ne _ _ h9_8)).symm
            have hP : va_P (dC, dI) vwCl (WR a k h0 (fT vi 11 0) (fT vj 12 (vj 12)) (fT (fT (fT (fT (fT vF 0 (upd g269 (nI (24 * 20)).toNatClampNeg (-(g269 (24 * 20))))) 2 f21) 3 f31) 4 (upd (vF 4) (nI cn).toNatClampNeg (vF 5 rn))) 5 (upd (vF 5) (nI rn).toNatClampNeg (vF 4 cn))) (fT (fT (fT vG 8 L80) 7 (vG 7)) 1 gs1)) H := by rw [e9]; exact hP
            have hD : va_D A (WR a k h0 (fT vi 11 0) (fT vj 12 (vj 12)) (fT (fT (fT (fT (fT vF 0 (upd g269 (nI (24 * 20)).toNatClampNeg (-(g269 (24 * 20))))) 2 f21) 3 f31) 4 (upd (vF 4) (nI cn).toNatClampNeg (vF 5 rn))) 5 (upd (vF 5) (nI rn).toNatClampNeg (vF 4 cn))) (fT (fT (fT vG 8 L80) 7 (vG 7)) 1 gs1)) := by rw [e9]; exact hD
            clear e9
            exact W.vret hx hb hr (fun t9_ ht hW => ⟨⟨((upd g269 (nI (24 * 20)).toNatClampNeg (-(g269 (24 * 20)))), f21, f31, gs1, 0, (vj 12), (vG 7), L80, (fT (fT (fT (fT m5 (30 + rn * (C + 1) + cn) D) (30 + rn * (C + 1) + cn) (-D)) 20 (t rn cn)) 20 (-(t rn cn)))), rfl, by (try dsimp only); exact ⟨f280_0, Or.inl ⟨rfl, ⟨fun i2 hi2 j2 hj2 => by (have gx : (sgI (t rn cn)) = -1 := by omega); (rw [fT_ne _ _ (by omega), fT_ne _ _ (by omega)]); by_cases e9 : i2 = rn ∧ j2 = cn; (rw [e9.1, e9.2, fT_eq, nv_piv, gx]; omega); ((have n9 : 30 + i2 * (C + 1) + j2 ≠ 30 + rn * (C + 1) + cn := fun h => e9 (pl_inj hj2 (by omega) (by omega))); rw [fT_ne _ _ n9, fT_ne _ _ n9, htab5 i2 hi2 j2 hj2]; by_cases e8 : i2 = rn; (rw [if_pos e8, e8, nv_row _ _ _ _ _ (by omega), gx]; split <;> omega); (rw [if_neg e8])), by (have gx : (sgI (t rn cn)) = -1 := by omega); rw [fT_eq, gx]; omega⟩⟩, fun q hq => by (rw [fT_ne _ _ (by omega), fT_ne _ _ (by omega), fT_ne _ _ (by omega), fT_ne _ _ (by omega)]); exact ho5 q hq⟩, by rw [ht]; exact hP, hD⟩, hS.F ht⟩) hS.2.2 dX12_pivot_289
          · have t_216 : ¬ ((j : Nat) : Int) > ((C : Nat) : Int) := toI_ngt c_216 (nI_toInt (by omega)) (nI_toInt (by omega))
            refine lv_iload hx hb dX12_pivot_219 (lv_at hl 4 rfl) ?_
            refine lv_if_ge (tgt := 247) hx hb dX12_pivot_221 (by decide) (fun c_221 => ?_) (fun c_221 => ?_)
            · have t_221 : (r30).toInt ≥ 0 := toI_ge c_221 rfl (by decide)
              refine lv_aload_n hx hb dX12_pivot_247 rfl (lv_at hl 0 rfl) ?_
              refine lv_iload_n hx hb dX12_pivot_248 rfl (lv_at hl 3 rfl) ?_
              refine lv_bipush (v := 20) hx hb dX12_pivot_249 (by decide) ?_
              have hFc := allFree hD hS hA
              refine va_callv (va_runV (As := [.int (nI (30 + rn * (C + 1) + cn)), .int 20]) (rest := []) ⟨hx, hb, hml, hown, hts⟩ (b_X12_copy l dC dI a k h0 (fT vi 11 0) vj (fT (fT (fT vF 0 g5) 2 f21) 3 f31) (fT (fT vG 8 L80) 1 gs1) (30 + rn * (C + 1) + cn) 20 m5 hB5 D (by rw [h20c]) (by first | assumption | decide | omega | rfl) (by first | assumption | decide | omega | rfl) (by first | assumption | decide | omega | rfl) H.size) (cwV 2 hts gwsRX12_pivot_4 rfl rfl rfl (by decide +kernel) ⟨by decide +kernel, by decide +kernel⟩) ⟨fun a U g mk q => by obtain ⟨q0, q1, qP, qK, qD⟩ := q; exact ⟨q0, q1, qP, va_K.moved (u := U) (U := U.calling g mk a) (Vm.Alike.refl U.vm) qK, qD⟩, va_recv hK hP (ci := 12) (q0 := 0) rfl rfl, fun U hU9 hW => ⟨rfl, by rw [hU9], by rw [hU9]; exact hP, va_K.moved hW.alike hK, hD.weaken (fun _ _ _ _ => trivial)⟩⟩ rfl rfl hl.1 rfl (lv_room (Nat.le_of_ble_eq_true rfl)) dX12_pivot_251 ⟨by decide +kernel, by decide +kernel⟩) hS (fun q _ h => hFc q h) hFc (fun u t9_ H1 locs ht hvm hw9 hB9 hz1 hk1 hS => ?_)
              obtain ⟨g251_1, hwit251_1⟩ : ∃ w9, w9 = u := ⟨u, rfl⟩
              subst hwit251_1
              obtain ⟨hP1, hD1⟩ := hB9
              rw [ht] at hP1
              have hP := hP1
              have hD := hD1.weaken (fun _ q _ h => hFc q.1 h)
              generalize H1 = H at hP hS ⊢
              have hP : va_P (dC, dI) vwCl (WR a k h0 (fT vi 11 0) vj (fT (fT (fT (fT vF 0 g5) 2 f21) 3 f31) 0 g251_1) (fT (fT vG 8 L80) 1 gs1)) H := hP
              have hD : va_D A (WR a k h0 (fT vi 11 0) vj (fT (fT (fT (fT vF 0 g5) 2 f21) 3 f31) 0 g251_1) (fT (fT vG 8 L80) 1 gs1)) := hD
              have e9 : fT (fT (fT vF 0 g251_1) 2 f21) 3 f31 = fT (fT (fT (fT vF 0 g5) 2 f21) 3 f31) 0 g251_1 := ((fT_sw _ _ _ (Nat.ne_of_beq_eq_false rfl)).trans (congrArg (fun g9 => fT g9 3 f31) ((fT_sw _ _ _ (Nat.ne_of_beq_eq_false rfl)).trans (congrArg (fun g9 => fT g9 2 f21) (fT_sm _ _ _ _))))).symm
              rw [← e9] at hP hD
              clear e9
              have hP : va_P (dC, dI) vwCl (WR a k h0 (fT vi 11 0) vj (fT (fT (fT vF 0 g251_1) 2 f21) 3 f31) (fT (fT vG 8 L80) 1 gs1)) H := hP
              have hD : va_D A (WR a k h0 (fT vi 11 0) vj (fT (fT (fT vF 0 g251_1) 2 f21) 3 f31) (fT (fT vG 8 L80) 1 gs1)) := hD
              have f251_1_0 := hw9
              try dsimp only at f251_1_0
              refine lv_iload hx hb dX12_pivot_254 (lv_at hl 4 rfl) ?_
              refine lv_if_ge (tgt := 264) hx hb dX12_pivot_256 (by decide) (fun c_256 => ?_) (fun c9 => False.elim (by have t9 : ¬ (r30).toInt ≥ 0 := toI_nge c9 rfl (by decide); omega))
              have t_256 : (r30).toInt ≥ 0 := toI_ge c_256 rfl (by decide)
              refine lv_aload_n hx hb dX12_pivot_264 rfl (lv_at hl 0 rfl) ?_
              refine lv_bipush (v := 20) hx hb dX12_pivot_265 (by decide) ?_
              refine lv_bipush (v := 21) hx hb dX12_pivot_267 (by decide) ?_
              have hFc := allFree hD hS hA
              refine va_callv (va_runV (As := [.int 20, .int 21]) (rest := []) ⟨hx, hb, hml, hown, hts⟩ (b_X12_copy l dC dI a k h0 (fT vi 11 0) vj (fT (fT (fT vF 0 g251_1) 2 f21) 3 f31) (fT (fT vG 8 L80) 1 gs1) 20 21 (fT m5 (30 + rn * (C + 1) + cn) D) f251_1_0 (t rn cn) (by rw [fT_ne _ _ (by omega), h21c]) (by first | assumption | decide | omega | rfl) (by first | assumption | decide | omega | rfl) (by first | assumption | decide | omega | rfl) H.size) (cwV 2 hts gwsRX12_pivot_4 rfl rfl rfl (by decide +kernel) ⟨by decide +kernel, by decide +kernel⟩) ⟨fun a U g mk q => by obtain ⟨q0, q1, qP, qK, qD⟩ := q; exact ⟨q0, q1, qP, va_K.moved (u := U) (U := U.calling g mk a) (Vm.Alike.refl U.vm) qK, qD⟩, va_recv hK hP (ci := 12) (q0 := 0) rfl rfl, fun U hU9 hW => ⟨rfl, by rw [hU9], by rw [hU9]; exact hP, va_K.moved hW.alike hK, hD.weaken (fun _ _ _ _ => trivial)⟩⟩ rfl rfl hl.1 rfl (lv_room (Nat.le_of_ble_eq_true rfl)) dX12_pivot_269 ⟨by decide +kernel, by decide +kernel⟩) hS (fun q _ h => hFc q h) hFc (fun u t9_ H1 locs ht hvm hw9 hB9 hz1 hk1 hS => ?_)
              obtain ⟨g269_1, hwit269_1⟩ : ∃ w9, w9 = u := ⟨u, rfl⟩
              subst hwit269_1
              obtain ⟨hP1, hD1⟩ := hB9
              rw [ht] at hP1
              have hP := hP1
              have hD := hD1.weaken (fun _ q _ h => hFc q.1 h)
              generalize H1 = H at hP hS ⊢
              have hP : va_P (dC, dI) vwCl (WR a k h0 (fT vi 11 0) vj (fT (fT (fT (fT vF 0 g251_1) 2 f21) 3 f31) 0 g269_1) (fT (fT vG 8 L80) 1 gs1)) H := hP
              have hD : va_D A (WR a k h0 (fT vi 11 0) vj (fT (fT (fT (fT vF 0 g251_1) 2 f21) 3 f31) 0 g269_1) (fT (fT vG 8 L80) 1 gs1)) := hD
              have e9 : fT (fT (fT vF 0 g269_1) 2 f21) 3 f31 = fT (fT (fT (fT vF 0 g251_1) 2 f21) 3 f31) 0 g269_1 := ((fT_sw _ _ _ (Nat.ne_of_beq_eq_false rfl)).trans (congrArg (fun g9 => fT g9 3 f31) ((fT_sw _ _ _ (Nat.ne_of_beq_eq_false rfl)).trans (congrArg (fun g9 => fT g9 2 f21) (fT_sm _ _ _ _))))).symm
              rw [← e9] at hP hD
              clear e9
              have hP : va_P (dC, dI) vwCl (WR a k h0 (fT vi 11 0) vj (fT (fT (fT vF 0 g269_1) 2 f21) 3 f31) (fT (fT vG 8 L80) 1 gs1)) H := hP
              have hD : va_D A (WR a k h0 (fT vi 11 0) vj (fT (fT (fT vF 0 g269_1) 2 f21) 3 f31) (fT (fT vG 8 L80) 1 gs1)) := hD
              have f269_1_0 := hw9
              try dsimp only at f269_1_0
              refine lv_iload hx hb dX12_pivot_272 (lv_at hl 4 rfl) ?_
              refine lv_if_ge (tgt := 283) hx hb dX12_pivot_274 (by decide) (fun c_274 => ?_) (fun c9 => False.elim (by have t9 : ¬ (r30).toInt ≥ 0 := toI_nge c9 rfl (by decide); omega))
              have t_274 : (r30).toInt ≥ 0 := toI_ge c_274 rfl (by decide)
              refine lv_aload_n hx hb dX12_pivot_283 rfl (lv_at hl 0 rfl) ?_
              refine lv_iload_n hx hb dX12_pivot_284 rfl (lv_at hl 1 rfl) ?_
              refine lv_iload_n hx hb dX12_pivot_285 rfl (lv_at hl 2 rfl) ?_
              have hFc := allFree hD hS hA
              refine va_callv (va_runV (As := [.int (nI rn), .int (nI cn)]) (rest := []) ⟨hx, hb, hml, hown, hts⟩ (r_X12_exchange l dC dI a k h0 (fT vi 11 0) vj (fT (fT (fT vF 0 g269_1) 2 f21) 3 f31) (fT (fT vG 8 L80) 1 gs1) rn cn (by first | assumption | decide | omega | rfl) (by first | assumption | decide | omega | rfl) H.size) (cwV 2 hts gwsRX12_pivot_6 rfl rfl rfl (by decide +kernel) ⟨by decide +kernel, by decide +kernel⟩) ⟨fun a U g mk q => by obtain ⟨q0, q1, qP, qK, qD⟩ := q; exact ⟨q0, q1, qP, va_K.moved (u := U) (U := U.calling g mk a) (Vm.Alike.refl U.vm) qK, qD⟩, va_recv hK hP (ci := 12) (q0 := 0) rfl rfl, fun U hU9 hW => ⟨rfl, by rw [hU9], by rw [hU9]; exact hP, va_K.moved hW.alike hK, hD.weaken (fun _ _ _ _ => trivial)⟩⟩ rfl rfl hl.1 rfl (lv_room (Nat.le_of_ble_eq_true rfl)) dX12_pivot_286 ⟨by decide +kernel, by decide +kernel⟩) hS (fun q _ h => hFc q h) hFc (fun u t9_ H1 locs ht hvm hw9 hB9 hz1 hk1 hS => ?_)
              obtain ⟨hP1, hD1⟩ := hB9
              rw [ht] at hP1
              have hP := hP1
              have hD := hD1.weaken (fun _ q _ h => hFc q.1 h)
              generalize H1 = H at hP hS ⊢
              have hP : va_P (dC, dI) vwCl (WR a k h0 (fT vi 11 0) vj (fT (fT (fT (fT (fT vF 0 g269_1) 2 f21) 3 f31) 4 (upd (vF 4) (nI cn).toNatClampNeg ((vF 5) rn))) 5 (upd (vF 5) (nI rn).toNatClampNeg ((vF 4) cn))) (fT (fT vG 8 L80) 1 gs1)) H := hP
              have hD : va_D A (WR a k h0 (fT vi 11 0) vj (fT (fT (fT (fT (fT vF 0 g269_1) 2 f21) 3 f31) 4 (upd (vF 4) (nI cn).toNatClampNeg ((vF 5) rn))) 5 (upd (vF 5) (nI rn).toNatClampNeg ((vF 4) cn))) (fT (fT vG 8 L80) 1 gs1)) := hD
              refine W.widen (k := 0) (n := 0) (by decide +kernel) (by decide +kernel) ?_
              have e9 : fT vj 12 (vj 12) = vj := fT_id _ _ (rfl)
              have hP : va_P (dC, dI) vwCl (WR a k h0 (fT vi 11 0) (fT vj 12 (vj 12)) (fT (fT (fT (fT (fT vF 0 g269_1) 2 f21) 3 f31) 4 (upd (vF 4) (nI cn).toNatClampNeg ((vF 5) rn))) 5 (upd (vF 5) (nI rn).toNatClampNeg ((vF 4) cn))) (fT (fT vG 8 L80) 1 gs1)) H := by rw [e9]; exact hP
              have hD : va_D A (WR a k h0 (fT vi 11 0) (fT vj 12 (vj 12)) (fT (fT (fT (fT (fT vF 0 g269_1) 2 f21) 3 f31) 4 (upd (vF 4) (nI cn).toNatClampNeg ((vF 5) rn))) 5 (upd (vF 5) (nI rn).toNatClampNeg ((vF 4) cn))) (fT (fT vG 8 L80) 1 gs1)) := by rw [e9]; exact hD
              clear e9
              have e9 : fT (fT (fT (fT (fT vF 0 g269_1) 2 f21) 3 f31) 4 (upd (vF 4) (nI cn).toNatClampNeg (vF 5 rn))) 5 (upd (vF 5) (nI rn).toNatClampNeg (vF 4 cn)) = fT (fT (fT (fT (fT vF 0 g269_1) 2 f21) 3 f31) 4 (upd (vF 4) (nI cn).toNatClampNeg ((vF 5) rn))) 5 (upd (vF 5) (nI rn).toNatClampNeg ((vF 4) cn)) := by funext q9; by_cases h9_0 : q9 = 0; (subst h9_0; exact ((fT_ne _ _ (Nat.ne_of_beq_eq_false rfl)).trans ((fT_ne _ _ (Nat.ne_of_beq_eq_false rfl)).trans ((fT_ne _ _ (Nat.ne_of_beq_eq_false rfl)).trans ((fT_ne _ _ (Nat.ne_of_beq_eq_false rfl)).trans (fT_eq _ _ _))))).trans (Eq.trans (by first | rfl | assumption | (symm; assumption) | (subst_vars; rfl)) ((fT_ne _ _ (Nat.ne_of_beq_eq_false rfl)).trans ((fT_ne _ _ (Nat.ne_of_beq_eq_false rfl)).trans ((fT_ne _ _ (Nat.ne_of_beq_eq_false rfl)).trans ((fT_ne _ _ (Nat.ne_of_beq_eq_false rfl)).trans (fT_eq _ _ _))))).symm)); by_cases h9_2 : q9 = 2; (subst h9_2; exact ((fT_ne _ _ (Nat.ne_of_beq_eq_false rfl)).trans ((fT_ne _ _ (Nat.ne_of_beq_eq_false rfl)).trans ((fT_ne _ _ (Nat.ne_of_beq_eq_false rfl)).trans (fT_eq _ _ _)))).trans (Eq.trans (by first | rfl | assumption | (symm; assumption) | (subst_vars; rfl)) ((fT_ne _ _ (Nat.ne_of_beq_eq_false rfl)).trans ((fT_ne _ _ (Nat.ne_of_beq_eq_false rfl)).trans ((fT_ne _ _ (Nat.ne_of_beq_eq_false rfl)).trans (fT_eq _ _ _)))).symm)); by_cases h9_3 : q9 = 3; (subst h9_3; exact ((fT_ne _ _ (Nat.ne_of_beq_eq_false rfl)).trans ((fT_ne _ _ (Nat.ne_of_beq_eq_false rfl)).trans (fT_eq _ _ _))).trans (Eq.trans (by first | rfl | assumption | (symm; assumption) | (subst_vars; rfl)) ((fT_ne _ _ (Nat.ne_of_beq_eq_false rfl)).trans ((fT_ne _ _ (Nat.ne_of_beq_eq_false rfl)).trans (fT_eq _ _ _))).symm)); by_cases h9_4 : q9 = 4; (subst h9_4; exact ((fT_ne _ _ (Nat.ne_of_beq_eq_false rfl)).trans (fT_eq _ _ _)).trans (Eq.trans (by first | rfl | assumption | (symm; assumption) | (subst_vars; rfl)) ((fT_ne _ _ (Nat.ne_of_beq_eq_false rfl)).trans (fT_eq _ _ _)).symm)); by_cases h9_5 : q9 = 5; (subst h9_5; exact (fT_eq _ _ _).trans (Eq.trans (by first | rfl | assumption | (symm; assumption) | (subst_vars; rfl)) (fT_eq _ _ _).symm)); exact ((fT_ne _ _ h9_5).trans ((fT_ne _ _ h9_4).trans ((fT_ne _ _ h9_3).trans ((fT_ne _ _ h9_2).trans (fT_ne _ _ h9_0))))).trans ((fT_ne _ _ h9_5).trans ((fT_ne _ _ h9_4).trans ((fT_ne _ _ h9_3).trans ((fT_ne _ _ h9_2).trans (fT_ne _ _ h9_0))))).symm
              have hP : va_P (dC, dI) vwCl (WR a k h0 (fT vi 11 0) (fT vj 12 (vj 12)) (fT (fT (fT (fT (fT vF 0 g269_1) 2 f21) 3 f31) 4 (upd (vF 4) (nI cn).toNatClampNeg (vF 5 rn))) 5 (upd (vF 5) (nI rn).toNatClampNeg (vF 4 cn))) (fT (fT vG 8 L80) 1 gs1)) H := by rw [e9]; exact hP
              have hD : va_D A (WR a k h0 (fT vi 11 0) (fT vj 12 (vj 12)) (fT (fT (fT (fT (fT vF 0 g269_1) 2 f21) 3 f31) 4 (upd (vF 4) (nI cn).toNatClampNeg (vF 5 rn))) 5 (upd (vF 5) (nI rn).toNatClampNeg (vF 4 cn))) (fT (fT vG 8 L80) 1 gs1)) := by rw [e9]; exact hD
              clear e9
              have e9 : fT (fT (fT vG 8 L80) 7 (vG 7)) 1 gs1 = fT (fT vG 8 L80) 1 gs1 := by funext q9; by_cases h9_8 : q9 = 8; (subst h9_8; exact ((fT_ne _ _ (Nat.ne_of_beq_eq_false rfl)).trans ((fT_ne _ _ (Nat.ne_of_beq_eq_false rfl)).trans (fT_eq _ _ _))).trans (Eq.trans (by first | rfl | assumption | (symm; assumption) | (subst_vars; rfl)) ((fT_ne _ _ (Nat.ne_of_beq_eq_false rfl)).trans (fT_eq _ _ _)).symm)); by_cases h9_7 : q9 = 7; (subst h9_7; exact ((fT_ne _ _ (Nat.ne_of_beq_eq_false rfl)).trans (fT_eq _ _ _)).trans (Eq.trans (by first | rfl | assumption | (symm; assumption) | (subst_vars; rfl)) ((fT_ne _ _ (Nat.ne_of_beq_eq_false rfl)).trans (fT_ne _ _ (Nat.ne_of_beq_eq_false rfl))).symm)); by_cases h9_1 : q9 = 1; (subst h9_1; exact (fT_eq _ _ _).trans (Eq.trans (by first | rfl | assumption | (symm; assumption) | (subst_vars; rfl)) (fT_eq _ _ _).symm)); exact ((fT_ne _ _ h9_1).trans ((fT_ne _ _ h9_7).trans (fT_ne _ _ h9_8))).trans ((fT_ne _ _ h9_1).trans (fT_ne _ _ h9_8)).symm
              have hP : va_P (dC, dI) vwCl (WR a k h0 (fT vi 11 0) (fT vj 12 (vj 12)) (fT (fT (fT (fT (fT vF 0 g269_1) 2 f21) 3 f31) 4 (upd (vF 4) (nI cn).toNatClampNeg (vF 5 rn))) 5 (upd (vF 5) (nI rn).toNatClampNeg (vF 4 cn))) (fT (fT (fT vG 8 L80) 7 (vG 7)) 1 gs1)) H := by rw [e9]; exact hP
              have hD : va_D A (WR a k h0 (fT vi 11 0) (fT vj 12 (vj 12)) (fT (fT (fT (fT (fT vF 0 g269_1) 2 f21) 3 f31) 4 (upd (vF 4) (nI cn).toNatClampNeg (vF 5 rn))) 5 (upd (vF 5) (nI rn).toNatClampNeg (vF 4 cn))) (fT (fT (fT vG 8 L80) 7 (vG 7)) 1 gs1)) := by rw [e9]; exact hD
              clear e9
              exact W.vret hx hb hr (fun t9_ ht hW => ⟨⟨(g269_1, f21, f31, gs1, 0, (vj 12), (vG 7), L80, (fT (fT m5 (30 + rn * (C + 1) + cn) D) 20 (t rn cn))), rfl, by (try dsimp only); exact ⟨f269_1_0, Or.inl ⟨rfl, ⟨fun i2 hi2 j2 hj2 => by (have gx : (sgI (t rn cn)) = 1 := by omega); (rw [fT_ne _ _ (by omega)]); by_cases e9 : i2 = rn ∧ j2 = cn; (rw [e9.1, e9.2, fT_eq, nv_piv, gx]; omega); ((have n9 : 30 + i2 * (C + 1) + j2 ≠ 30 + rn * (C + 1) + cn := fun h => e9 (pl_inj hj2 (by omega) (by omega))); rw [fT_ne _ _ n9, htab5 i2 hi2 j2 hj2]; by_cases e8 : i2 = rn; (rw [if_pos e8, e8, nv_row _ _ _ _ _ (by omega), gx]; split <;> omega); (rw [if_neg e8])), by (have gx : (sgI (t rn cn)) = 1 := by omega); rw [fT_eq, gx]; omega⟩⟩, fun q hq => by (rw [fT_ne _ _ (by omega), fT_ne _ _ (by omega)]); exact ho5 q hq⟩, by rw [ht]; exact hP, hD⟩, hS.F ht⟩) hS.2.2 dX12_pivot_289
            · have t_221 : ¬ (r30).toInt ≥ 0 := toI_nge c_221 rfl (by decide)
              refine lv_iload hx hb dX12_pivot_224 (lv_at hl 5 rfl) ?_
              refine lv_iload_n hx hb dX12_pivot_226 rfl (lv_at hl 2 rfl) ?_
              refine lv_icmp_eq (tgt := 241) hx hb dX12_pivot_227 (by decide) (fun c_227 => ?_) (fun c_227 => ?_)
              · have t_227 : ((j : Nat) : Int) = ((cn : Nat) : Int) := toI_eq c_227 (nI_toInt (by omega)) (nI_toInt (by omega))
                refine lv_iinc (v := (nI (j + 1))) hx hb dX12_pivot_241 hl (k := 5) rfl (nI_add j 1) (by decide) rfl (fun ls (hl : lv_has ls _ ([(5, .int (nI (j + 1))), (0, .ref h0), (1, .int (nI rn)), (2, .int (nI cn)), (3, .int (nI (30 + rn * (C + 1) + cn))), (4, .int r30)])) => ?_)
                refine lv_goto (tgt := 210) hx hb dX12_pivot_244 (by decide) ?_
                have hl : lv_has _ _ ([(0, .ref h0), (1, .int (nI rn)), (2, .int (nI cn)), (3, .int (nI (30 + rn * (C + 1) + cn))), (4, .int r30), (5, .int (nI (j + 1)))]) := lv_sub hl [1, 2, 3, 4, 5, 0] rfl
                exact ih210_1 (j + 1) g5 m5 _ _ _ (hB5) ((by rw [h21c])) ((by rw [h20c])) (by omega) (by omega) (fun i2 hi2 j2 hj2 => by rw [htab5 i2 hi2 j2 hj2]; exact if_congr Iff.rfl (if_congr (by omega) rfl rfl) rfl) (ho5) (by omega) hP hD hS hl
              · have t_227 : ¬ ((j : Nat) : Int) = ((cn : Nat) : Int) := toI_neq c_227 (nI_toInt (by omega)) (nI_toInt (by omega))
                have hprj := pl_lt (C := C) (show rn < R + Gq by omega) (show j ≤ C by omega)
                refine lv_aload_n hx hb dX12_pivot_230 rfl (lv_at hl 0 rfl) ?_
                refine lv_aload_n hx hb dX12_pivot_231 rfl (lv_at hl 0 rfl) ?_
                refine lv_iload_n hx hb dX12_pivot_232 rfl (lv_at hl 1 rfl) ?_
                refine lv_iload hx hb dX12_pivot_233 (lv_at hl 5 rfl) ?_
                have hFc := allFree hD hS hA
                refine va_calli (va_runV (As := [.int (nI rn), .int (nI j)]) (rest := [.ref h0]) ⟨hx, hb, hml, hown, hts⟩ (r_X12_at l dC dI a k h0 (fT vi 11 0) vj (fT (fT (fT vF 0 g5) 2 f21) 3 f31) (fT (fT vG 8 L80) 1 gs1) rn j C (by first | assumption | decide | omega | rfl) H.size) (cwV 2 hts gwsRX12_pivot_2 rfl rfl rfl (by decide +kernel) ⟨by decide +kernel, by decide +kernel⟩) ⟨fun a U g mk q => by obtain ⟨q0, q1, qP, qK, qD⟩ := q; exact ⟨q0, q1, qP, va_K.moved (u := U) (U := U.calling g mk a) (Vm.Alike.refl U.vm) qK, qD⟩, va_recv hK hP (ci := 12) (q0 := 0) rfl rfl, fun U hU9 hW => ⟨rfl, by rw [hU9], by rw [hU9]; exact hP, va_K.moved hW.alike hK, hD.weaken (fun _ _ _ _ => trivial)⟩⟩ rfl rfl hl.1 rfl (lv_room (Nat.le_of_ble_eq_true rfl)) dX12_pivot_235 ⟨by decide +kernel, by decide +kernel⟩) hS (fun q _ h => hFc q h) hFc (fun r235 u t9_ H1 locs ht hvm hw9 hB9 hz1 hk1 hS => ?_)
                obtain ⟨hP1, hD1⟩ := hB9
                rw [ht] at hP1
                have hP := hP1
                have hD := hD1.weaken (fun _ q _ h => hFc q.1 h)
                generalize H1 = H at hP hS ⊢
                have hP : va_P (dC, dI) vwCl (WR a k h0 (fT vi 11 0) vj (fT (fT (fT vF 0 g5) 2 f21) 3 f31) (fT (fT vG 8 L80) 1 gs1)) H := hP
                have hD : va_D A (WR a k h0 (fT vi 11 0) vj (fT (fT (fT vF 0 g5) 2 f21) 3 f31) (fT (fT vG 8 L80) 1 gs1)) := hD
                obtain rfl := hw9
                have hFc := allFree hD hS hA
                refine va_callv (va_runV (As := [.int (nI (30 + rn * (C + 1) + j))]) (rest := []) ⟨hx, hb, hml, hown, hts⟩ (b_X12_turn l dC dI a k h0 (fT vi 11 0) vj (fT (fT (fT vF 0 g5) 2 f21) 3 f31) (fT (fT vG 8 L80) 1 gs1) (30 + rn * (C + 1) + j) m5 hB5 (t rn j) (by rw [((htab5 rn (by omega) j (by omega)).trans ((if_pos rfl).trans (if_neg (by omega))))]) (by first | assumption | decide | omega | rfl) H.size) (cwV 1 hts gwsRX12_pivot_5 rfl rfl rfl (by decide +kernel) ⟨by decide +kernel, by decide +kernel⟩) ⟨fun a U g mk q => by obtain ⟨q0, q1, qP, qK, qD⟩ := q; exact ⟨q0, q1, qP, va_K.moved (u := U) (U := U.calling g mk a) (Vm.Alike.refl U.vm) qK, qD⟩, va_recv hK hP (ci := 12) (q0 := 0) rfl rfl, fun U hU9 hW => ⟨rfl, by rw [hU9], by rw [hU9]; exact hP, va_K.moved hW.alike hK, hD.weaken (fun _ _ _ _ => trivial)⟩⟩ rfl rfl hl.1 rfl (lv_room (Nat.le_of_ble_eq_true rfl)) dX12_pivot_238 ⟨by decide +kernel, by decide +kernel⟩) hS (fun q _ h => hFc q h) hFc (fun u t9_ H1 locs ht hvm hw9 hB9 hz1 hk1 hS => ?_)
                obtain ⟨hP1, hD1⟩ := hB9
                rw [ht] at hP1
                have hP := hP1
                have hD := hD1.weaken (fun _ q _ h => hFc q.1 h)
                generalize H1 = H at hP hS ⊢
                have hP : va_P (dC, dI) vwCl (WR a k h0 (fT vi 11 0) vj (fT (fT (fT (fT vF 0 g5) 2 f21) 3 f31) 0 (upd g5 (nI (24 * (30 + rn * (C + 1) + j))).toNatClampNeg (-(g5 (24 * (30 + rn * (C + 1) + j)))))) (fT (fT vG 8 L80) 1 gs1)) H := hP
                have hD : va_D A (WR a k h0 (fT vi 11 0) vj (fT (fT (fT (fT vF 0 g5) 2 f21) 3 f31) 0 (upd g5 (nI (24 * (30 + rn * (C + 1) + j))).toNatClampNeg (-(g5 (24 * (30 + rn * (C + 1) + j)))))) (fT (fT vG 8 L80) 1 gs1)) := hD
                have e9 : fT (fT (fT vF 0 (upd g5 (nI (24 * (30 + rn * (C + 1) + j))).toNatClampNeg (-(g5 (24 * (30 + rn * (C + 1) + j)))))) 2 f21) 3 f31 = fT (fT (fT (fT vF 0 g5) 2 f21) 3 f31) 0 (upd g5 (nI (24 * (30 + rn * (C + 1) + j))).toNatClampNeg (-(g5 (24 * (30 + rn * (C + 1) + j))))) := ((fT_sw _ _ _ (Nat.ne_of_beq_eq_false rfl)).trans (congrArg (fun g9 => fT g9 3 f31) ((fT_sw _ _ _ (Nat.ne_of_beq_eq_false rfl)).trans (congrArg (fun g9 => fT g9 2 f21) (fT_sm _ _ _ _))))).symm
                rw [← e9] at hP hD
                clear e9
                have hP : va_P (dC, dI) vwCl (WR a k h0 (fT vi 11 0) vj (fT (fT (fT vF 0 (upd g5 (nI (24 * (30 + rn * (C + 1) + j))).toNatClampNeg (-(g5 (24 * (30 + rn * (C + 1) + j)))))) 2 f21) 3 f31) (fT (fT vG 8 L80) 1 gs1)) H := hP
                have hD : va_D A (WR a k h0 (fT vi 11 0) vj (fT (fT (fT vF 0 (upd g5 (nI (24 * (30 + rn * (C + 1) + j))).toNatClampNeg (-(g5 (24 * (30 + rn * (C + 1) + j)))))) 2 f21) 3 f31) (fT (fT vG 8 L80) 1 gs1)) := hD
                have f238_0 := hw9
                try dsimp only at f238_0
                have f238_0 : Bg (upd g5 (nI (24 * (30 + rn * (C + 1) + j))).toNatClampNeg (-(g5 (24 * (30 + rn * (C + 1) + j))))) (fT m5 (30 + rn * (C + 1) + j) (-(t rn j))) := f238_0
                refine lv_iinc (v := (nI (j + 1))) hx hb dX12_pivot_241 hl (k := 5) rfl (nI_add j 1) (by decide) rfl (fun ls (hl : lv_has ls _ ([(5, .int (nI (j + 1))), (0, .ref h0), (1, .int (nI rn)), (2, .int (nI cn)), (3, .int (nI (30 + rn * (C + 1) + cn))), (4, .int r30)])) => ?_)
                refine lv_goto (tgt := 210) hx hb dX12_pivot_244 (by decide) ?_
                have hl : lv_has _ _ ([(0, .ref h0), (1, .int (nI rn)), (2, .int (nI cn)), (3, .int (nI (30 + rn * (C + 1) + cn))), (4, .int r30), (5, .int (nI (j + 1)))]) := lv_sub hl [1, 2, 3, 4, 5, 0] rfl
                exact ih210_1 (j + 1) (upd g5 (nI (24 * (30 + rn * (C + 1) + j))).toNatClampNeg (-(g5 (24 * (30 + rn * (C + 1) + j))))) (fT m5 (30 + rn * (C + 1) + j) (-(t rn j))) _ _ _ (f238_0) ((by rw [fT_ne _ _ (by omega), h21c])) ((by rw [fT_ne _ _ (by omega), h20c])) (by omega) (by omega) (fun i2 hi2 j2 hj2 => by by_cases e9 : i2 = rn ∧ j2 = j; ((have gx : (sgI (t rn cn)) = -1 := by omega); rw [e9.1, e9.2, fT_eq, if_pos rfl, if_pos (by omega), gx]; omega); ((have n9 : 30 + i2 * (C + 1) + j2 ≠ 30 + rn * (C + 1) + j := fun h => e9 (pl_inj hj2 (by omega) (by omega))); rw [fT_ne _ _ n9, htab5 i2 hi2 j2 hj2]; by_cases e8 : i2 = rn; (rw [if_pos e8, if_pos e8]; exact if_congr (by omega) rfl rfl); (rw [if_neg e8, if_neg e8]))) (fun q hq => by (rw [fT_ne _ _ (by omega)]); exact ho5 q hq) (by omega) hP hD hS hl
      · have t_56 : ¬ ((i : Nat) : Int) ≥ (((R + Gq) : Nat) : Int) := toI_nge c_56 (nI_toInt (by omega)) (nI_toInt (by omega))
        refine lv_iload hx hb dX12_pivot_59 (lv_at hl 5 rfl) ?_
        refine lv_iload_n hx hb dX12_pivot_61 rfl (lv_at hl 1 rfl) ?_
        refine lv_icmp_ne (tgt := 68) hx hb dX12_pivot_62 (by decide) (fun c_62 => ?_) (fun c_62 => ?_)
        · have t_62 : ((i : Nat) : Int) ≠ ((rn : Nat) : Int) := toI_ne c_62 (nI_toInt (by omega)) (nI_toInt (by omega))
          refine lv_iconst (v := 0) hx hb dX12_pivot_68 (by decide) ?_
          refine lv_istore hx hb dX12_pivot_69 hl (by decide) rfl (fun ls (hl : lv_has ls _ ([(6, .int 0), (0, .ref h0), (1, .int (nI rn)), (2, .int (nI cn)), (3, .int (nI (30 + rn * (C + 1) + cn))), (4, .int r30), (5, .int (nI i))])) => ?_)
          have hl : lv_has _ _ ([(0, .ref h0), (1, .int (nI rn)), (2, .int (nI cn)), (3, .int (nI (30 + rn * (C + 1) + cn))), (4, .int r30), (5, .int (nI i)), (6, .int (nI 0))]) := lv_sub hl [1, 2, 3, 4, 5, 6, 0] rfl
          refine (fun (loop : ∀ (n9 : Nat) (j : Nat) (g3 : Nat → Int32) (f23 : Nat → Int32) (f33 : Nat → Int32) (gs3 : Nat → Int64) (m3 : Nat → Int) (H : Heap) (locs : List Loc) (ls : Array Slot), (Bg g3 m3) → (m3 21 = (t rn cn)) → (m3 20 = D) → (j ≤ C + 1) → (∀ i2, i2 < (R + Gq) → ∀ j2, j2 ≤ C → m3 (30 + i2 * (C + 1) + j2) = if (i2 < i ∧ i2 ≠ rn) ∨ (i2 = i ∧ j2 < j ∧ j2 ≠ cn) then nvT rn cn (sgI (t rn cn)) t D i2 j2 else t i2 j2) → (∀ q, (q < 20 ∨ (26 < q ∧ q < 30) ∨ 30 + (R + Gq) * (C + 1) ≤ q) → m3 q = mg q) →  (C + 1 < j + n9) → va_P (dC, dI) vwCl (WR a k h0 (fT vi 11 0) vj (fT (fT (fT vF 0 g3) 2 f23) 3 f33) (fT (fT vG 8 L80) 1 gs3)) H → va_D A (WR a k h0 (fT vi 11 0) vj (fT (fT (fT vF 0 g3) 2 f23) 3 f33) (fT (fT vG 8 L80) 1 gs3)) → va_S A s.heap H locs → lv_has ls 7 [(0, .ref h0), (1, .int (nI rn)), (2, .int (nI cn)), (3, .int (nI (30 + rn * (C + 1) + cn))), (4, .int r30), (5, .int (nI i)), (6, .int (nI j))] → W p l e _ s m _ below meth c H locs 0 0 _ (F0 m 71 ls [])) => loop (C + 2) 0 g1 f21 f31 gs1 m1 _ _ _ (hB1) ((by rw [h21])) ((by rw [h20])) (by omega) (fun i2 hi2 j2 hj2 => by rw [htab i2 hi2 j2 hj2]; exact if_congr (by omega) rfl rfl) (ho) (by omega) hP hD hS hl) ?_
          intro n9
          induction n9 with
          | zero => intro j g3 f23 f33 gs3 m3 H locs ls hB3 h21b h20b hj htab2 ho3 hf9; exact False.elim (by omega)
          | succ n9 ih71_2 =>
            intro j g3 f23 f33 gs3 m3 H locs ls hB3 h21b h20b hj htab2 ho3 hf71_2 hP hD hS hl
            refine lv_iload hx hb dX12_pivot_71 (lv_at hl 6 rfl) ?_
            refine lv_aload_n hx hb dX12_pivot_73 rfl (lv_at hl 0 rfl) ?_
            refine va_get (D := (dC, dI)) (ci := 12) (v := .int (vi 5)) (C := RX12) (T := TX12) (N := 163) (fs := fM (vS a (fT vi 11 0) vj)) hx hb hts iwsRX12_pivot_in12 hown hK hP 0 rfl rfl 5 (by decide) (hts (.fieldLink RX12 396 "OptimaWorksModel" "columns" "I") (by decide +kernel)) (fun _ h9 => h9) rfl dX12_pivot_74 ?_
            refine lv_topi (fun y5 hy5 => ?_)
            obtain rfl : (nI C) = y5 := (hy5.trans (hC)).symm
            refine lv_icmp_gt (tgt := 185) hx hb dX12_pivot_77 (by decide) (fun c_77 => ?_) (fun c_77 => ?_)
            · have t_77 : ((j : Nat) : Int) > ((C : Nat) : Int) := toI_gt c_77 (nI_toInt (by omega)) (nI_toInt (by omega))
              refine lv_iload hx hb dX12_pivot_185 (lv_at hl 4 rfl) ?_
              refine lv_if_le (tgt := 201) hx hb dX12_pivot_187 (by decide) (fun c_187 => ?_) (fun c_187 => ?_)
              · have t_187 : (r30).toInt ≤ 0 := toI_le c_187 rfl (by decide)
                refine lv_iinc (v := (nI (i + 1))) hx hb dX12_pivot_201 hl (k := 5) rfl (nI_add i 1) (by decide) rfl (fun ls (hl : lv_has ls _ ([(5, .int (nI (i + 1))), (0, .ref h0), (1, .int (nI rn)), (2, .int (nI cn)), (3, .int (nI (30 + rn * (C + 1) + cn))), (4, .int r30), (6, .int (nI j))])) => ?_)
                refine lv_goto (tgt := 45) hx hb dX12_pivot_204 (by decide) ?_
                have hl : lv_has _ _ ([(0, .ref h0), (1, .int (nI rn)), (2, .int (nI cn)), (3, .int (nI (30 + rn * (C + 1) + cn))), (4, .int r30), (5, .int (nI (i + 1)))]) := lv_sub hl [1, 2, 3, 4, 5, 0] rfl
                exact ih45 (i + 1) g3 f23 f33 gs3 m3 _ _ _ (hB3) ((by rw [h21b])) ((by rw [h20b])) (by omega) (fun i2 hi2 j2 hj2 => by by_cases e9 : i2 = i ∧ j2 = cn; ((have gx : (sgI (t rn cn)) = -1 := by omega); rw [htab2 i2 hi2 j2 hj2, e9.1, e9.2, if_neg (by omega), if_pos (by omega), nv_col _ _ _ _ _ (by omega), gx]; omega); (rw [htab2 i2 hi2 j2 hj2]; exact if_congr (by omega) rfl rfl)) (fun q hq => by skip; exact ho3 q hq) (by omega) hP hD hS hl
              · have t_187 : ¬ (r30).toInt ≤ 0 := toI_nle c_187 rfl (by decide)
                have hpic := pl_lt (C := C) (show i < R + Gq by omega) (show cn ≤ C by omega)
                refine lv_aload_n hx hb dX12_pivot_190 rfl (lv_at hl 0 rfl) ?_
                refine lv_aload_n hx hb dX12_pivot_191 rfl (lv_at hl 0 rfl) ?_
                refine lv_iload hx hb dX12_pivot_192 (lv_at hl 5 rfl) ?_
                refine lv_iload_n hx hb dX12_pivot_194 rfl (lv_at hl 2 rfl) ?_
                have hFc := allFree hD hS hA
                refine va_calli (va_runV (As := [.int (nI i), .int (nI cn)]) (rest := [.ref h0]) ⟨hx, hb, hml, hown, hts⟩ (r_X12_at l dC dI a k h0 (fT vi 11 0) vj (fT (fT (fT vF 0 g3) 2 f23) 3 f33) (fT (fT vG 8 L80) 1 gs3) i cn C (by first | assumption | decide | omega | rfl) H.size) (cwV 2 hts gwsRX12_pivot_2 rfl rfl rfl (by decide +kernel) ⟨by decide +kernel, by decide +kernel⟩) ⟨fun a U g mk q => by obtain ⟨q0, q1, qP, qK, qD⟩ := q; exact ⟨q0, q1, qP, va_K.moved (u := U) (U := U.calling g mk a) (Vm.Alike.refl U.vm) qK, qD⟩, va_recv hK hP (ci := 12) (q0 := 0) rfl rfl, fun U hU9 hW => ⟨rfl, by rw [hU9], by rw [hU9]; exact hP, va_K.moved hW.alike hK, hD.weaken (fun _ _ _ _ => trivial)⟩⟩ rfl rfl hl.1 rfl (lv_room (Nat.le_of_ble_eq_true rfl)) dX12_pivot_195 ⟨by decide +kernel, by decide +kernel⟩) hS (fun q _ h => hFc q h) hFc (fun r195 u t9_ H1 locs ht hvm hw9 hB9 hz1 hk1 hS => ?_)
                obtain ⟨hP1, hD1⟩ := hB9
                rw [ht] at hP1
                have hP := hP1
                have hD := hD1.weaken (fun _ q _ h => hFc q.1 h)
                generalize H1 = H at hP hS ⊢
                have hP : va_P (dC, dI) vwCl (WR a k h0 (fT vi 11 0) vj (fT (fT (fT vF 0 g3) 2 f23) 3 f33) (fT (fT vG 8 L80) 1 gs3)) H := hP
                have hD : va_D A (WR a k h0 (fT vi 11 0) vj (fT (fT (fT vF 0 g3) 2 f23) 3 f33) (fT (fT vG 8 L80) 1 gs3)) := hD
                obtain rfl := hw9
                have hFc := allFree hD hS hA
                refine va_callv (va_runV (As := [.int (nI (30 + i * (C + 1) + cn))]) (rest := []) ⟨hx, hb, hml, hown, hts⟩ (b_X12_turn l dC dI a k h0 (fT vi 11 0) vj (fT (fT (fT vF 0 g3) 2 f23) 3 f33) (fT (fT vG 8 L80) 1 gs3) (30 + i * (C + 1) + cn) m3 hB3 (t i cn) (by rw [((htab2 i (by omega) cn (by omega)).trans (if_neg (by omega)))]) (by first | assumption | decide | omega | rfl) H.size) (cwV 1 hts gwsRX12_pivot_5 rfl rfl rfl (by decide +kernel) ⟨by decide +kernel, by decide +kernel⟩) ⟨fun a U g mk q => by obtain ⟨q0, q1, qP, qK, qD⟩ := q; exact ⟨q0, q1, qP, va_K.moved (u := U) (U := U.calling g mk a) (Vm.Alike.refl U.vm) qK, qD⟩, va_recv hK hP (ci := 12) (q0 := 0) rfl rfl, fun U hU9 hW => ⟨rfl, by rw [hU9], by rw [hU9]; exact hP, va_K.moved hW.alike hK, hD.weaken (fun _ _ _ _ => trivial)⟩⟩ rfl rfl hl.1 rfl (lv_room (Nat.le_of_ble_eq_true rfl)) dX12_pivot_198 ⟨by decide +kernel, by decide +kernel⟩) hS (fun q _ h => hFc q h) hFc (fun u t9_ H1 locs ht hvm hw9 hB9 hz1 hk1 hS => ?_)
                obtain ⟨hP1, hD1⟩ := hB9
                rw [ht] at hP1
                have hP := hP1
                have hD := hD1.weaken (fun _ q _ h => hFc q.1 h)
                generalize H1 = H at hP hS ⊢
                have hP : va_P (dC, dI) vwCl (WR a k h0 (fT vi 11 0) vj (fT (fT (fT (fT vF 0 g3) 2 f23) 3 f33) 0 (upd g3 (nI (24 * (30 + i * (C + 1) + cn))).toNatClampNeg (-(g3 (24 * (30 + i * (C + 1) + cn)))))) (fT (fT vG 8 L80) 1 gs3)) H := hP
                have hD : va_D A (WR a k h0 (fT vi 11 0) vj (fT (fT (fT (fT vF 0 g3) 2 f23) 3 f33) 0 (upd g3 (nI (24 * (30 + i * (C + 1) + cn))).toNatClampNeg (-(g3 (24 * (30 + i * (C + 1) + cn)))))) (fT (fT vG 8 L80) 1 gs3)) := hD
                have e9 : fT (fT (fT vF 0 (upd g3 (nI (24 * (30 + i * (C + 1) + cn))).toNatClampNeg (-(g3 (24 * (30 + i * (C + 1) + cn)))))) 2 f23) 3 f33 = fT (fT (fT (fT vF 0 g3) 2 f23) 3 f33) 0 (upd g3 (nI (24 * (30 + i * (C + 1) + cn))).toNatClampNeg (-(g3 (24 * (30 + i * (C + 1) + cn))))) := ((fT_sw _ _ _ (Nat.ne_of_beq_eq_false rfl)).trans (congrArg (fun g9 => fT g9 3 f33) ((fT_sw _ _ _ (Nat.ne_of_beq_eq_false rfl)).trans (congrArg (fun g9 => fT g9 2 f23) (fT_sm _ _ _ _))))).symm
                rw [← e9] at hP hD
                clear e9
                have hP : va_P (dC, dI) vwCl (WR a k h0 (fT vi 11 0) vj (fT (fT (fT vF 0 (upd g3 (nI (24 * (30 + i * (C + 1) + cn))).toNatClampNeg (-(g3 (24 * (30 + i * (C + 1) + cn)))))) 2 f23) 3 f33) (fT (fT vG 8 L80) 1 gs3)) H := hP
                have hD : va_D A (WR a k h0 (fT vi 11 0) vj (fT (fT (fT vF 0 (upd g3 (nI (24 * (30 + i * (C + 1) + cn))).toNatClampNeg (-(g3 (24 * (30 + i * (C + 1) + cn)))))) 2 f23) 3 f33) (fT (fT vG 8 L80) 1 gs3)) := hD
                have f198_0 := hw9
                try dsimp only at f198_0
                have f198_0 : Bg (upd g3 (nI (24 * (30 + i * (C + 1) + cn))).toNatClampNeg (-(g3 (24 * (30 + i * (C + 1) + cn))))) (fT m3 (30 + i * (C + 1) + cn) (-(t i cn))) := f198_0
                refine lv_iinc (v := (nI (i + 1))) hx hb dX12_pivot_201 hl (k := 5) rfl (nI_add i 1) (by decide) rfl (fun ls (hl : lv_has ls _ ([(5, .int (nI (i + 1))), (0, .ref h0), (1, .int (nI rn)), (2, .int (nI cn)), (3, .int (nI (30 + rn * (C + 1) + cn))), (4, .int r30), (6, .int (nI j))])) => ?_)
                refine lv_goto (tgt := 45) hx hb dX12_pivot_204 (by decide) ?_
                have hl : lv_has _ _ ([(0, .ref h0), (1, .int (nI rn)), (2, .int (nI cn)), (3, .int (nI (30 + rn * (C + 1) + cn))), (4, .int r30), (5, .int (nI (i + 1)))]) := lv_sub hl [1, 2, 3, 4, 5, 0] rfl
                exact ih45 (i + 1) (upd g3 (nI (24 * (30 + i * (C + 1) + cn))).toNatClampNeg (-(g3 (24 * (30 + i * (C + 1) + cn))))) f23 f33 gs3 (fT m3 (30 + i * (C + 1) + cn) (-(t i cn))) _ _ _ (f198_0) ((by rw [fT_ne _ _ (by omega), h21b])) ((by rw [fT_ne _ _ (by omega), h20b])) (by omega) (fun i2 hi2 j2 hj2 => by by_cases e9 : i2 = i ∧ j2 = cn; ((have gx : (sgI (t rn cn)) = 1 := by omega); rw [e9.1, e9.2, fT_eq, if_pos (by omega), nv_col _ _ _ _ _ (by omega), gx]; omega); ((have n9 : 30 + i2 * (C + 1) + j2 ≠ 30 + i * (C + 1) + cn := fun h => e9 (pl_inj hj2 (by omega) (by omega))); rw [fT_ne _ _ n9, htab2 i2 hi2 j2 hj2]; exact if_congr (by omega) rfl rfl)) (fun q hq => by (rw [fT_ne _ _ (by omega)]); exact ho3 q hq) (by omega) hP hD hS hl
            · have t_77 : ¬ ((j : Nat) : Int) > ((C : Nat) : Int) := toI_ngt c_77 (nI_toInt (by omega)) (nI_toInt (by omega))
              refine lv_iload hx hb dX12_pivot_80 (lv_at hl 6 rfl) ?_
              refine lv_iload_n hx hb dX12_pivot_82 rfl (lv_at hl 2 rfl) ?_
              refine lv_icmp_ne (tgt := 89) hx hb dX12_pivot_83 (by decide) (fun c_83 => ?_) (fun c_83 => ?_)
              · have t_83 : ((j : Nat) : Int) ≠ ((cn : Nat) : Int) := toI_ne c_83 (nI_toInt (by omega)) (nI_toInt (by omega))
                have hpij := pl_lt (C := C) (show i < R + Gq by omega) (show j ≤ C by omega)
                have hpic := pl_lt (C := C) (show i < R + Gq by omega) (show cn ≤ C by omega)
                have hprj := pl_lt (C := C) (show rn < R + Gq by omega) (show j ≤ C by omega)
                refine lv_aload_n hx hb dX12_pivot_89 rfl (lv_at hl 0 rfl) ?_
                refine lv_bipush (v := 22) hx hb dX12_pivot_90 (by decide) ?_
                refine lv_aload_n hx hb dX12_pivot_92 rfl (lv_at hl 0 rfl) ?_
                refine lv_iload hx hb dX12_pivot_93 (lv_at hl 5 rfl) ?_
                refine lv_iload hx hb dX12_pivot_95 (lv_at hl 6 rfl) ?_
                have hFc := allFree hD hS hA
                refine va_calli (va_runV (As := [.int (nI i), .int (nI j)]) (rest := [.int 22, .ref h0]) ⟨hx, hb, hml, hown, hts⟩ (r_X12_at l dC dI a k h0 (fT vi 11 0) vj (fT (fT (fT vF 0 g3) 2 f23) 3 f33) (fT (fT vG 8 L80) 1 gs3) i j C (by first | assumption | decide | omega | rfl) H.size) (cwV 2 hts gwsRX12_pivot_2 rfl rfl rfl (by decide +kernel) ⟨by decide +kernel, by decide +kernel⟩) ⟨fun a U g mk q => by obtain ⟨q0, q1, qP, qK, qD⟩ := q; exact ⟨q0, q1, qP, va_K.moved (u := U) (U := U.calling g mk a) (Vm.Alike.refl U.vm) qK, qD⟩, va_recv hK hP (ci := 12) (q0 := 0) rfl rfl, fun U hU9 hW => ⟨rfl, by rw [hU9], by rw [hU9]; exact hP, va_K.moved hW.alike hK, hD.weaken (fun _ _ _ _ => trivial)⟩⟩ rfl rfl hl.1 rfl (lv_room (Nat.le_of_ble_eq_true rfl)) dX12_pivot_97 ⟨by decide +kernel, by decide +kernel⟩) hS (fun q _ h => hFc q h) hFc (fun r97 u t9_ H1 locs ht hvm hw9 hB9 hz1 hk1 hS => ?_)
                obtain ⟨hP1, hD1⟩ := hB9
                rw [ht] at hP1
                have hP := hP1
                have hD := hD1.weaken (fun _ q _ h => hFc q.1 h)
                generalize H1 = H at hP hS ⊢
                have hP : va_P (dC, dI) vwCl (WR a k h0 (fT vi 11 0) vj (fT (fT (fT vF 0 g3) 2 f23) 3 f33) (fT (fT vG 8 L80) 1 gs3)) H := hP
                have hD : va_D A (WR a k h0 (fT vi 11 0) vj (fT (fT (fT vF 0 g3) 2 f23) 3 f33) (fT (fT vG 8 L80) 1 gs3)) := hD
                obtain rfl := hw9
                refine lv_bipush (v := 21) hx hb dX12_pivot_100 (by decide) ?_
                have hFc := allFree hD hS hA
                refine va_callv (va_runV (As := [.int 22, .int (nI (30 + i * (C + 1) + j)), .int 21]) (rest := []) ⟨hx, hb, hml, hown, hts⟩ (b_X12_times l dC dI a k h0 (fT vi 11 0) vj (fT (fT (fT vF 0 g3) 2 f23) 3 f33) (fT (fT vG 8 L80) 1 gs3) 22 (30 + i * (C + 1) + j) 21 m3 hB3 (t i j) (t rn cn) (by rw [((htab2 i (by omega) j (by omega)).trans (if_neg (by omega)))]) (by rw [h21b]) (by first | assumption | decide | omega | rfl) (by first | assumption | decide | omega | rfl) (by first | assumption | decide | omega | rfl) (mul_bd (hbd i (by omega) j (by omega)) (hbd rn (by omega) cn (by omega)) (by decide)) H.size) (cwV 3 hts gwsRX12_pivot_7 rfl rfl rfl (by decide +kernel) ⟨by decide +kernel, by decide +kernel⟩) ⟨fun a U g mk q => by obtain ⟨q0, q1, qP, qK, qD⟩ := q; exact ⟨q0, q1, qP, va_K.moved (u := U) (U := U.calling g mk a) (Vm.Alike.refl U.vm) qK, qD⟩, va_recv hK hP (ci := 12) (q0 := 0) rfl rfl, fun U hU9 hW => ⟨rfl, by rw [hU9], by rw [hU9]; exact hP, va_K.moved hW.alike hK, hD.weaken (fun _ _ _ _ => trivial)⟩⟩ rfl rfl hl.1 rfl (lv_room (Nat.le_of_ble_eq_true rfl)) dX12_pivot_102 ⟨by decide +kernel, by decide +kernel⟩) hS (fun q _ h => hFc q h) hFc (fun u t9_ H1 locs ht hvm hw9 hB9 hz1 hk1 hS => ?_)
                obtain ⟨g102, gs102⟩ := u
                try dsimp only at hw9 hB9
                obtain ⟨hP1, hD1⟩ := hB9
                rw [ht] at hP1
                have hP := hP1
                have hD := hD1.weaken (fun _ q _ h => hFc q.1 h)
                generalize H1 = H at hP hS ⊢
                have hP : va_P (dC, dI) vwCl (WR a k h0 (fT vi 11 0) vj (fT (fT (fT (fT vF 0 g3) 2 f23) 3 f33) 0 g102) (fT (fT (fT vG 8 L80) 1 gs3) 1 gs102)) H := hP
                have hD : va_D A (WR a k h0 (fT vi 11 0) vj (fT (fT (fT (fT vF 0 g3) 2 f23) 3 f33) 0 g102) (fT (fT (fT vG 8 L80) 1 gs3) 1 gs102)) := hD
                have e9 : fT (fT (fT vF 0 g102) 2 f23) 3 f33 = fT (fT (fT (fT vF 0 g3) 2 f23) 3 f33) 0 g102 := ((fT_sw _ _ _ (Nat.ne_of_beq_eq_false rfl)).trans (congrArg (fun g9 => fT g9 3 f33) ((fT_sw _ _ _ (Nat.ne_of_beq_eq_false rfl)).trans (congrArg (fun g9 => fT g9 2 f23) (fT_sm _ _ _ _))))).symm
                rw [← e9] at hP hD
                clear e9
                have e9 : fT (fT vG 8 L80) 1 gs102 = fT (fT (fT vG 8 L80) 1 gs3) 1 gs102 := (fT_sm _ _ _ _).symm
                rw [← e9] at hP hD
                clear e9
                have hP : va_P (dC, dI) vwCl (WR a k h0 (fT vi 11 0) vj (fT (fT (fT vF 0 g102) 2 f23) 3 f33) (fT (fT vG 8 L80) 1 gs102)) H := hP
                have hD : va_D A (WR a k h0 (fT vi 11 0) vj (fT (fT (fT vF 0 g102) 2 f23) 3 f33) (fT (fT vG 8 L80) 1 gs102)) := hD
                have f102_0 := hw9
                try dsimp only at f102_0
                refine lv_aload_n hx hb dX12_pivot_105 rfl (lv_at hl 0 rfl) ?_
                refine lv_bipush (v := 23) hx hb dX12_pivot_106 (by decide) ?_
                refine lv_aload_n hx hb dX12_pivot_108 rfl (lv_at hl 0 rfl) ?_
                refine lv_iload hx hb dX12_pivot_109 (lv_at hl 5 rfl) ?_
                refine lv_iload_n hx hb dX12_pivot_111 rfl (lv_at hl 2 rfl) ?_
                have hFc := allFree hD hS hA
                refine va_calli (va_runV (As := [.int (nI i), .int (nI cn)]) (rest := [.int 23, .ref h0]) ⟨hx, hb, hml, hown, hts⟩ (r_X12_at l dC dI a k h0 (fT vi 11 0) vj (fT (fT (fT vF 0 g102) 2 f23) 3 f33) (fT (fT vG 8 L80) 1 gs102) i cn C (by first | assumption | decide | omega | rfl) H.size) (cwV 2 hts gwsRX12_pivot_2 rfl rfl rfl (by decide +kernel) ⟨by decide +kernel, by decide +kernel⟩) ⟨fun a U g mk q => by obtain ⟨q0, q1, qP, qK, qD⟩ := q; exact ⟨q0, q1, qP, va_K.moved (u := U) (U := U.calling g mk a) (Vm.Alike.refl U.vm) qK, qD⟩, va_recv hK hP (ci := 12) (q0 := 0) rfl rfl, fun U hU9 hW => ⟨rfl, by rw [hU9], by rw [hU9]; exact hP, va_K.moved hW.alike hK, hD.weaken (fun _ _ _ _ => trivial)⟩⟩ rfl rfl hl.1 rfl (lv_room (Nat.le_of_ble_eq_true rfl)) dX12_pivot_112 ⟨by decide +kernel, by decide +kernel⟩) hS (fun q _ h => hFc q h) hFc (fun r112 u t9_ H1 locs ht hvm hw9 hB9 hz1 hk1 hS => ?_)
                obtain ⟨hP1, hD1⟩ := hB9
                rw [ht] at hP1
                have hP := hP1
                have hD := hD1.weaken (fun _ q _ h => hFc q.1 h)
                generalize H1 = H at hP hS ⊢
                have hP : va_P (dC, dI) vwCl (WR a k h0 (fT vi 11 0) vj (fT (fT (fT vF 0 g102) 2 f23) 3 f33) (fT (fT vG 8 L80) 1 gs102)) H := hP
                have hD : va_D A (WR a k h0 (fT vi 11 0) vj (fT (fT (fT vF 0 g102) 2 f23) 3 f33) (fT (fT vG 8 L80) 1 gs102)) := hD
                obtain rfl := hw9
                refine lv_aload_n hx hb dX12_pivot_115 rfl (lv_at hl 0 rfl) ?_
                refine lv_iload_n hx hb dX12_pivot_116 rfl (lv_at hl 1 rfl) ?_
                refine lv_iload hx hb dX12_pivot_117 (lv_at hl 6 rfl) ?_
                have hFc := allFree hD hS hA
                refine va_calli (va_runV (As := [.int (nI rn), .int (nI j)]) (rest := [.int (nI (30 + i * (C + 1) + cn)), .int 23, .ref h0]) ⟨hx, hb, hml, hown, hts⟩ (r_X12_at l dC dI a k h0 (fT vi 11 0) vj (fT (fT (fT vF 0 g102) 2 f23) 3 f33) (fT (fT vG 8 L80) 1 gs102) rn j C (by first | assumption | decide | omega | rfl) H.size) (cwV 2 hts gwsRX12_pivot_2 rfl rfl rfl (by decide +kernel) ⟨by decide +kernel, by decide +kernel⟩) ⟨fun a U g mk q => by obtain ⟨q0, q1, qP, qK, qD⟩ := q; exact ⟨q0, q1, qP, va_K.moved (u := U) (U := U.calling g mk a) (Vm.Alike.refl U.vm) qK, qD⟩, va_recv hK hP (ci := 12) (q0 := 0) rfl rfl, fun U hU9 hW => ⟨rfl, by rw [hU9], by rw [hU9]; exact hP, va_K.moved hW.alike hK, hD.weaken (fun _ _ _ _ => trivial)⟩⟩ rfl rfl hl.1 rfl (lv_room (Nat.le_of_ble_eq_true rfl)) dX12_pivot_119 ⟨by decide +kernel, by decide +kernel⟩) hS (fun q _ h => hFc q h) hFc (fun r119 u t9_ H1 locs ht hvm hw9 hB9 hz1 hk1 hS => ?_)
                obtain ⟨hP1, hD1⟩ := hB9
                rw [ht] at hP1
                have hP := hP1
                have hD := hD1.weaken (fun _ q _ h => hFc q.1 h)
                generalize H1 = H at hP hS ⊢
                have hP : va_P (dC, dI) vwCl (WR a k h0 (fT vi 11 0) vj (fT (fT (fT vF 0 g102) 2 f23) 3 f33) (fT (fT vG 8 L80) 1 gs102)) H := hP
                have hD : va_D A (WR a k h0 (fT vi 11 0) vj (fT (fT (fT vF 0 g102) 2 f23) 3 f33) (fT (fT vG 8 L80) 1 gs102)) := hD
                obtain rfl := hw9
                have hFc := allFree hD hS hA
                refine va_callv (va_runV (As := [.int 23, .int (nI (30 + i * (C + 1) + cn)), .int (nI (30 + rn * (C + 1) + j))]) (rest := []) ⟨hx, hb, hml, hown, hts⟩ (b_X12_times l dC dI a k h0 (fT vi 11 0) vj (fT (fT (fT vF 0 g102) 2 f23) 3 f33) (fT (fT vG 8 L80) 1 gs102) 23 (30 + i * (C + 1) + cn) (30 + rn * (C + 1) + j) (fT m3 22 ((t i j) * (t rn cn))) f102_0 (t i cn) (t rn j) (by rw [fT_ne _ _ (by omega), ((htab2 i (by omega) cn (by omega)).trans (if_neg (by omega)))]) (by rw [fT_ne _ _ (by omega), ((htab2 rn (by omega) j (by omega)).trans (if_neg (by omega)))]) (by first | assumption | decide | omega | rfl) (by first | assumption | decide | omega | rfl) (by first | assumption | decide | omega | rfl) (mul_bd (hbd i (by omega) cn (by omega)) (hbd rn (by omega) j (by omega)) (by decide)) H.size) (cwV 3 hts gwsRX12_pivot_7 rfl rfl rfl (by decide +kernel) ⟨by decide +kernel, by decide +kernel⟩) ⟨fun a U g mk q => by obtain ⟨q0, q1, qP, qK, qD⟩ := q; exact ⟨q0, q1, qP, va_K.moved (u := U) (U := U.calling g mk a) (Vm.Alike.refl U.vm) qK, qD⟩, va_recv hK hP (ci := 12) (q0 := 0) rfl rfl, fun U hU9 hW => ⟨rfl, by rw [hU9], by rw [hU9]; exact hP, va_K.moved hW.alike hK, hD.weaken (fun _ _ _ _ => trivial)⟩⟩ rfl rfl hl.1 rfl (lv_room (Nat.le_of_ble_eq_true rfl)) dX12_pivot_122 ⟨by decide +kernel, by decide +kernel⟩) hS (fun q _ h => hFc q h) hFc (fun u t9_ H1 locs ht hvm hw9 hB9 hz1 hk1 hS => ?_)
                obtain ⟨g122, gs122⟩ := u
                try dsimp only at hw9 hB9
                obtain ⟨hP1, hD1⟩ := hB9
                rw [ht] at hP1
                have hP := hP1
                have hD := hD1.weaken (fun _ q _ h => hFc q.1 h)
                generalize H1 = H at hP hS ⊢
                have hP : va_P (dC, dI) vwCl (WR a k h0 (fT vi 11 0) vj (fT (fT (fT (fT vF 0 g102) 2 f23) 3 f33) 0 g122) (fT (fT (fT vG 8 L80) 1 gs102) 1 gs122)) H := hP
                have hD : va_D A (WR a k h0 (fT vi 11 0) vj (fT (fT (fT (fT vF 0 g102) 2 f23) 3 f33) 0 g122) (fT (fT (fT vG 8 L80) 1 gs102) 1 gs122)) := hD
                have e9 : fT (fT (fT vF 0 g122) 2 f23) 3 f33 = fT (fT (fT (fT vF 0 g102) 2 f23) 3 f33) 0 g122 := ((fT_sw _ _ _ (Nat.ne_of_beq_eq_false rfl)).trans (congrArg (fun g9 => fT g9 3 f33) ((fT_sw _ _ _ (Nat.ne_of_beq_eq_false rfl)).trans (congrArg (fun g9 => fT g9 2 f23) (fT_sm _ _ _ _))))).symm
                rw [← e9] at hP hD
                clear e9
                have e9 : fT (fT vG 8 L80) 1 gs122 = fT (fT (fT vG 8 L80) 1 gs102) 1 gs122 := (fT_sm _ _ _ _).symm
                rw [← e9] at hP hD
                clear e9
                have hP : va_P (dC, dI) vwCl (WR a k h0 (fT vi 11 0) vj (fT (fT (fT vF 0 g122) 2 f23) 3 f33) (fT (fT vG 8 L80) 1 gs122)) H := hP
                have hD : va_D A (WR a k h0 (fT vi 11 0) vj (fT (fT (fT vF 0 g122) 2 f23) 3 f33) (fT (fT vG 8 L80) 1 gs122)) := hD
                have f122_0 := hw9
                try dsimp only at f122_0
                refine lv_aload_n hx hb dX12_pivot_125 rfl (lv_at hl 0 rfl) ?_
                refine lv_bipush (v := 24) hx hb dX12_pivot_126 (by decide) ?_
                refine lv_bipush (v := 22) hx hb dX12_pivot_128 (by decide) ?_
                refine lv_bipush (v := 23) hx hb dX12_pivot_130 (by decide) ?_
                refine lv_iconst (v := (-1)) hx hb dX12_pivot_132 (by decide) ?_
                have hFc := allFree hD hS hA
                refine va_callv (va_runV (As := [.int 24, .int 22, .int 23, .int (-1)]) (rest := []) ⟨hx, hb, hml, hown, hts⟩ (b_X12_add l dC dI a k h0 (fT vi 11 0) vj (fT (fT (fT vF 0 g122) 2 f23) 3 f33) (fT (fT vG 8 L80) 1 gs122) 24 (-1) (-1) 22 23 (fT (fT m3 22 ((t i j) * (t rn cn))) 23 ((t i cn) * (t rn j))) f122_0 ((t i j) * (t rn cn)) ((t i cn) * (t rn j)) (by rw [fT_ne _ _ (by omega), fT_eq]) (by rw [fT_eq]) (by first | assumption | decide | omega | rfl) (by first | assumption | decide | omega | rfl) (by first | assumption | decide | omega | rfl) (Or.inr ⟨rfl, rfl⟩) (add_bd (mulabs_bd (hbd i (by omega) j (by omega)) (hbd rn (by omega) cn (by omega)) (by decide)) (mulabs_bd (hbd i (by omega) cn (by omega)) (hbd rn (by omega) j (by omega)) (by decide)) (Or.inr rfl)) H.size) (cwV 4 hts gwsRX12_pivot_8 rfl rfl rfl (by decide +kernel) ⟨by decide +kernel, by decide +kernel⟩) ⟨fun a U g mk q => by obtain ⟨q0, q1, qP, qK, qD⟩ := q; exact ⟨q0, q1, qP, va_K.moved (u := U) (U := U.calling g mk a) (Vm.Alike.refl U.vm) qK, qD⟩, va_recv hK hP (ci := 12) (q0 := 0) rfl rfl, fun U hU9 hW => ⟨rfl, by rw [hU9], by rw [hU9]; exact hP, va_K.moved hW.alike hK, hD.weaken (fun _ _ _ _ => trivial)⟩⟩ rfl rfl hl.1 rfl (lv_room (Nat.le_of_ble_eq_true rfl)) dX12_pivot_133 ⟨by decide +kernel, by decide +kernel⟩) hS (fun q _ h => hFc q h) hFc (fun u t9_ H1 locs ht hvm hw9 hB9 hz1 hk1 hS => ?_)
                obtain ⟨g133, gs133⟩ := u
                try dsimp only at hw9 hB9
                obtain ⟨hP1, hD1⟩ := hB9
                rw [ht] at hP1
                have hP := hP1
                have hD := hD1.weaken (fun _ q _ h => hFc q.1 h)
                generalize H1 = H at hP hS ⊢
                have hP : va_P (dC, dI) vwCl (WR a k h0 (fT vi 11 0) vj (fT (fT (fT (fT vF 0 g122) 2 f23) 3 f33) 0 g133) (fT (fT (fT vG 8 L80) 1 gs122) 1 gs133)) H := hP
                have hD : va_D A (WR a k h0 (fT vi 11 0) vj (fT (fT (fT (fT vF 0 g122) 2 f23) 3 f33) 0 g133) (fT (fT (fT vG 8 L80) 1 gs122) 1 gs133)) := hD
                have e9 : fT (fT (fT vF 0 g133) 2 f23) 3 f33 = fT (fT (fT (fT vF 0 g122) 2 f23) 3 f33) 0 g133 := ((fT_sw _ _ _ (Nat.ne_of_beq_eq_false rfl)).trans (congrArg (fun g9 => fT g9 3 f33) ((fT_sw _ _ _ (Nat.ne_of_beq_eq_false rfl)).trans (congrArg (fun g9 => fT g9 2 f23) (fT_sm _ _ _ _))))).symm
                rw [← e9] at hP hD
                clear e9
                have e9 : fT (fT vG 8 L80) 1 gs133 = fT (fT (fT vG 8 L80) 1 gs122) 1 gs133 := (fT_sm _ _ _ _).symm
                rw [← e9] at hP hD
                clear e9
                have hP : va_P (dC, dI) vwCl (WR a k h0 (fT vi 11 0) vj (fT (fT (fT vF 0 g133) 2 f23) 3 f33) (fT (fT vG 8 L80) 1 gs133)) H := hP
                have hD : va_D A (WR a k h0 (fT vi 11 0) vj (fT (fT (fT vF 0 g133) 2 f23) 3 f33) (fT (fT vG 8 L80) 1 gs133)) := hD
                have f133_0 := hw9
                try dsimp only at f133_0
                refine lv_aload_n hx hb dX12_pivot_136 rfl (lv_at hl 0 rfl) ?_
                refine lv_bipush (v := 25) hx hb dX12_pivot_137 (by decide) ?_
                refine lv_bipush (v := 26) hx hb dX12_pivot_139 (by decide) ?_
                refine lv_bipush (v := 24) hx hb dX12_pivot_141 (by decide) ?_
                refine lv_bipush (v := 20) hx hb dX12_pivot_143 (by decide) ?_
                have hFc := allFree hD hS hA
                refine va_callv (va_runV (As := [.int 25, .int 26, .int 24, .int 20]) (rest := []) ⟨hx, hb, hml, hown, hts⟩ (b_X12_divide l dC dI a k h0 (fT vi 11 0) vj (fT (fT (fT vF 0 g133) 2 f23) 3 f33) (fT (fT vG 8 L80) 1 gs133) 25 26 24 20 (fT (fT (fT m3 22 ((t i j) * (t rn cn))) 23 ((t i cn) * (t rn j))) 24 (((t i j) * (t rn cn)) + (-1) * ((t i cn) * (t rn j)))) f133_0 (((t i j) * (t rn cn)) + (-1) * ((t i cn) * (t rn j))) D (by rw [fT_eq]) (by rw [fT_ne _ _ (by omega), fT_ne _ _ (by omega), fT_ne _ _ (by omega), h20b]) (by first | assumption | decide | omega | rfl) (by first | assumption | decide | omega | rfl) (by first | assumption | decide | omega | rfl) (by first | assumption | decide | omega | rfl) (by first | assumption | decide | omega | rfl) (by first | assumption | decide | omega | rfl) (by first | assumption | decide | omega | rfl) H.size) (cwV 4 hts gwsRX12_pivot_9 rfl rfl rfl (by decide +kernel) ⟨by decide +kernel, by decide +kernel⟩) ⟨fun a U g mk q => by obtain ⟨q0, q1, qP, qK, qD⟩ := q; exact ⟨q0, q1, qP, va_K.moved (u := U) (U := U.calling g mk a) (Vm.Alike.refl U.vm) qK, qD⟩, va_recv hK hP (ci := 12) (q0 := 0) rfl rfl, fun U hU9 hW => ⟨rfl, by rw [hU9], by rw [hU9]; exact hP, va_K.moved hW.alike hK, hD.weaken (fun _ _ _ _ => trivial)⟩⟩ rfl rfl hl.1 rfl (lv_room (Nat.le_of_ble_eq_true rfl)) dX12_pivot_145 ⟨by decide +kernel, by decide +kernel⟩) hS (fun q _ h => hFc q h) hFc (fun u t9_ H1 locs ht hvm hw9 hB9 hz1 hk1 hS => ?_)
                obtain ⟨g145, f2w145, f3w145, gs145⟩ := u
                try dsimp only at hw9 hB9
                obtain ⟨hP1, hD1⟩ := hB9
                rw [ht] at hP1
                have hP := hP1
                have hD := hD1.weaken (fun _ q _ h => hFc q.1 h)
                generalize H1 = H at hP hS ⊢
                have hP : va_P (dC, dI) vwCl (WR a k h0 (fT vi 11 0) vj (fT (fT (fT (fT (fT (fT vF 0 g133) 2 f23) 3 f33) 2 f2w145) 3 f3w145) 0 g145) (fT (fT (fT vG 8 L80) 1 gs133) 1 gs145)) H := hP
                have hD : va_D A (WR a k h0 (fT vi 11 0) vj (fT (fT (fT (fT (fT (fT vF 0 g133) 2 f23) 3 f33) 2 f2w145) 3 f3w145) 0 g145) (fT (fT (fT vG 8 L80) 1 gs133) 1 gs145)) := hD
                have e9 : fT (fT (fT vF 0 g145) 2 f2w145) 3 f3w145 = fT (fT (fT (fT (fT (fT vF 0 g133) 2 f23) 3 f33) 2 f2w145) 3 f3w145) 0 g145 := ((congrArg (fun g9 => fT (fT g9 3 f3w145) 0 g145) ((fT_sw _ _ _ (Nat.ne_of_beq_eq_false rfl)).trans (congrArg (fun g9 => fT g9 3 f33) (fT_sm _ _ _ _)))).trans ((congrArg (fun g9 => fT g9 0 g145) (fT_sm _ _ _ _)).trans ((fT_sw _ _ _ (Nat.ne_of_beq_eq_false rfl)).trans (congrArg (fun g9 => fT g9 3 f3w145) ((fT_sw _ _ _ (Nat.ne_of_beq_eq_false rfl)).trans (congrArg (fun g9 => fT g9 2 f2w145) (fT_sm _ _ _ _))))))).symm
                rw [← e9] at hP hD
                clear e9
                have e9 : fT (fT vG 8 L80) 1 gs145 = fT (fT (fT vG 8 L80) 1 gs133) 1 gs145 := (fT_sm _ _ _ _).symm
                rw [← e9] at hP hD
                clear e9
                have hP : va_P (dC, dI) vwCl (WR a k h0 (fT vi 11 0) vj (fT (fT (fT vF 0 g145) 2 f2w145) 3 f3w145) (fT (fT vG 8 L80) 1 gs145)) H := hP
                have hD : va_D A (WR a k h0 (fT vi 11 0) vj (fT (fT (fT vF 0 g145) 2 f2w145) 3 f3w145) (fT (fT vG 8 L80) 1 gs145)) := hD
                have f145_0 := hw9
                try dsimp only at f145_0
                refine lv_aload_n hx hb dX12_pivot_148 rfl (lv_at hl 0 rfl) ?_
                refine lv_aload_n hx hb dX12_pivot_149 rfl (lv_at hl 0 rfl) ?_
                refine lv_iload hx hb dX12_pivot_150 (lv_at hl 5 rfl) ?_
                refine lv_iload hx hb dX12_pivot_152 (lv_at hl 6 rfl) ?_
                have hFc := allFree hD hS hA
                refine va_calli (va_runV (As := [.int (nI i), .int (nI j)]) (rest := [.ref h0]) ⟨hx, hb, hml, hown, hts⟩ (r_X12_at l dC dI a k h0 (fT vi 11 0) vj (fT (fT (fT vF 0 g145) 2 f2w145) 3 f3w145) (fT (fT vG 8 L80) 1 gs145) i j C (by first | assumption | decide | omega | rfl) H.size) (cwV 2 hts gwsRX12_pivot_2 rfl rfl rfl (by decide +kernel) ⟨by decide +kernel, by decide +kernel⟩) ⟨fun a U g mk q => by obtain ⟨q0, q1, qP, qK, qD⟩ := q; exact ⟨q0, q1, qP, va_K.moved (u := U) (U := U.calling g mk a) (Vm.Alike.refl U.vm) qK, qD⟩, va_recv hK hP (ci := 12) (q0 := 0) rfl rfl, fun U hU9 hW => ⟨rfl, by rw [hU9], by rw [hU9]; exact hP, va_K.moved hW.alike hK, hD.weaken (fun _ _ _ _ => trivial)⟩⟩ rfl rfl hl.1 rfl (lv_room (Nat.le_of_ble_eq_true rfl)) dX12_pivot_154 ⟨by decide +kernel, by decide +kernel⟩) hS (fun q _ h => hFc q h) hFc (fun r154 u t9_ H1 locs ht hvm hw9 hB9 hz1 hk1 hS => ?_)
                obtain ⟨hP1, hD1⟩ := hB9
                rw [ht] at hP1
                have hP := hP1
                have hD := hD1.weaken (fun _ q _ h => hFc q.1 h)
                generalize H1 = H at hP hS ⊢
                have hP : va_P (dC, dI) vwCl (WR a k h0 (fT vi 11 0) vj (fT (fT (fT vF 0 g145) 2 f2w145) 3 f3w145) (fT (fT vG 8 L80) 1 gs145)) H := hP
                have hD : va_D A (WR a k h0 (fT vi 11 0) vj (fT (fT (fT vF 0 g145) 2 f2w145) 3 f3w145) (fT (fT vG 8 L80) 1 gs145)) := hD
                obtain rfl := hw9
                refine lv_bipush (v := 25) hx hb dX12_pivot_157 (by decide) ?_
                have hFc := allFree hD hS hA
                refine va_callv (va_runV (As := [.int (nI (30 + i * (C + 1) + j)), .int 25]) (rest := []) ⟨hx, hb, hml, hown, hts⟩ (b_X12_copy l dC dI a k h0 (fT vi 11 0) vj (fT (fT (fT vF 0 g145) 2 f2w145) 3 f3w145) (fT (fT vG 8 L80) 1 gs145) (30 + i * (C + 1) + j) 25 (fT (fT (fT (fT (fT m3 22 ((t i j) * (t rn cn))) 23 ((t i cn) * (t rn j))) 24 (((t i j) * (t rn cn)) + (-1) * ((t i cn) * (t rn j)))) 25 (((((t i j) * (t rn cn)) + (-1) * ((t i cn) * (t rn j)))).tdiv D)) 26 (((((t i j) * (t rn cn)) + (-1) * ((t i cn) * (t rn j)))).tmod D)) f145_0 (((((t i j) * (t rn cn)) + (-1) * ((t i cn) * (t rn j)))).tdiv D) (by rw [fT_ne _ _ (by omega), fT_eq]) (by first | assumption | decide | omega | rfl) (by first | assumption | decide | omega | rfl) (by first | assumption | decide | omega | rfl) H.size) (cwV 2 hts gwsRX12_pivot_4 rfl rfl rfl (by decide +kernel) ⟨by decide +kernel, by decide +kernel⟩) ⟨fun a U g mk q => by obtain ⟨q0, q1, qP, qK, qD⟩ := q; exact ⟨q0, q1, qP, va_K.moved (u := U) (U := U.calling g mk a) (Vm.Alike.refl U.vm) qK, qD⟩, va_recv hK hP (ci := 12) (q0 := 0) rfl rfl, fun U hU9 hW => ⟨rfl, by rw [hU9], by rw [hU9]; exact hP, va_K.moved hW.alike hK, hD.weaken (fun _ _ _ _ => trivial)⟩⟩ rfl rfl hl.1 rfl (lv_room (Nat.le_of_ble_eq_true rfl)) dX12_pivot_159 ⟨by decide +kernel, by decide +kernel⟩) hS (fun q _ h => hFc q h) hFc (fun u t9_ H1 locs ht hvm hw9 hB9 hz1 hk1 hS => ?_)
                obtain ⟨g159, hwit159⟩ : ∃ w9, w9 = u := ⟨u, rfl⟩
                subst hwit159
                obtain ⟨hP1, hD1⟩ := hB9
                rw [ht] at hP1
                have hP := hP1
                have hD := hD1.weaken (fun _ q _ h => hFc q.1 h)
                generalize H1 = H at hP hS ⊢
                have hP : va_P (dC, dI) vwCl (WR a k h0 (fT vi 11 0) vj (fT (fT (fT (fT vF 0 g145) 2 f2w145) 3 f3w145) 0 g159) (fT (fT vG 8 L80) 1 gs145)) H := hP
                have hD : va_D A (WR a k h0 (fT vi 11 0) vj (fT (fT (fT (fT vF 0 g145) 2 f2w145) 3 f3w145) 0 g159) (fT (fT vG 8 L80) 1 gs145)) := hD
                have e9 : fT (fT (fT vF 0 g159) 2 f2w145) 3 f3w145 = fT (fT (fT (fT vF 0 g145) 2 f2w145) 3 f3w145) 0 g159 := ((fT_sw _ _ _ (Nat.ne_of_beq_eq_false rfl)).trans (congrArg (fun g9 => fT g9 3 f3w145) ((fT_sw _ _ _ (Nat.ne_of_beq_eq_false rfl)).trans (congrArg (fun g9 => fT g9 2 f2w145) (fT_sm _ _ _ _))))).symm
                rw [← e9] at hP hD
                clear e9
                have hP : va_P (dC, dI) vwCl (WR a k h0 (fT vi 11 0) vj (fT (fT (fT vF 0 g159) 2 f2w145) 3 f3w145) (fT (fT vG 8 L80) 1 gs145)) H := hP
                have hD : va_D A (WR a k h0 (fT vi 11 0) vj (fT (fT (fT vF 0 g159) 2 f2w145) 3 f3w145) (fT (fT vG 8 L80) 1 gs145)) := hD
                have f159_0 := hw9
                try dsimp only at f159_0
                refine lv_iload hx hb dX12_pivot_162 (lv_at hl 4 rfl) ?_
                refine lv_if_ge (tgt := 179) hx hb dX12_pivot_164 (by decide) (fun c_164 => ?_) (fun c_164 => ?_)
                · have t_164 : (r30).toInt ≥ 0 := toI_ge c_164 rfl (by decide)
                  refine lv_iinc (v := (nI (j + 1))) hx hb dX12_pivot_179 hl (k := 6) rfl (nI_add j 1) (by decide) rfl (fun ls (hl : lv_has ls _ ([(6, .int (nI (j + 1))), (0, .ref h0), (1, .int (nI rn)), (2, .int (nI cn)), (3, .int (nI (30 + rn * (C + 1) + cn))), (4, .int r30), (5, .int (nI i))])) => ?_)
                  refine lv_goto (tgt := 71) hx hb dX12_pivot_182 (by decide) ?_
                  have hl : lv_has _ _ ([(0, .ref h0), (1, .int (nI rn)), (2, .int (nI cn)), (3, .int (nI (30 + rn * (C + 1) + cn))), (4, .int r30), (5, .int (nI i)), (6, .int (nI (j + 1)))]) := lv_sub hl [1, 2, 3, 4, 5, 6, 0] rfl
                  exact ih71_2 (j + 1) g159 f2w145 f3w145 gs145 (fT (fT (fT (fT (fT (fT m3 22 ((t i j) * (t rn cn))) 23 ((t i cn) * (t rn j))) 24 (((t i j) * (t rn cn)) + (-1) * ((t i cn) * (t rn j)))) 25 (((((t i j) * (t rn cn)) + (-1) * ((t i cn) * (t rn j)))).tdiv D)) 26 (((((t i j) * (t rn cn)) + (-1) * ((t i cn) * (t rn j)))).tmod D)) (30 + i * (C + 1) + j) (((((t i j) * (t rn cn)) + (-1) * ((t i cn) * (t rn j)))).tdiv D)) _ _ _ (f159_0) ((by rw [fT_ne _ _ (by omega), fT_ne _ _ (by omega), fT_ne _ _ (by omega), fT_ne _ _ (by omega), fT_ne _ _ (by omega), fT_ne _ _ (by omega), h21b])) ((by rw [fT_ne _ _ (by omega), fT_ne _ _ (by omega), fT_ne _ _ (by omega), fT_ne _ _ (by omega), fT_ne _ _ (by omega), fT_ne _ _ (by omega), h20b])) (by omega) (fun i2 hi2 j2 hj2 => by by_cases e9 : i2 = i ∧ j2 = j; ((have gx : (sgI (t rn cn)) = 1 := by omega); rw [e9.1, e9.2, fT_eq, if_pos (by omega), nv_in _ _ _ _ _ (by omega) (by omega), gx]; omega); ((have n9 : 30 + i2 * (C + 1) + j2 ≠ 30 + i * (C + 1) + j := fun h => e9 (pl_inj hj2 (by omega) (by omega))); rw [fT_ne _ _ n9, fT_ne _ _ (by omega), fT_ne _ _ (by omega), fT_ne _ _ (by omega), fT_ne _ _ (by omega), fT_ne _ _ (by omega), htab2 i2 hi2 j2 hj2]; exact if_congr (by omega) rfl rfl)) (fun q hq => by (rw [fT_ne _ _ (by omega), fT_ne _ _ (by omega), fT_ne _ _ (by omega), fT_ne _ _ (by omega), fT_ne _ _ (by omega), fT_ne _ _ (by omega)]); exact ho3 q hq) (by omega) hP hD hS hl
                · have t_164 : ¬ (r30).toInt ≥ 0 := toI_nge c_164 rfl (by decide)
                  refine lv_aload_n hx hb dX12_pivot_167 rfl (lv_at hl 0 rfl) ?_
                  refine lv_aload_n hx hb dX12_pivot_168 rfl (lv_at hl 0 rfl) ?_
                  refine lv_iload hx hb dX12_pivot_169 (lv_at hl 5 rfl) ?_
                  refine lv_iload hx hb dX12_pivot_171 (lv_at hl 6 rfl) ?_
                  have hFc := allFree hD hS hA
                  refine va_calli (va_runV (As := [.int (nI i), .int (nI j)]) (rest := [.ref h0]) ⟨hx, hb, hml, hown, hts⟩ (r_X12_at l dC dI a k h0 (fT vi 11 0) vj (fT (fT (fT vF 0 g159) 2 f2w145) 3 f3w145) (fT (fT vG 8 L80) 1 gs145) i j C (by first | assumption | decide | omega | rfl) H.size) (cwV 2 hts gwsRX12_pivot_2 rfl rfl rfl (by decide +kernel) ⟨by decide +kernel, by decide +kernel⟩) ⟨fun a U g mk q => by obtain ⟨q0, q1, qP, qK, qD⟩ := q; exact ⟨q0, q1, qP, va_K.moved (u := U) (U := U.calling g mk a) (Vm.Alike.refl U.vm) qK, qD⟩, va_recv hK hP (ci := 12) (q0 := 0) rfl rfl, fun U hU9 hW => ⟨rfl, by rw [hU9], by rw [hU9]; exact hP, va_K.moved hW.alike hK, hD.weaken (fun _ _ _ _ => trivial)⟩⟩ rfl rfl hl.1 rfl (lv_room (Nat.le_of_ble_eq_true rfl)) dX12_pivot_173 ⟨by decide +kernel, by decide +kernel⟩) hS (fun q _ h => hFc q h) hFc (fun r173 u t9_ H1 locs ht hvm hw9 hB9 hz1 hk1 hS => ?_)
                  obtain ⟨hP1, hD1⟩ := hB9
                  rw [ht] at hP1
                  have hP := hP1
                  have hD := hD1.weaken (fun _ q _ h => hFc q.1 h)
                  generalize H1 = H at hP hS ⊢
                  have hP : va_P (dC, dI) vwCl (WR a k h0 (fT vi 11 0) vj (fT (fT (fT vF 0 g159) 2 f2w145) 3 f3w145) (fT (fT vG 8 L80) 1 gs145)) H := hP
                  have hD : va_D A (WR a k h0 (fT vi 11 0) vj (fT (fT (fT vF 0 g159) 2 f2w145) 3 f3w145) (fT (fT vG 8 L80) 1 gs145)) := hD
                  obtain rfl := hw9
                  have hFc := allFree hD hS hA
                  refine va_callv (va_runV (As := [.int (nI (30 + i * (C + 1) + j))]) (rest := []) ⟨hx, hb, hml, hown, hts⟩ (b_X12_turn l dC dI a k h0 (fT vi 11 0) vj (fT (fT (fT vF 0 g159) 2 f2w145) 3 f3w145) (fT (fT vG 8 L80) 1 gs145) (30 + i * (C + 1) + j) (fT (fT (fT (fT (fT (fT m3 22 ((t i j) * (t rn cn))) 23 ((t i cn) * (t rn j))) 24 (((t i j) * (t rn cn)) + (-1) * ((t i cn) * (t rn j)))) 25 (((((t i j) * (t rn cn)) + (-1) * ((t i cn) * (t rn j)))).tdiv D)) 26 (((((t i j) * (t rn cn)) + (-1) * ((t i cn) * (t rn j)))).tmod D)) (30 + i * (C + 1) + j) (((((t i j) * (t rn cn)) + (-1) * ((t i cn) * (t rn j)))).tdiv D)) f159_0 (((((t i j) * (t rn cn)) + (-1) * ((t i cn) * (t rn j)))).tdiv D) (by rw [fT_eq]) (by first | assumption | decide | omega | rfl) H.size) (cwV 1 hts gwsRX12_pivot_5 rfl rfl rfl (by decide +kernel) ⟨by decide +kernel, by decide +kernel⟩) ⟨fun a U g mk q => by obtain ⟨q0, q1, qP, qK, qD⟩ := q; exact ⟨q0, q1, qP, va_K.moved (u := U) (U := U.calling g mk a) (Vm.Alike.refl U.vm) qK, qD⟩, va_recv hK hP (ci := 12) (q0 := 0) rfl rfl, fun U hU9 hW => ⟨rfl, by rw [hU9], by rw [hU9]; exact hP, va_K.moved hW.alike hK, hD.weaken (fun _ _ _ _ => trivial)⟩⟩ rfl rfl hl.1 rfl (lv_room (Nat.le_of_ble_eq_true rfl)) dX12_pivot_176 ⟨by decide +kernel, by decide +kernel⟩) hS (fun q _ h => hFc q h) hFc (fun u t9_ H1 locs ht hvm hw9 hB9 hz1 hk1 hS => ?_)
                  obtain ⟨hP1, hD1⟩ := hB9
                  rw [ht] at hP1
                  have hP := hP1
                  have hD := hD1.weaken (fun _ q _ h => hFc q.1 h)
                  generalize H1 = H at hP hS ⊢
                  have hP : va_P (dC, dI) vwCl (WR a k h0 (fT vi 11 0) vj (fT (fT (fT (fT vF 0 g159) 2 f2w145) 3 f3w145) 0 (upd g159 (nI (24 * (30 + i * (C + 1) + j))).toNatClampNeg (-(g159 (24 * (30 + i * (C + 1) + j)))))) (fT (fT vG 8 L80) 1 gs145)) H := hP
                  have hD : va_D A (WR a k h0 (fT vi 11 0) vj (fT (fT (fT (fT vF 0 g159) 2 f2w145) 3 f3w145) 0 (upd g159 (nI (24 * (30 + i * (C + 1) + j))).toNatClampNeg (-(g159 (24 * (30 + i * (C + 1) + j)))))) (fT (fT vG 8 L80) 1 gs145)) := hD
                  have e9 : fT (fT (fT vF 0 (upd g159 (nI (24 * (30 + i * (C + 1) + j))).toNatClampNeg (-(g159 (24 * (30 + i * (C + 1) + j)))))) 2 f2w145) 3 f3w145 = fT (fT (fT (fT vF 0 g159) 2 f2w145) 3 f3w145) 0 (upd g159 (nI (24 * (30 + i * (C + 1) + j))).toNatClampNeg (-(g159 (24 * (30 + i * (C + 1) + j))))) := ((fT_sw _ _ _ (Nat.ne_of_beq_eq_false rfl)).trans (congrArg (fun g9 => fT g9 3 f3w145) ((fT_sw _ _ _ (Nat.ne_of_beq_eq_false rfl)).trans (congrArg (fun g9 => fT g9 2 f2w145) (fT_sm _ _ _ _))))).symm
                  rw [← e9] at hP hD
                  clear e9
                  have hP : va_P (dC, dI) vwCl (WR a k h0 (fT vi 11 0) vj (fT (fT (fT vF 0 (upd g159 (nI (24 * (30 + i * (C + 1) + j))).toNatClampNeg (-(g159 (24 * (30 + i * (C + 1) + j)))))) 2 f2w145) 3 f3w145) (fT (fT vG 8 L80) 1 gs145)) H := hP
                  have hD : va_D A (WR a k h0 (fT vi 11 0) vj (fT (fT (fT vF 0 (upd g159 (nI (24 * (30 + i * (C + 1) + j))).toNatClampNeg (-(g159 (24 * (30 + i * (C + 1) + j)))))) 2 f2w145) 3 f3w145) (fT (fT vG 8 L80) 1 gs145)) := hD
                  have f176_0 := hw9
                  try dsimp only at f176_0
                  have f176_0 : Bg (upd g159 (nI (24 * (30 + i * (C + 1) + j))).toNatClampNeg (-(g159 (24 * (30 + i * (C + 1) + j))))) (fT (fT (fT (fT (fT (fT (fT m3 22 ((t i j) * (t rn cn))) 23 ((t i cn) * (t rn j))) 24 (((t i j) * (t rn cn)) + (-1) * ((t i cn) * (t rn j)))) 25 (((((t i j) * (t rn cn)) + (-1) * ((t i cn) * (t rn j)))).tdiv D)) 26 (((((t i j) * (t rn cn)) + (-1) * ((t i cn) * (t rn j)))).tmod D)) (30 + i * (C + 1) + j) (((((t i j) * (t rn cn)) + (-1) * ((t i cn) * (t rn j)))).tdiv D)) (30 + i * (C + 1) + j) (-(((((t i j) * (t rn cn)) + (-1) * ((t i cn) * (t rn j)))).tdiv D))) := f176_0
                  refine lv_iinc (v := (nI (j + 1))) hx hb dX12_pivot_179 hl (k := 6) rfl (nI_add j 1) (by decide) rfl (fun ls (hl : lv_has ls _ ([(6, .int (nI (j + 1))), (0, .ref h0), (1, .int (nI rn)), (2, .int (nI cn)), (3, .int (nI (30 + rn * (C + 1) + cn))), (4, .int r30), (5, .int (nI i))])) => ?_)
                  refine lv_goto (tgt := 71) hx hb dX12_pivot_182 (by decide) ?_
                  have hl : lv_has _ _ ([(0, .ref h0), (1, .int (nI rn)), (2, .int (nI cn)), (3, .int (nI (30 + rn * (C + 1) + cn))), (4, .int r30), (5, .int (nI i)), (6, .int (nI (j + 1)))]) := lv_sub hl [1, 2, 3, 4, 5, 6, 0] rfl
                  exact ih71_2 (j + 1) (upd g159 (nI (24 * (30 + i * (C + 1) + j))).toNatClampNeg (-(g159 (24 * (30 + i * (C + 1) + j))))) f2w145 f3w145 gs145 (fT (fT (fT (fT (fT (fT (fT m3 22 ((t i j) * (t rn cn))) 23 ((t i cn) * (t rn j))) 24 (((t i j) * (t rn cn)) + (-1) * ((t i cn) * (t rn j)))) 25 (((((t i j) * (t rn cn)) + (-1) * ((t i cn) * (t rn j)))).tdiv D)) 26 (((((t i j) * (t rn cn)) + (-1) * ((t i cn) * (t rn j)))).tmod D)) (30 + i * (C + 1) + j) (((((t i j) * (t rn cn)) + (-1) * ((t i cn) * (t rn j)))).tdiv D)) (30 + i * (C + 1) + j) (-(((((t i j) * (t rn cn)) + (-1) * ((t i cn) * (t rn j)))).tdiv D))) _ _ _ (f176_0) ((by rw [fT_ne _ _ (by omega), fT_ne _ _ (by omega), fT_ne _ _ (by omega), fT_ne _ _ (by omega), fT_ne _ _ (by omega), fT_ne _ _ (by omega), fT_ne _ _ (by omega), h21b])) ((by rw [fT_ne _ _ (by omega), fT_ne _ _ (by omega), fT_ne _ _ (by omega), fT_ne _ _ (by omega), fT_ne _ _ (by omega), fT_ne _ _ (by omega), fT_ne _ _ (by omega), h20b])) (by omega) (fun i2 hi2 j2 hj2 => by by_cases e9 : i2 = i ∧ j2 = j; ((have gx : (sgI (t rn cn)) = -1 := by omega); rw [e9.1, e9.2, fT_eq, if_pos (by omega), nv_in _ _ _ _ _ (by omega) (by omega), gx]; omega); ((have n9 : 30 + i2 * (C + 1) + j2 ≠ 30 + i * (C + 1) + j := fun h => e9 (pl_inj hj2 (by omega) (by omega))); rw [fT_ne _ _ n9, fT_ne _ _ n9, fT_ne _ _ (by omega), fT_ne _ _ (by omega), fT_ne _ _ (by omega), fT_ne _ _ (by omega), fT_ne _ _ (by omega), htab2 i2 hi2 j2 hj2]; exact if_congr (by omega) rfl rfl)) (fun q hq => by (rw [fT_ne _ _ (by omega), fT_ne _ _ (by omega), fT_ne _ _ (by omega), fT_ne _ _ (by omega), fT_ne _ _ (by omega), fT_ne _ _ (by omega), fT_ne _ _ (by omega)]); exact ho3 q hq) (by omega) hP hD hS hl
              · have t_83 : ((j : Nat) : Int) = ((cn : Nat) : Int) := toI_nne c_83 (nI_toInt (by omega)) (nI_toInt (by omega))
                refine lv_goto (tgt := 179) hx hb dX12_pivot_86 (by decide) ?_
                refine lv_iinc (v := (nI (j + 1))) hx hb dX12_pivot_179 hl (k := 6) rfl (nI_add j 1) (by decide) rfl (fun ls (hl : lv_has ls _ ([(6, .int (nI (j + 1))), (0, .ref h0), (1, .int (nI rn)), (2, .int (nI cn)), (3, .int (nI (30 + rn * (C + 1) + cn))), (4, .int r30), (5, .int (nI i))])) => ?_)
                refine lv_goto (tgt := 71) hx hb dX12_pivot_182 (by decide) ?_
                have hl : lv_has _ _ ([(0, .ref h0), (1, .int (nI rn)), (2, .int (nI cn)), (3, .int (nI (30 + rn * (C + 1) + cn))), (4, .int r30), (5, .int (nI i)), (6, .int (nI (j + 1)))]) := lv_sub hl [1, 2, 3, 4, 5, 6, 0] rfl
                exact ih71_2 (j + 1) g3 f23 f33 gs3 m3 _ _ _ (hB3) ((by rw [h21b])) ((by rw [h20b])) (by omega) (fun i2 hi2 j2 hj2 => by rw [htab2 i2 hi2 j2 hj2]; exact if_congr (by omega) rfl rfl) (ho3) (by omega) hP hD hS hl
        · have t_62 : ((i : Nat) : Int) = ((rn : Nat) : Int) := toI_nne c_62 (nI_toInt (by omega)) (nI_toInt (by omega))
          refine lv_goto (tgt := 201) hx hb dX12_pivot_65 (by decide) ?_
          refine lv_iinc (v := (nI (i + 1))) hx hb dX12_pivot_201 hl (k := 5) rfl (nI_add i 1) (by decide) rfl (fun ls (hl : lv_has ls _ ([(5, .int (nI (i + 1))), (0, .ref h0), (1, .int (nI rn)), (2, .int (nI cn)), (3, .int (nI (30 + rn * (C + 1) + cn))), (4, .int r30)])) => ?_)
          refine lv_goto (tgt := 45) hx hb dX12_pivot_204 (by decide) ?_
          have hl : lv_has _ _ ([(0, .ref h0), (1, .int (nI rn)), (2, .int (nI cn)), (3, .int (nI (30 + rn * (C + 1) + cn))), (4, .int r30), (5, .int (nI (i + 1)))]) := lv_sub hl [1, 2, 3, 4, 5, 0] rfl
          exact ih45 (i + 1) g1 f21 f31 gs1 m1 _ _ _ (hB1) ((by rw [h21])) ((by rw [h20])) (by omega) (fun i2 hi2 j2 hj2 => by rw [htab i2 hi2 j2 hj2]; exact if_congr (by omega) rfl rfl) (ho) (by omega) hP hD hS hl

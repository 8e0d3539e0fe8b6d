section
theorem hd_yX12_pivotsQuick_RX12 : yX12_pivotsQuick.cls = RX12 ∧ yX12_pivotsQuick.cls ≠ "java/lang/invoke/MethodHandle" ∧ yX12_pivotsQuick.cls ≠ "java/lang/invoke/VarHandle" ∧ (parseMethodDescriptor yX12_pivotsQuick.desc).map (fun d => d.parameters.length) = some 2 := by decide +kernel
theorem hd_yX12_spill_RX12 : yX12_spill.cls = RX12 ∧ yX12_spill.cls ≠ "java/lang/invoke/MethodHandle" ∧ yX12_spill.cls ≠ "java/lang/invoke/VarHandle" ∧ (parseMethodDescriptor yX12_spill.desc).map (fun d => d.parameters.length) = some 0 := by decide +kernel
theorem hd_yX12_add_RX12 : yX12_add.cls = RX12 ∧ yX12_add.cls ≠ "java/lang/invoke/MethodHandle" ∧ yX12_add.cls ≠ "java/lang/invoke/VarHandle" ∧ (parseMethodDescriptor yX12_add.desc).map (fun d => d.parameters.length) = some 4 := by decide +kernel
theorem dX12_pivot_0 : decode cX12_pivot 0 = .ok (.aload_n 0, 1) := dk_42 (by decide +kernel)
theorem dX12_pivot_1 : decode cX12_pivot 1 = .ok (.getfield 414, 3) := dk_180 (by decide +kernel)
theorem dX12_pivot_4 : decode cX12_pivot 4 = .ok (.ifCond .eq 13, 3) := dk_153 (by decide +kernel)
theorem dX12_pivot_7 : decode cX12_pivot 7 = .ok (.aload_n 0, 1) := dk_42 (by decide +kernel)
theorem dX12_pivot_8 : decode cX12_pivot 8 = .ok (.iload_n 1, 1) := dk_27 (by decide +kernel)
theorem dX12_pivot_9 : decode cX12_pivot 9 = .ok (.iload_n 2, 1) := dk_28 (by decide +kernel)
theorem dX12_pivot_10 : decode cX12_pivot 10 = .ok (.invokevirtual 436, 3) := dk_182 (by decide +kernel)
theorem dX12_pivot_13 : decode cX12_pivot 13 = .ok (.ifCond .eq 4, 3) := dk_153 (by decide +kernel)
theorem dX12_pivot_16 : decode cX12_pivot 16 = .ok (.return_, 1) := dk_177 (by decide +kernel)
theorem dX12_pivot_17 : decode cX12_pivot 17 = .ok (.aload_n 0, 1) := dk_42 (by decide +kernel)
theorem dX12_pivot_18 : decode cX12_pivot 18 = .ok (.invokevirtual 440, 3) := dk_182 (by decide +kernel)
theorem dX12_pivot_21 : decode cX12_pivot 21 = .ok (.aload_n 0, 1) := dk_42 (by decide +kernel)
theorem dX12_pivot_22 : decode cX12_pivot 22 = .ok (.iload_n 1, 1) := dk_27 (by decide +kernel)
theorem dX12_pivot_23 : decode cX12_pivot 23 = .ok (.iload_n 2, 1) := dk_28 (by decide +kernel)
theorem dX12_pivot_24 : decode cX12_pivot 24 = .ok (.invokevirtual 405, 3) := dk_182 (by decide +kernel)
theorem dX12_pivot_27 : decode cX12_pivot 27 = .ok (.istore_n 3, 1) := dk_62 (by decide +kernel)
theorem dX12_pivot_28 : decode cX12_pivot 28 = .ok (.aload_n 0, 1) := dk_42 (by decide +kernel)
theorem dX12_pivot_29 : decode cX12_pivot 29 = .ok (.iload_n 3, 1) := dk_29 (by decide +kernel)
theorem dX12_pivot_30 : decode cX12_pivot 30 = .ok (.invokevirtual 353, 3) := dk_182 (by decide +kernel)
theorem dX12_pivot_33 : decode cX12_pivot 33 = .ok (.istore 4, 2) := dk_54 (by decide +kernel)
theorem dX12_pivot_35 : decode cX12_pivot 35 = .ok (.aload_n 0, 1) := dk_42 (by decide +kernel)
theorem dX12_pivot_36 : decode cX12_pivot 36 = .ok (.bipush 21, 2) := dk_16 (by decide +kernel)
theorem dX12_pivot_38 : decode cX12_pivot 38 = .ok (.iload_n 3, 1) := dk_29 (by decide +kernel)
theorem dX12_pivot_39 : decode cX12_pivot 39 = .ok (.invokevirtual 365, 3) := dk_182 (by decide +kernel)
theorem dX12_pivot_42 : decode cX12_pivot 42 = .ok (.iconst 0, 1) := dk_3 (by decide +kernel)
theorem dX12_pivot_43 : decode cX12_pivot 43 = .ok (.istore 5, 2) := dk_54 (by decide +kernel)
theorem dX12_pivot_45 : decode cX12_pivot 45 = .ok (.iload 5, 2) := dk_21 (by decide +kernel)
theorem dX12_pivot_47 : decode cX12_pivot 47 = .ok (.aload_n 0, 1) := dk_42 (by decide +kernel)
theorem dX12_pivot_48 : decode cX12_pivot 48 = .ok (.getfield 399, 3) := dk_180 (by decide +kernel)
theorem dX12_pivot_51 : decode cX12_pivot 51 = .ok (.aload_n 0, 1) := dk_42 (by decide +kernel)
theorem dX12_pivot_52 : decode cX12_pivot 52 = .ok (.getfield 402, 3) := dk_180 (by decide +kernel)
theorem dX12_pivot_55 : decode cX12_pivot 55 = .ok (.iadd, 1) := dk_96 (by decide +kernel)
theorem dX12_pivot_56 : decode cX12_pivot 56 = .ok (.if_icmp .ge 151, 3) := dk_162 (by decide +kernel)
theorem dX12_pivot_59 : decode cX12_pivot 59 = .ok (.iload 5, 2) := dk_21 (by decide +kernel)
theorem dX12_pivot_61 : decode cX12_pivot 61 = .ok (.iload_n 1, 1) := dk_27 (by decide +kernel)
theorem dX12_pivot_62 : decode cX12_pivot 62 = .ok (.if_icmp .ne 6, 3) := dk_160 (by decide +kernel)
theorem dX12_pivot_65 : decode cX12_pivot 65 = .ok (.goto 136, 3) := dk_167 (by decide +kernel)
theorem dX12_pivot_68 : decode cX12_pivot 68 = .ok (.iconst 0, 1) := dk_3 (by decide +kernel)
theorem dX12_pivot_69 : decode cX12_pivot 69 = .ok (.istore 6, 2) := dk_54 (by decide +kernel)
theorem dX12_pivot_71 : decode cX12_pivot 71 = .ok (.iload 6, 2) := dk_21 (by decide +kernel)
theorem dX12_pivot_73 : decode cX12_pivot 73 = .ok (.aload_n 0, 1) := dk_42 (by decide +kernel)
theorem dX12_pivot_74 : decode cX12_pivot 74 = .ok (.getfield 396, 3) := dk_180 (by decide +kernel)
theorem dX12_pivot_77 : decode cX12_pivot 77 = .ok (.if_icmp .gt 108, 3) := dk_163 (by decide +kernel)
theorem dX12_pivot_80 : decode cX12_pivot 80 = .ok (.iload 6, 2) := dk_21 (by decide +kernel)
theorem dX12_pivot_82 : decode cX12_pivot 82 = .ok (.iload_n 2, 1) := dk_28 (by decide +kernel)
theorem dX12_pivot_83 : decode cX12_pivot 83 = .ok (.if_icmp .ne 6, 3) := dk_160 (by decide +kernel)
theorem dX12_pivot_86 : decode cX12_pivot 86 = .ok (.goto 93, 3) := dk_167 (by decide +kernel)
theorem dX12_pivot_89 : decode cX12_pivot 89 = .ok (.aload_n 0, 1) := dk_42 (by decide +kernel)
theorem dX12_pivot_90 : decode cX12_pivot 90 = .ok (.bipush 22, 2) := dk_16 (by decide +kernel)
theorem dX12_pivot_92 : decode cX12_pivot 92 = .ok (.aload_n 0, 1) := dk_42 (by decide +kernel)
theorem dX12_pivot_93 : decode cX12_pivot 93 = .ok (.iload 5, 2) := dk_21 (by decide +kernel)
theorem dX12_pivot_95 : decode cX12_pivot 95 = .ok (.iload 6, 2) := dk_21 (by decide +kernel)
theorem dX12_pivot_97 : decode cX12_pivot 97 = .ok (.invokevirtual 405, 3) := dk_182 (by decide +kernel)
theorem dX12_pivot_100 : decode cX12_pivot 100 = .ok (.bipush 21, 2) := dk_16 (by decide +kernel)
theorem dX12_pivot_102 : decode cX12_pivot 102 = .ok (.invokevirtual 390, 3) := dk_182 (by decide +kernel)
theorem dX12_pivot_105 : decode cX12_pivot 105 = .ok (.aload_n 0, 1) := dk_42 (by decide +kernel)
theorem dX12_pivot_106 : decode cX12_pivot 106 = .ok (.bipush 23, 2) := dk_16 (by decide +kernel)
theorem dX12_pivot_108 : decode cX12_pivot 108 = .ok (.aload_n 0, 1) := dk_42 (by decide +kernel)
theorem dX12_pivot_109 : decode cX12_pivot 109 = .ok (.iload 5, 2) := dk_21 (by decide +kernel)
theorem dX12_pivot_111 : decode cX12_pivot 111 = .ok (.iload_n 2, 1) := dk_28 (by decide +kernel)
theorem dX12_pivot_112 : decode cX12_pivot 112 = .ok (.invokevirtual 405, 3) := dk_182 (by decide +kernel)
theorem dX12_pivot_115 : decode cX12_pivot 115 = .ok (.aload_n 0, 1) := dk_42 (by decide +kernel)
theorem dX12_pivot_116 : decode cX12_pivot 116 = .ok (.iload_n 1, 1) := dk_27 (by decide +kernel)
theorem dX12_pivot_117 : decode cX12_pivot 117 = .ok (.iload 6, 2) := dk_21 (by decide +kernel)
theorem dX12_pivot_119 : decode cX12_pivot 119 = .ok (.invokevirtual 405, 3) := dk_182 (by decide +kernel)
theorem dX12_pivot_122 : decode cX12_pivot 122 = .ok (.invokevirtual 390, 3) := dk_182 (by decide +kernel)
theorem dX12_pivot_125 : decode cX12_pivot 125 = .ok (.aload_n 0, 1) := dk_42 (by decide +kernel)
theorem dX12_pivot_126 : decode cX12_pivot 126 = .ok (.bipush 24, 2) := dk_16 (by decide +kernel)
theorem dX12_pivot_128 : decode cX12_pivot 128 = .ok (.bipush 22, 2) := dk_16 (by decide +kernel)
theorem dX12_pivot_130 : decode cX12_pivot 130 = .ok (.bipush 23, 2) := dk_16 (by decide +kernel)
theorem dX12_pivot_132 : decode cX12_pivot 132 = .ok (.iconst (-1), 1) := dk_2 (by decide +kernel)
theorem dX12_pivot_133 : decode cX12_pivot 133 = .ok (.invokevirtual 443, 3) := dk_182 (by decide +kernel)
theorem dX12_pivot_136 : decode cX12_pivot 136 = .ok (.aload_n 0, 1) := dk_42 (by decide +kernel)
theorem dX12_pivot_137 : decode cX12_pivot 137 = .ok (.bipush 25, 2) := dk_16 (by decide +kernel)
theorem dX12_pivot_139 : decode cX12_pivot 139 = .ok (.bipush 26, 2) := dk_16 (by decide +kernel)
theorem dX12_pivot_141 : decode cX12_pivot 141 = .ok (.bipush 24, 2) := dk_16 (by decide +kernel)
theorem dX12_pivot_143 : decode cX12_pivot 143 = .ok (.bipush 20, 2) := dk_16 (by decide +kernel)
theorem dX12_pivot_145 : decode cX12_pivot 145 = .ok (.invokevirtual 383, 3) := dk_182 (by decide +kernel)
theorem dX12_pivot_148 : decode cX12_pivot 148 = .ok (.aload_n 0, 1) := dk_42 (by decide +kernel)
theorem dX12_pivot_149 : decode cX12_pivot 149 = .ok (.aload_n 0, 1) := dk_42 (by decide +kernel)
theorem dX12_pivot_150 : decode cX12_pivot 150 = .ok (.iload 5, 2) := dk_21 (by decide +kernel)
theorem dX12_pivot_152 : decode cX12_pivot 152 = .ok (.iload 6, 2) := dk_21 (by decide +kernel)
theorem dX12_pivot_154 : decode cX12_pivot 154 = .ok (.invokevirtual 405, 3) := dk_182 (by decide +kernel)
theorem dX12_pivot_157 : decode cX12_pivot 157 = .ok (.bipush 25, 2) := dk_16 (by decide +kernel)
theorem dX12_pivot_159 : decode cX12_pivot 159 = .ok (.invokevirtual 365, 3) := dk_182 (by decide +kernel)
theorem dX12_pivot_162 : decode cX12_pivot 162 = .ok (.iload 4, 2) := dk_21 (by decide +kernel)
theorem dX12_pivot_164 : decode cX12_pivot 164 = .ok (.ifCond .ge 15, 3) := dk_156 (by decide +kernel)
theorem dX12_pivot_167 : decode cX12_pivot 167 = .ok (.aload_n 0, 1) := dk_42 (by decide +kernel)
theorem dX12_pivot_168 : decode cX12_pivot 168 = .ok (.aload_n 0, 1) := dk_42 (by decide +kernel)
theorem dX12_pivot_169 : decode cX12_pivot 169 = .ok (.iload 5, 2) := dk_21 (by decide +kernel)
theorem dX12_pivot_171 : decode cX12_pivot 171 = .ok (.iload 6, 2) := dk_21 (by decide +kernel)
theorem dX12_pivot_173 : decode cX12_pivot 173 = .ok (.invokevirtual 405, 3) := dk_182 (by decide +kernel)
theorem dX12_pivot_176 : decode cX12_pivot 176 = .ok (.invokevirtual 379, 3) := dk_182 (by decide +kernel)
theorem dX12_pivot_179 : decode cX12_pivot 179 = .ok (.iinc 6 1, 3) := dk_132 (by decide +kernel)
theorem dX12_pivot_182 : decode cX12_pivot 182 = .ok (.goto (-111), 3) := dk_167 (by decide +kernel)
theorem dX12_pivot_185 : decode cX12_pivot 185 = .ok (.iload 4, 2) := dk_21 (by decide +kernel)
theorem dX12_pivot_187 : decode cX12_pivot 187 = .ok (.ifCond .le 14, 3) := dk_158 (by decide +kernel)
theorem dX12_pivot_190 : decode cX12_pivot 190 = .ok (.aload_n 0, 1) := dk_42 (by decide +kernel)
theorem dX12_pivot_191 : decode cX12_pivot 191 = .ok (.aload_n 0, 1) := dk_42 (by decide +kernel)
theorem dX12_pivot_192 : decode cX12_pivot 192 = .ok (.iload 5, 2) := dk_21 (by decide +kernel)
theorem dX12_pivot_194 : decode cX12_pivot 194 = .ok (.iload_n 2, 1) := dk_28 (by decide +kernel)
theorem dX12_pivot_195 : decode cX12_pivot 195 = .ok (.invokevirtual 405, 3) := dk_182 (by decide +kernel)
theorem dX12_pivot_198 : decode cX12_pivot 198 = .ok (.invokevirtual 379, 3) := dk_182 (by decide +kernel)
theorem dX12_pivot_201 : decode cX12_pivot 201 = .ok (.iinc 5 1, 3) := dk_132 (by decide +kernel)
theorem dX12_pivot_204 : decode cX12_pivot 204 = .ok (.goto (-159), 3) := dk_167 (by decide +kernel)
theorem dX12_pivot_207 : decode cX12_pivot 207 = .ok (.iconst 0, 1) := dk_3 (by decide +kernel)
theorem dX12_pivot_208 : decode cX12_pivot 208 = .ok (.istore 5, 2) := dk_54 (by decide +kernel)
theorem dX12_pivot_210 : decode cX12_pivot 210 = .ok (.iload 5, 2) := dk_21 (by decide +kernel)
theorem dX12_pivot_212 : decode cX12_pivot 212 = .ok (.aload_n 0, 1) := dk_42 (by decide +kernel)
theorem dX12_pivot_213 : decode cX12_pivot 213 = .ok (.getfield 396, 3) := dk_180 (by decide +kernel)
theorem dX12_pivot_216 : decode cX12_pivot 216 = .ok (.if_icmp .gt 31, 3) := dk_163 (by decide +kernel)
theorem dX12_pivot_219 : decode cX12_pivot 219 = .ok (.iload 4, 2) := dk_21 (by decide +kernel)
theorem dX12_pivot_221 : decode cX12_pivot 221 = .ok (.ifCond .ge 26, 3) := dk_156 (by decide +kernel)
theorem dX12_pivot_224 : decode cX12_pivot 224 = .ok (.iload 5, 2) := dk_21 (by decide +kernel)
theorem dX12_pivot_226 : decode cX12_pivot 226 = .ok (.iload_n 2, 1) := dk_28 (by decide +kernel)
theorem dX12_pivot_227 : decode cX12_pivot 227 = .ok (.if_icmp .eq 14, 3) := dk_159 (by decide +kernel)
theorem dX12_pivot_230 : decode cX12_pivot 230 = .ok (.aload_n 0, 1) := dk_42 (by decide +kernel)
theorem dX12_pivot_231 : decode cX12_pivot 231 = .ok (.aload_n 0, 1) := dk_42 (by decide +kernel)
theorem dX12_pivot_232 : decode cX12_pivot 232 = .ok (.iload_n 1, 1) := dk_27 (by decide +kernel)
theorem dX12_pivot_233 : decode cX12_pivot 233 = .ok (.iload 5, 2) := dk_21 (by decide +kernel)
theorem dX12_pivot_235 : decode cX12_pivot 235 = .ok (.invokevirtual 405, 3) := dk_182 (by decide +kernel)
theorem dX12_pivot_238 : decode cX12_pivot 238 = .ok (.invokevirtual 379, 3) := dk_182 (by decide +kernel)
theorem dX12_pivot_241 : decode cX12_pivot 241 = .ok (.iinc 5 1, 3) := dk_132 (by decide +kernel)
theorem dX12_pivot_244 : decode cX12_pivot 244 = .ok (.goto (-34), 3) := dk_167 (by decide +kernel)
theorem dX12_pivot_247 : decode cX12_pivot 247 = .ok (.aload_n 0, 1) := dk_42 (by decide +kernel)
theorem dX12_pivot_248 : decode cX12_pivot 248 = .ok (.iload_n 3, 1) := dk_29 (by decide +kernel)
theorem dX12_pivot_249 : decode cX12_pivot 249 = .ok (.bipush 20, 2) := dk_16 (by decide +kernel)
theorem dX12_pivot_251 : decode cX12_pivot 251 = .ok (.invokevirtual 365, 3) := dk_182 (by decide +kernel)
theorem dX12_pivot_254 : decode cX12_pivot 254 = .ok (.iload 4, 2) := dk_21 (by decide +kernel)
theorem dX12_pivot_256 : decode cX12_pivot 256 = .ok (.ifCond .ge 8, 3) := dk_156 (by decide +kernel)
theorem dX12_pivot_259 : decode cX12_pivot 259 = .ok (.aload_n 0, 1) := dk_42 (by decide +kernel)
theorem dX12_pivot_260 : decode cX12_pivot 260 = .ok (.iload_n 3, 1) := dk_29 (by decide +kernel)
theorem dX12_pivot_261 : decode cX12_pivot 261 = .ok (.invokevirtual 379, 3) := dk_182 (by decide +kernel)
theorem dX12_pivot_264 : decode cX12_pivot 264 = .ok (.aload_n 0, 1) := dk_42 (by decide +kernel)
theorem dX12_pivot_265 : decode cX12_pivot 265 = .ok (.bipush 20, 2) := dk_16 (by decide +kernel)
theorem dX12_pivot_267 : decode cX12_pivot 267 = .ok (.bipush 21, 2) := dk_16 (by decide +kernel)
theorem dX12_pivot_269 : decode cX12_pivot 269 = .ok (.invokevirtual 365, 3) := dk_182 (by decide +kernel)
theorem dX12_pivot_272 : decode cX12_pivot 272 = .ok (.iload 4, 2) := dk_21 (by decide +kernel)
theorem dX12_pivot_274 : decode cX12_pivot 274 = .ok (.ifCond .ge 9, 3) := dk_156 (by decide +kernel)
theorem dX12_pivot_277 : decode cX12_pivot 277 = .ok (.aload_n 0, 1) := dk_42 (by decide +kernel)
theorem dX12_pivot_278 : decode cX12_pivot 278 = .ok (.bipush 20, 2) := dk_16 (by decide +kernel)
theorem dX12_pivot_280 : decode cX12_pivot 280 = .ok (.invokevirtual 379, 3) := dk_182 (by decide +kernel)
theorem dX12_pivot_283 : decode cX12_pivot 283 = .ok (.aload_n 0, 1) := dk_42 (by decide +kernel)
theorem dX12_pivot_284 : decode cX12_pivot 284 = .ok (.iload_n 1, 1) := dk_27 (by decide +kernel)
theorem dX12_pivot_285 : decode cX12_pivot 285 = .ok (.iload_n 2, 1) := dk_28 (by decide +kernel)
theorem dX12_pivot_286 : decode cX12_pivot 286 = .ok (.invokevirtual 433, 3) := dk_182 (by decide +kernel)
theorem dX12_pivot_289 : decode cX12_pivot 289 = .ok (.return_, 1) := dk_177 (by decide +kernel)
def wsRX12_pivot : List Cond := .code yX12_pivot cX12_pivot 7 none :: ([.fieldLink RX12 414 "OptimaWorksModel" "quick" "Z", .fieldLink RX12 399 "OptimaWorksModel" "rows" "I", .fieldLink RX12 402 "OptimaWorksModel" "goals" "I", .fieldLink RX12 396 "OptimaWorksModel" "columns" "I"] ++ wsX120 ++ (wsV RX12 436 RX12 yX12_pivotsQuick wsRX12_pivotsQuick) ++ (wsV RX12 440 RX12 yX12_spill wsRX12_spill) ++ (wsV RX12 405 RX12 yX12_at wsRX12_at) ++ (wsV RX12 353 RX12 yX12_sign wsRX12_sign) ++ (wsV RX12 365 RX12 yX12_copy wsRX12_copy) ++ (wsV RX12 379 RX12 yX12_turn wsRX12_turn) ++ (wsV RX12 433 RX12 yX12_exchange wsRX12_exchange) ++ (wsV RX12 390 RX12 yX12_times wsRX12_times) ++ (wsV RX12 443 RX12 yX12_add wsRX12_add) ++ (wsV RX12 383 RX12 yX12_divide wsRX12_divide))
theorem iwsRX12_pivot_in12 : ∀ w ∈ wsX120, w ∈ wsRX12_pivot := fun _ h => List.mem_cons_of_mem _ (List.mem_append_left _ (List.mem_append_left _ (List.mem_append_left _ (List.mem_append_left _ (List.mem_append_left _ (List.mem_append_left _ (List.mem_append_left _ (List.mem_append_left _ (List.mem_append_left _ (List.mem_append_left _ (List.mem_append_right _ h)))))))))))
theorem gwsRX12_pivot_0 : GoodIn wsRX12_pivot (wsV RX12 436 RX12 yX12_pivotsQuick wsRX12_pivotsQuick) := goodIn_sub (fun _ h => List.mem_cons_of_mem _ (List.mem_append_left _ (List.mem_append_left _ (List.mem_append_left _ (List.mem_append_left _ (List.mem_append_left _ (List.mem_append_left _ (List.mem_append_left _ (List.mem_append_left _ (List.mem_append_left _ (List.mem_append_right _ h))))))))))) (gdV (by decide +kernel) gdwsRX12_pivotsQuick)
theorem gwsRX12_pivot_1 : GoodIn wsRX12_pivot (wsV RX12 440 RX12 yX12_spill wsRX12_spill) := goodIn_sub (fun _ h => List.mem_cons_of_mem _ (List.mem_append_left _ (List.mem_append_left _ (List.mem_append_left _ (List.mem_append_left _ (List.mem_append_left _ (List.mem_append_left _ (List.mem_append_left _ (List.mem_append_left _ (List.mem_append_right _ h)))))))))) (gdV (by decide +kernel) gdwsRX12_spill)
theorem gwsRX12_pivot_2 : GoodIn wsRX12_pivot (wsV RX12 405 RX12 yX12_at wsRX12_at) := goodIn_sub (fun _ h => List.mem_cons_of_mem _ (List.mem_append_left _ (List.mem_append_left _ (List.mem_append_left _ (List.mem_append_left _ (List.mem_append_left _ (List.mem_append_left _ (List.mem_append_left _ (List.mem_append_right _ h))))))))) (gdV (by decide +kernel) gdwsRX12_at)
theorem gwsRX12_pivot_3 : GoodIn wsRX12_pivot (wsV RX12 353 RX12 yX12_sign wsRX12_sign) := goodIn_sub (fun _ h => List.mem_cons_of_mem _ (List.mem_append_left _ (List.mem_append_left _ (List.mem_append_left _ (List.mem_append_left _ (List.mem_append_left _ (List.mem_append_left _ (List.mem_append_right _ h)))))))) (gdV (by decide +kernel) gdwsRX12_sign)
theorem gwsRX12_pivot_4 : GoodIn wsRX12_pivot (wsV RX12 365 RX12 yX12_copy wsRX12_copy) := goodIn_sub (fun _ h => List.mem_cons_of_mem _ (List.mem_append_left _ (List.mem_append_left _ (List.mem_append_left _ (List.mem_append_left _ (List.mem_append_left _ (List.mem_append_right _ h))))))) (gdV (by decide +kernel) gdwsRX12_copy)
theorem gwsRX12_pivot_5 : GoodIn wsRX12_pivot (wsV RX12 379 RX12 yX12_turn wsRX12_turn) := goodIn_sub (fun _ h => List.mem_cons_of_mem _ (List.mem_append_left _ (List.mem_append_left _ (List.mem_append_left _ (List.mem_append_left _ (List.mem_append_right _ h)))))) (gdV (by decide +kernel) gdwsRX12_turn)
theorem gwsRX12_pivot_6 : GoodIn wsRX12_pivot (wsV RX12 433 RX12 yX12_exchange wsRX12_exchange) := goodIn_sub (fun _ h => List.mem_cons_of_mem _ (List.mem_append_left _ (List.mem_append_left _ (List.mem_append_left _ (List.mem_append_right _ h))))) (gdV (by decide +kernel) gdwsRX12_exchange)
theorem gwsRX12_pivot_7 : GoodIn wsRX12_pivot (wsV RX12 390 RX12 yX12_times wsRX12_times) := goodIn_sub (fun _ h => List.mem_cons_of_mem _ (List.mem_append_left _ (List.mem_append_left _ (List.mem_append_right _ h)))) (gdV (by decide +kernel) gdwsRX12_times)
theorem gwsRX12_pivot_8 : GoodIn wsRX12_pivot (wsV RX12 443 RX12 yX12_add wsRX12_add) := goodIn_sub (fun _ h => List.mem_cons_of_mem _ (List.mem_append_left _ (List.mem_append_right _ h))) (gdV (by decide +kernel) gdwsRX12_add)
theorem gwsRX12_pivot_9 : GoodIn wsRX12_pivot (wsV RX12 383 RX12 yX12_divide wsRX12_divide) := goodIn_sub (fun _ h => List.mem_cons_of_mem _ (List.mem_append_right _ h)) (gdV (by decide +kernel) gdwsRX12_divide)
theorem gdwsRX12_pivot : wsRX12_pivot.all goodWord = true := gdC rfl (gdA (gdA (gdA (gdA (gdA (gdA (gdA (gdA (gdA (gdA (gdA (by decide +kernel : ([.fieldLink RX12 414 "OptimaWorksModel" "quick" "Z", .fieldLink RX12 399 "OptimaWorksModel" "rows" "I", .fieldLink RX12 402 "OptimaWorksModel" "goals" "I", .fieldLink RX12 396 "OptimaWorksModel" "columns" "I"] : List Cond).all goodWord = true) gdwsX120) (gdV (by decide +kernel) gdwsRX12_pivotsQuick)) (gdV (by decide +kernel) gdwsRX12_spill)) (gdV (by decide +kernel) gdwsRX12_at)) (gdV (by decide +kernel) gdwsRX12_sign)) (gdV (by decide +kernel) gdwsRX12_copy)) (gdV (by decide +kernel) gdwsRX12_turn)) (gdV (by decide +kernel) gdwsRX12_exchange)) (gdV (by decide +kernel) gdwsRX12_times)) (gdV (by decide +kernel) gdwsRX12_add)) (gdV (by decide +kernel) gdwsRX12_divide))
set_option maxHeartbeats 4000000 in
set_option maxRecDepth 100000 in
/-- pivot(r, c) -/
theorem r_X12_pivot (l : Launch) (dC : Nat → ClassId) (dI : Nat → Nat → Nat) (a : Nat → Nat) (k : Nat → ClassId) (h0 : Nat) (vi : Nat → Int32) (vj : Nat → Int64) (vF : Nat → Nat → Int32) (vG : Nat → Nat → Int64) (rn : Nat) (cn : Nat) (C : Nat) (R : Nat) (Gq : Nat) (t : Nat → Nat → Int) (D : Int) (mg : Nat → Int) (hBg : Bg (vF 0) mg) (hC : vi 5 = nI C) (hR : vi 6 = nI R) (hG : vi 7 = nI Gq) (hC45 : 0 < C ∧ C ≤ 45) (hT60 : R + Gq < 60) (hsz : (R + Gq) * (C + 1) ≤ 970) (hT : Tab (vi 11) C (R + Gq) mg (vG 7) (vj 12) t D) (hrn : rn < R) (hcn : cn < C) (hDp : 0 < D) (hp0 : t rn cn ≠ 0) (hbd : ∀ i, i < R + Gq → ∀ j, j ≤ C → (t i j).natAbs < 2 ^ 294) (sz : Nat) : Met l yX12_pivot wsRX12_pivot ({ frames := 2, cells := 0, slots := 0, locals := 63 }) (va_Pc [.ref h0, .int (nI rn), .int (nI cn)] (fun U => U.heap.size = sz ∧ va_P (dC, dI) vwCl (WR a k h0 vi vj vF vG) U.heap ∧ va_K (dC, dI) vwCl (tX12 k) U ∧ va_D (fun _ => True) (WR a k h0 vi vj vF vG))) (va_Qv (fun (u : (Nat → Int32) × (Nat → Int32) × (Nat → Int32) × (Nat → Int64) × (Int32) × (Int64) × (Nat → Int64) × (Nat → Int64) × (Nat → Int)) => (Bg (u.1) (u.2.2.2.2.2.2.2.2)) ∧ (Tab (u.2.2.2.2.1) C (R + Gq) (u.2.2.2.2.2.2.2.2) (u.2.2.2.2.2.2.1) (u.2.2.2.2.2.1) (nvT rn cn (sgI (t rn cn)) t D) ((sgI (t rn cn)) * t rn cn)) ∧ (∀ q, (q < 20 ∨ (26 < q ∧ q < 30) ∨ 30 + (R + Gq) * (C + 1) ≤ q) → (u.2.2.2.2.2.2.2.2) q = mg q)) (fun (u : (Nat → Int32) × (Nat → Int32) × (Nat → Int32) × (Nat → Int64) × (Int32) × (Int64) × (Nat → Int64) × (Nat → Int64) × (Nat → Int)) t => va_P (dC, dI) vwCl (WR a k h0 (fT vi 11 (u.2.2.2.2.1)) (fT vj 12 (u.2.2.2.2.2.1)) (fT (fT (fT (fT (fT vF 0 (u.1)) 2 (u.2.1)) 3 (u.2.2.1)) 4 (upd (vF 4) (nI cn).toNatClampNeg (vF 5 rn))) 5 (upd (vF 5) (nI rn).toNatClampNeg (vF 4 cn))) (fT (fT (fT vG 8 (u.2.2.2.2.2.2.2.1)) 7 (u.2.2.2.2.2.2.1)) 1 (u.2.2.2.1))) t.heap ∧ va_D (va_A (WR a k h0 vi vj vF vG) sz) (WR a k h0 (fT vi 11 (u.2.2.2.2.1)) (fT vj 12 (u.2.2.2.2.2.1)) (fT (fT (fT (fT (fT vF 0 (u.1)) 2 (u.2.1)) 3 (u.2.2.1)) 4 (upd (vF 4) (nI cn).toNatClampNeg (vF 5 rn))) 5 (upd (vF 5) (nI rn).toNatClampNeg (vF 4 cn))) (fT (fT (fT vG 8 (u.2.2.2.2.2.2.2.1)) 7 (u.2.2.2.2.2.2.1)) 1 (u.2.2.2.1)))) (va_A (WR a k h0 vi vj vF vG) sz)) 0 0 (va_A (WR a k h0 vi vj vF vG) sz) := by
  refine Met.ofW (cc := cX12_pivot) (maxL := 7) (ret := none) (by decide) rfl ?_
  intro p e s m args below meth c s₁ B hml hv
  obtain ⟨rfl, hsz, hP, hK, hD0⟩ := hv
  have hx := B.exec
  have hb := B.bytes
  have hr := B.returns
  have hts := atoms_spec (ws := wsRX12_pivot) B.pre
  have hown : s.vm.findClass RX12 = some m.cls := findClass_of_methodNamed B.named
  have hlocks := B.notSynchronized
  subst hsz
  have hD := hD0.self (sz := s.heap.size)
  generalize hAe : va_A (WR a k h0 vi vj vF vG) s.heap.size = A at hD ⊢
  have hA : ∀ q : Nat, s.heap.size ≤ q → A q := fun q h => by rw [← hAe]; exact Or.inr h
  have hS : va_S A s.heap s.heap [] := va_S.rf
  have hl := lv_entry ([.ref h0, .int (nI rn), .int (nI cn)]) (n := 7) (Nat.le_of_ble_eq_true rfl)
  rw [lg_entry_eq]
  generalize (lg_sl ([.ref h0, .int (nI rn), .int (nI cn)]) ++ List.replicate (7 - (lg_sl ([.ref h0, .int (nI rn), .int (nI cn)])).length) Slot.unset).toArray = ls at hl ⊢
  have hl : lv_has ls 7 [(0, .ref h0), (1, .int (nI rn)), (2, .int (nI cn))] := hl
  have hprc := pl_lt (C := C) (show rn < R + Gq by omega) (show cn ≤ C by omega)
  refine lv_aload_n hx hb dX12_pivot_0 rfl (lv_at hl 0 rfl) ?_
  refine va_get (D := (dC, dI)) (ci := 12) (v := .int (vi 11)) (C := RX12) (T := TX12) (N := 163) (fs := fM (vS a vi vj)) hx hb hts iwsRX12_pivot_in12 hown hK hP 0 rfl rfl 11 (by decide) (hts (.fieldLink RX12 414 "OptimaWorksModel" "quick" "Z") (by decide +kernel)) (fun _ h9 => h9) rfl dX12_pivot_1 ?_
  refine W.cut (pc := 17) (fun H locs ls stk => ∃ (L80 : Nat → Int64),  stk = [] ∧ va_P (dC, dI) vwCl (WR a k h0 vi vj vF (fT vG 8 L80)) H ∧ va_D A (WR a k h0 vi vj vF (fT vG 8 L80)) ∧ va_S A s.heap H locs ∧ lv_has ls 7 [(0, .ref h0), (1, .int (nI rn)), (2, .int (nI cn))]) (fun join1 => ?_) ?_
  · refine lv_if_eq (tgt := 17) hx hb dX12_pivot_4 (by decide) (fun c_4 => ?_) (fun c_4 => ?_)
    · have t_4 : ((vi 11)).toInt = 0 := toI_eq c_4 rfl (by decide)
      have e9 : fT vG 8 (vG 8) = vG := by funext q9; by_cases h9_8 : q9 = 8; (subst h9_8; exact (fT_eq _ _ _).trans (Eq.trans (by first | with_reducible rfl | with_reducible assumption | (symm; with_reducible assumption) | rfl | assumption | (symm; assumption) | (subst_vars; rfl)) (Eq.refl _).symm)); exact (fT_ne _ _ h9_8).trans (Eq.refl _).symm
      have hP : va_P (dC, dI) vwCl (WR a k h0 vi vj vF (fT vG 8 (vG 8))) s.heap := by rw [e9]; exact hP
      have hD : va_D A (WR a k h0 vi vj vF (fT vG 8 (vG 8))) := by rw [e9]; exact hD
      clear e9
      have hl : lv_has _ _ ([(0, .ref h0), (1, .int (nI rn)), (2, .int (nI cn))]) := lv_sub hl [0, 1, 2] rfl
      exact join1 _ _ _ _ ⟨(vG 8), rfl, hP, hD, hS, hl⟩
    · have t_4 : ¬ ((vi 11)).toInt = 0 := toI_neq c_4 rfl (by decide)
      refine lv_aload_n hx hb dX12_pivot_7 rfl (lv_at hl 0 rfl) ?_
      refine lv_iload_n hx hb dX12_pivot_8 rfl (lv_at hl 1 rfl) ?_
      refine lv_iload_n hx hb dX12_pivot_9 rfl (lv_at hl 2 rfl) ?_
      have hFc := allFree hD hS hA
      refine va_calli (va_runV (As := [.int (nI rn), .int (nI cn)]) (rest := []) ⟨hx, hb, hml, hown, hts⟩ (r_X12_pivotsQuick l dC dI a k h0 vi vj vF vG rn cn C R Gq t D (by first | with_reducible assumption | decide | omega | rfl | assumption) (by first | with_reducible assumption | decide | omega | rfl | assumption) (by first | with_reducible assumption | decide | omega | rfl | assumption) (by first | with_reducible assumption | decide | omega | rfl | assumption) (by first | with_reducible assumption | decide | omega | rfl | assumption) (by first | with_reducible assumption | decide | omega | rfl | assumption) ((hT.q c_4).2) (by first | with_reducible assumption | decide | omega | rfl | assumption) (by first | with_reducible assumption | decide | omega | rfl | assumption) (by first | with_reducible assumption | decide | omega | rfl | assumption) (by first | with_reducible assumption | decide | omega | rfl | assumption) s.heap.size) (cwV 2 hts gwsRX12_pivot_0 rfl rfl rfl hd_yX12_pivotsQuick_RX12 (by decide +kernel)) (fz_pre (va_recv hK hP (ci := 12) (q0 := 0) rfl rfl) hP hK hD) rfl rfl hl.1 rfl (lv_room (Nat.le_of_ble_eq_true rfl)) dX12_pivot_10 (by decide +kernel)) hS (fun q _ h => hFc q h) hFc (fun r10 u t9_ H locs ht hvm hw9 hB9 hz1 hk1 hS => ?_)
      revert u
      refine fz_p5 ?_
      intro qd10 F10 L810 f410 f510 hw9 hB9
      try dsimp only at hw9 hB9
      have hP : va_P (dC, dI) vwCl (WR a k h0 vi (fT vj 12 qd10) (fT (fT vF 4 f410) 5 f510) (fT (fT vG 8 L810) 7 F10)) H := fz_P ht hB9.1
      have hD : va_D A (WR a k h0 vi (fT vj 12 qd10) (fT (fT vF 4 f410) 5 f510) (fT (fT vG 8 L810) 7 F10)) := hB9.2.weaken (fun _ q _ h => hFc q.1 h)
      rcases hw9 with ⟨rfl, rfl, rfl, rfl, rfl⟩ | ⟨rfl, f10_0, rfl, rfl⟩
      · refine lv_if_eq (tgt := 17) hx hb dX12_pivot_13 (by decide) (fun _ => ?_) (fun c9 => absurd (by decide) c9)
        have e9 : vj = fT vj 12 (vj 12) := by funext q9; by_cases h9_12 : q9 = 12; (subst h9_12; exact (Eq.refl _).trans (Eq.trans (by first | with_reducible rfl | with_reducible assumption | (symm; with_reducible assumption) | rfl | assumption | (symm; assumption) | (subst_vars; rfl)) (fT_eq _ _ _).symm)); exact (Eq.refl _).trans (fT_ne _ _ h9_12).symm
        have hP : va_P (dC, dI) vwCl (WR a k h0 vi vj (fT (fT vF 4 (vF 4)) 5 (vF 5)) (fT (fT vG 8 L810) 7 (vG 7))) H := by rw [e9]; exact hP
        have hD : va_D A (WR a k h0 vi vj (fT (fT vF 4 (vF 4)) 5 (vF 5)) (fT (fT vG 8 L810) 7 (vG 7))) := by rw [e9]; exact hD
        clear e9
        have e9 : vF = fT (fT vF 4 (vF 4)) 5 (vF 5) := by funext q9; by_cases h9_4 : q9 = 4; (subst h9_4; exact (Eq.refl _).trans (Eq.trans (by first | with_reducible rfl | with_reducible assumption | (symm; with_reducible assumption) | rfl | assumption | (symm; assumption) | (subst_vars; rfl)) ((fT_ne _ _ (Nat.ne_of_beq_eq_false rfl)).trans (fT_eq _ _ _)).symm)); by_cases h9_5 : q9 = 5; (subst h9_5; exact (Eq.refl _).trans (Eq.trans (by first | with_reducible rfl | with_reducible assumption | (symm; with_reducible assumption) | rfl | assumption | (symm; assumption) | (subst_vars; rfl)) (fT_eq _ _ _).symm)); exact (Eq.refl _).trans ((fT_ne _ _ h9_5).trans (fT_ne _ _ h9_4)).symm
        have hP : va_P (dC, dI) vwCl (WR a k h0 vi vj vF (fT (fT vG 8 L810) 7 (vG 7))) H := by rw [e9]; exact hP
        have hD : va_D A (WR a k h0 vi vj vF (fT (fT vG 8 L810) 7 (vG 7))) := by rw [e9]; exact hD
        clear e9
        have e9 : fT vG 8 L810 = fT (fT vG 8 L810) 7 (vG 7) := by funext q9; by_cases h9_8 : q9 = 8; (subst h9_8; exact (fT_eq _ _ _).trans (Eq.trans (by first | with_reducible rfl | with_reducible assumption | (symm; with_reducible assumption) | rfl | assumption | (symm; assumption) | (subst_vars; rfl)) ((fT_ne _ _ (Nat.ne_of_beq_eq_false rfl)).trans (fT_eq _ _ _)).symm)); by_cases h9_7 : q9 = 7; (subst h9_7; exact (fT_ne _ _ (Nat.ne_of_beq_eq_false rfl)).trans (Eq.trans (by first | with_reducible rfl | with_reducible assumption | (symm; with_reducible assumption) | rfl | assumption | (symm; assumption) | (subst_vars; rfl)) (fT_eq _ _ _).symm)); exact (fT_ne _ _ h9_8).trans ((fT_ne _ _ h9_7).trans (fT_ne _ _ h9_8)).symm
        have hP : va_P (dC, dI) vwCl (WR a k h0 vi vj vF (fT vG 8 L810)) H := by rw [e9]; exact hP
        have hD : va_D A (WR a k h0 vi vj vF (fT vG 8 L810)) := by rw [e9]; exact hD
        clear e9
        have hl : lv_has _ _ ([(0, .ref h0), (1, .int (nI rn)), (2, .int (nI cn))]) := lv_sub hl [0, 1, 2] rfl
        exact join1 _ _ _ _ ⟨L810, rfl, hP, hD, hS, hl⟩
      · refine lv_if_eq (tgt := 17) hx hb dX12_pivot_13 (by decide) (fun c9 => absurd c9 (by decide)) (fun _ => ?_)
        refine W.widen (k := 0) (n := 0) (by decide +kernel) (by decide +kernel) ?_
        have e9 : fT vi 11 (vi 11) = vi := fT_id _ _ (rfl)
        have hP : va_P (dC, dI) vwCl (WR a k h0 (fT vi 11 (vi 11)) (fT vj 12 qd10) (fT (fT vF 4 (upd (vF 4) (nI cn).toNatClampNeg (vF 5 rn))) 5 (upd (vF 5) (nI rn).toNatClampNeg (vF 4 cn))) (fT (fT vG 8 L810) 7 F10)) H := by rw [e9]; exact hP
        have hD : va_D A (WR a k h0 (fT vi 11 (vi 11)) (fT vj 12 qd10) (fT (fT vF 4 (upd (vF 4) (nI cn).toNatClampNeg (vF 5 rn))) 5 (upd (vF 5) (nI rn).toNatClampNeg (vF 4 cn))) (fT (fT vG 8 L810) 7 F10)) := by rw [e9]; exact hD
        clear e9
        have e9 : fT (fT (fT (fT (fT vF 0 (vF 0)) 2 (vF 2)) 3 (vF 3)) 4 (upd (vF 4) (nI cn).toNatClampNeg (vF 5 rn))) 5 (upd (vF 5) (nI rn).toNatClampNeg (vF 4 cn)) = fT (fT vF 4 (upd (vF 4) (nI cn).toNatClampNeg (vF 5 rn))) 5 (upd (vF 5) (nI rn).toNatClampNeg (vF 4 cn)) := by funext q9; by_cases h9_0 : q9 = 0; (subst h9_0; exact ((fT_ne _ _ (Nat.ne_of_beq_eq_false rfl)).trans ((fT_ne _ _ (Nat.ne_of_beq_eq_false rfl)).trans ((fT_ne _ _ (Nat.ne_of_beq_eq_false rfl)).trans ((fT_ne _ _ (Nat.ne_of_beq_eq_false rfl)).trans (fT_eq _ _ _))))).trans (Eq.trans (by first | with_reducible rfl | with_reducible assumption | (symm; with_reducible assumption) | rfl | assumption | (symm; assumption) | (subst_vars; rfl)) ((fT_ne _ _ (Nat.ne_of_beq_eq_false rfl)).trans (fT_ne _ _ (Nat.ne_of_beq_eq_false rfl))).symm)); by_cases h9_2 : q9 = 2; (subst h9_2; exact ((fT_ne _ _ (Nat.ne_of_beq_eq_false rfl)).trans ((fT_ne _ _ (Nat.ne_of_beq_eq_false rfl)).trans ((fT_ne _ _ (Nat.ne_of_beq_eq_false rfl)).trans (fT_eq _ _ _)))).trans (Eq.trans (by first | with_reducible rfl | with_reducible assumption | (symm; with_reducible assumption) | rfl | assumption | (symm; assumption) | (subst_vars; rfl)) ((fT_ne _ _ (Nat.ne_of_beq_eq_false rfl)).trans (fT_ne _ _ (Nat.ne_of_beq_eq_false rfl))).symm)); by_cases h9_3 : q9 = 3; (subst h9_3; exact ((fT_ne _ _ (Nat.ne_of_beq_eq_false rfl)).trans ((fT_ne _ _ (Nat.ne_of_beq_eq_false rfl)).trans (fT_eq _ _ _))).trans (Eq.trans (by first | with_reducible rfl | with_reducible assumption | (symm; with_reducible assumption) | rfl | assumption | (symm; assumption) | (subst_vars; rfl)) ((fT_ne _ _ (Nat.ne_of_beq_eq_false rfl)).trans (fT_ne _ _ (Nat.ne_of_beq_eq_false rfl))).symm)); by_cases h9_4 : q9 = 4; (subst h9_4; exact ((fT_ne _ _ (Nat.ne_of_beq_eq_false rfl)).trans (fT_eq _ _ _)).trans (Eq.trans (by first | with_reducible rfl | with_reducible assumption | (symm; with_reducible assumption) | rfl | assumption | (symm; assumption) | (subst_vars; rfl)) ((fT_ne _ _ (Nat.ne_of_beq_eq_false rfl)).trans (fT_eq _ _ _)).symm)); by_cases h9_5 : q9 = 5; (subst h9_5; exact (fT_eq _ _ _).trans (Eq.trans (by first | with_reducible rfl | with_reducible assumption | (symm; with_reducible assumption) | rfl | assumption | (symm; assumption) | (subst_vars; rfl)) (fT_eq _ _ _).symm)); exact ((fT_ne _ _ h9_5).trans ((fT_ne _ _ h9_4).trans ((fT_ne _ _ h9_3).trans ((fT_ne _ _ h9_2).trans (fT_ne _ _ h9_0))))).trans ((fT_ne _ _ h9_5).trans (fT_ne _ _ h9_4)).symm
        have hP : va_P (dC, dI) vwCl (WR a k h0 (fT vi 11 (vi 11)) (fT vj 12 qd10) (fT (fT (fT (fT (fT vF 0 (vF 0)) 2 (vF 2)) 3 (vF 3)) 4 (upd (vF 4) (nI cn).toNatClampNeg (vF 5 rn))) 5 (upd (vF 5) (nI rn).toNatClampNeg (vF 4 cn))) (fT (fT vG 8 L810) 7 F10)) H := by rw [e9]; exact hP
        have hD : va_D A (WR a k h0 (fT vi 11 (vi 11)) (fT vj 12 qd10) (fT (fT (fT (fT (fT vF 0 (vF 0)) 2 (vF 2)) 3 (vF 3)) 4 (upd (vF 4) (nI cn).toNatClampNeg (vF 5 rn))) 5 (upd (vF 5) (nI rn).toNatClampNeg (vF 4 cn))) (fT (fT vG 8 L810) 7 F10)) := by rw [e9]; exact hD
        clear e9
        have e9 : fT (fT (fT vG 8 L810) 7 F10) 1 (vG 1) = fT (fT vG 8 L810) 7 F10 := fT_id _ _ ((fT_ne _ _ (Nat.ne_of_beq_eq_false rfl)).trans (fT_ne _ _ (Nat.ne_of_beq_eq_false rfl)))
        have hP : va_P (dC, dI) vwCl (WR a k h0 (fT vi 11 (vi 11)) (fT vj 12 qd10) (fT (fT (fT (fT (fT vF 0 (vF 0)) 2 (vF 2)) 3 (vF 3)) 4 (upd (vF 4) (nI cn).toNatClampNeg (vF 5 rn))) 5 (upd (vF 5) (nI rn).toNatClampNeg (vF 4 cn))) (fT (fT (fT vG 8 L810) 7 F10) 1 (vG 1))) H := by rw [e9]; exact hP
        have hD : va_D A (WR a k h0 (fT vi 11 (vi 11)) (fT vj 12 qd10) (fT (fT (fT (fT (fT vF 0 (vF 0)) 2 (vF 2)) 3 (vF 3)) 4 (upd (vF 4) (nI cn).toNatClampNeg (vF 5 rn))) 5 (upd (vF 5) (nI rn).toNatClampNeg (vF 4 cn))) (fT (fT (fT vG 8 L810) 7 F10) 1 (vG 1))) := by rw [e9]; exact hD
        clear e9
        exact W.vret hx hb hr (fun t9_ ht hW => ⟨⟨((vF 0), (vF 2), (vF 3), (vG 1), (vi 11), qd10, F10, L810, mg), rfl, by (try dsimp only); exact ⟨hBg, Or.inr ⟨(hT.q c_4).1, f10_0⟩, fun q h => rfl⟩, by rw [ht]; exact hP, hD⟩, hS.F ht⟩) hS.2.2 dX12_pivot_16
  · rintro H locs ls stk ⟨L80, rfl, hP, hD, hS, hl⟩
    refine lv_aload_n hx hb dX12_pivot_17 rfl (lv_at hl 0 rfl) ?_
    have hFc := allFree hD hS hA
    refine va_callv (va_runV (As := []) (rest := []) ⟨hx, hb, hml, hown, hts⟩ (r_X12_spill l dC dI a k h0 vi vj vF (fT vG 8 L80) C R Gq t D mg hBg (by first | with_reducible assumption | decide | omega | rfl | assumption) (by first | with_reducible assumption | decide | omega | rfl | assumption) (by first | with_reducible assumption | decide | omega | rfl | assumption) (by first | with_reducible assumption | decide | omega | rfl | assumption) (by first | with_reducible assumption | decide | omega | rfl | assumption) (by first | with_reducible assumption | decide | omega | rfl | assumption) (hT) (by first | with_reducible assumption | decide | omega | rfl | assumption) H.size) (cwV 0 hts gwsRX12_pivot_1 rfl rfl rfl hd_yX12_spill_RX12 (by decide +kernel)) (fz_pre (va_recv hK hP (ci := 12) (q0 := 0) rfl rfl) hP hK hD) rfl rfl hl.1 rfl (lv_room (Nat.le_of_ble_eq_true rfl)) dX12_pivot_18 (by decide +kernel)) hS (fun q _ h => hFc q h) hFc (fun u t9_ H locs ht hvm hw9 hB9 hz1 hk1 hS => ?_)
    revert u
    refine fz_p2 ?_
    intro g18 m218 hw9 hB9
    try dsimp only at hw9 hB9
    have hP : va_P (dC, dI) vwCl (WR a k h0 (fT vi 11 0) vj (fT vF 0 g18) (fT vG 8 L80)) H := fz_P ht hB9.1
    have hD : va_D A (WR a k h0 (fT vi 11 0) vj (fT vF 0 g18) (fT vG 8 L80)) := hB9.2.weaken (fun _ q _ h => hFc q.1 h)
    revert hw9
    refine fz_a3 ?_
    intro f18_0 f18_1 f18_2
    refine lv_aload_n hx hb dX12_pivot_21 rfl (lv_at hl 0 rfl) ?_
    refine lv_iload_n hx hb dX12_pivot_22 rfl (lv_at hl 1 rfl) ?_
    refine lv_iload_n hx hb dX12_pivot_23 rfl (lv_at hl 2 rfl) ?_
    have hFc := allFree hD hS hA
    refine va_calli (va_runV (As := [.int (nI rn), .int (nI cn)]) (rest := []) ⟨hx, hb, hml, hown, hts⟩ (r_X12_at l dC dI a k h0 (fT vi 11 0) vj (fT vF 0 g18) (fT vG 8 L80) rn cn C (by first | with_reducible assumption | decide | omega | rfl | assumption) H.size) (cwV 2 hts gwsRX12_pivot_2 rfl rfl rfl hd_yX12_at_RX12 (by decide +kernel)) (fz_pre (va_recv hK hP (ci := 12) (q0 := 0) rfl rfl) hP hK hD) rfl rfl hl.1 rfl (lv_room (Nat.le_of_ble_eq_true rfl)) dX12_pivot_24 (by decide +kernel)) hS (fun q _ h => hFc q h) hFc (fun r24 u t9_ H locs ht hvm hw9 hB9 hz1 hk1 hS => ?_)
    have hP : va_P (dC, dI) vwCl (WR a k h0 (fT vi 11 0) vj (fT vF 0 g18) (fT vG 8 L80)) H := fz_P ht hB9.1
    have hD : va_D A (WR a k h0 (fT vi 11 0) vj (fT vF 0 g18) (fT vG 8 L80)) := hB9.2.weaken (fun _ q _ h => hFc q.1 h)
    obtain rfl := hw9
    refine lv_istore_n hx hb dX12_pivot_27 rfl hl (by decide) rfl (fun ls (hl : lv_has ls _ ([(3, .int (nI (30 + rn * (C + 1) + cn))), (0, .ref h0), (1, .int (nI rn)), (2, .int (nI cn))])) => ?_)
    refine lv_aload_n hx hb dX12_pivot_28 rfl (lv_at hl 1 rfl) ?_
    refine lv_iload_n hx hb dX12_pivot_29 rfl (lv_at hl 0 rfl) ?_
    have hFc := allFree hD hS hA
    refine va_calli (va_runV (As := [.int (nI (30 + rn * (C + 1) + cn))]) (rest := []) ⟨hx, hb, hml, hown, hts⟩ (b_X12_sign l dC dI a k h0 (fT vi 11 0) vj (fT vF 0 g18) (fT vG 8 L80) (30 + rn * (C + 1) + cn) m218 f18_0 (t rn cn) (by rw [(f18_1.1 rn (by omega) cn (by omega))]) (by first | with_reducible assumption | decide | omega | rfl | assumption) H.size) (cwV 1 hts gwsRX12_pivot_3 rfl rfl rfl hd_yX12_sign_RX12 (by decide +kernel)) (fz_pre (va_recv hK hP (ci := 12) (q0 := 0) rfl rfl) hP hK hD) rfl rfl hl.1 rfl (lv_room (Nat.le_of_ble_eq_true rfl)) dX12_pivot_30 (by decide +kernel)) hS (fun q _ h => hFc q h) hFc (fun r30 u t9_ H locs ht hvm hw9 hB9 hz1 hk1 hS => ?_)
    have hP : va_P (dC, dI) vwCl (WR a k h0 (fT vi 11 0) vj (fT vF 0 g18) (fT vG 8 L80)) H := fz_P ht hB9.1
    have hD : va_D A (WR a k h0 (fT vi 11 0) vj (fT vF 0 g18) (fT vG 8 L80)) := hB9.2.weaken (fun _ q _ h => hFc q.1 h)
    have f30_0 := hw9
    try dsimp only at f30_0
    refine lv_istore hx hb dX12_pivot_33 hl (by decide) rfl (fun ls (hl : lv_has ls _ ([(4, .int r30), (3, .int (nI (30 + rn * (C + 1) + cn))), (0, .ref h0), (1, .int (nI rn)), (2, .int (nI cn))])) => ?_)
    have hgs : ((r30).toInt = 1 ∧ (sgI (t rn cn)) = 1) ∨ ((r30).toInt = -1 ∧ (sgI (t rn cn)) = -1) := by rcases f30_0 with h9 | h9 | h9; (exact absurd h9.2 hp0); (exact Or.inl ⟨h9.1, sgI_p (by omega)⟩); (exact Or.inr ⟨h9.1, sgI_n (by omega)⟩)
    refine lv_aload_n hx hb dX12_pivot_35 rfl (lv_at hl 2 rfl) ?_
    refine lv_bipush (v := 21) hx hb dX12_pivot_36 (by decide) ?_
    refine lv_iload_n hx hb dX12_pivot_38 rfl (lv_at hl 1 rfl) ?_
    have hFc := allFree hD hS hA
    refine va_callv (va_runV (As := [.int 21, .int (nI (30 + rn * (C + 1) + cn))]) (rest := []) ⟨hx, hb, hml, hown, hts⟩ (b_X12_copy l dC dI a k h0 (fT vi 11 0) vj (fT vF 0 g18) (fT vG 8 L80) 21 (30 + rn * (C + 1) + cn) m218 f18_0 (t rn cn) (by rw [(f18_1.1 rn (by omega) cn (by omega))]) (by first | with_reducible assumption | decide | omega | rfl | assumption) (by first | with_reducible assumption | decide | omega | rfl | assumption) (by first | with_reducible assumption | decide | omega | rfl | assumption) H.size) (cwV 2 hts gwsRX12_pivot_4 rfl rfl rfl hd_yX12_copy_RX12 (by decide +kernel)) (fz_pre (va_recv hK hP (ci := 12) (q0 := 0) rfl rfl) hP hK hD) rfl rfl hl.1 rfl (lv_room (Nat.le_of_ble_eq_true rfl)) dX12_pivot_39 (by decide +kernel)) hS (fun q _ h => hFc q h) hFc (fun g39 t9_ H locs ht hvm hw9 hB9 hz1 hk1 hS => ?_)
    have hP : va_P (dC, dI) vwCl (WR a k h0 (fT vi 11 0) vj (fT (fT vF 0 g18) 0 g39) (fT vG 8 L80)) H := fz_P ht hB9.1
    have hD : va_D A (WR a k h0 (fT vi 11 0) vj (fT (fT vF 0 g18) 0 g39) (fT vG 8 L80)) := hB9.2.weaken (fun _ q _ h => hFc q.1 h)
    have e9 : fT vF 0 g39 = fT (fT vF 0 g18) 0 g39 := (fT_sm _ _ _ _).symm
    rw [← e9] at hP hD
    clear e9
    have hP : va_P (dC, dI) vwCl (WR a k h0 (fT vi 11 0) vj (fT vF 0 g39) (fT vG 8 L80)) H := hP
    have hD : va_D A (WR a k h0 (fT vi 11 0) vj (fT vF 0 g39) (fT vG 8 L80)) := hD
    have f39_0 := hw9
    try dsimp only at f39_0
    refine lv_iconst (v := 0) hx hb dX12_pivot_42 (by decide) ?_
    refine lv_istore hx hb dX12_pivot_43 hl (by decide) rfl (fun ls (hl : lv_has ls _ ([(5, .int 0), (4, .int r30), (3, .int (nI (30 + rn * (C + 1) + cn))), (0, .ref h0), (1, .int (nI rn)), (2, .int (nI cn))])) => ?_)
    have e9 : fT (fT (fT vF 0 g39) 2 (vF 2)) 3 (vF 3) = fT vF 0 g39 := by funext q9; by_cases h9_0 : q9 = 0; (subst h9_0; exact ((fT_ne _ _ (Nat.ne_of_beq_eq_false rfl)).trans ((fT_ne _ _ (Nat.ne_of_beq_eq_false rfl)).trans (fT_eq _ _ _))).trans (Eq.trans (by first | with_reducible rfl | with_reducible assumption | (symm; with_reducible assumption) | rfl | assumption | (symm; assumption) | (subst_vars; rfl)) (fT_eq _ _ _).symm)); by_cases h9_2 : q9 = 2; (subst h9_2; exact ((fT_ne _ _ (Nat.ne_of_beq_eq_false rfl)).trans (fT_eq _ _ _)).trans (Eq.trans (by first | with_reducible rfl | with_reducible assumption | (symm; with_reducible assumption) | rfl | assumption | (symm; assumption) | (subst_vars; rfl)) (fT_ne _ _ (Nat.ne_of_beq_eq_false rfl)).symm)); by_cases h9_3 : q9 = 3; (subst h9_3; exact (fT_eq _ _ _).trans (Eq.trans (by first | with_reducible rfl | with_reducible assumption | (symm; with_reducible assumption) | rfl | assumption | (symm; assumption) | (subst_vars; rfl)) (fT_ne _ _ (Nat.ne_of_beq_eq_false rfl)).symm)); exact ((fT_ne _ _ h9_3).trans ((fT_ne _ _ h9_2).trans (fT_ne _ _ h9_0))).trans (fT_ne _ _ h9_0).symm
    have hP : va_P (dC, dI) vwCl (WR a k h0 (fT vi 11 0) vj (fT (fT (fT vF 0 g39) 2 (vF 2)) 3 (vF 3)) (fT vG 8 L80)) H := by rw [e9]; exact hP
    have hD : va_D A (WR a k h0 (fT vi 11 0) vj (fT (fT (fT vF 0 g39) 2 (vF 2)) 3 (vF 3)) (fT vG 8 L80)) := by rw [e9]; exact hD
    clear e9
    have e9 : fT (fT vG 8 L80) 1 (vG 1) = fT vG 8 L80 := by funext q9; by_cases h9_8 : q9 = 8; (subst h9_8; exact ((fT_ne _ _ (Nat.ne_of_beq_eq_false rfl)).trans (fT_eq _ _ _)).trans (Eq.trans (by first | with_reducible rfl | with_reducible assumption | (symm; with_reducible assumption) | rfl | assumption | (symm; assumption) | (subst_vars; rfl)) (fT_eq _ _ _).symm)); by_cases h9_1 : q9 = 1; (subst h9_1; exact (fT_eq _ _ _).trans (Eq.trans (by first | with_reducible rfl | with_reducible assumption | (symm; with_reducible assumption) | rfl | assumption | (symm; assumption) | (subst_vars; rfl)) (fT_ne _ _ (Nat.ne_of_beq_eq_false rfl)).symm)); exact ((fT_ne _ _ h9_1).trans (fT_ne _ _ h9_8)).trans (fT_ne _ _ h9_8).symm
    have hP : va_P (dC, dI) vwCl (WR a k h0 (fT vi 11 0) vj (fT (fT (fT vF 0 g39) 2 (vF 2)) 3 (vF 3)) (fT (fT vG 8 L80) 1 (vG 1))) H := by rw [e9]; exact hP
    have hD : va_D A (WR a k h0 (fT vi 11 0) vj (fT (fT (fT vF 0 g39) 2 (vF 2)) 3 (vF 3)) (fT (fT vG 8 L80) 1 (vG 1))) := by rw [e9]; exact hD
    clear e9
    have hl : lv_has _ _ ([(0, .ref h0), (1, .int (nI rn)), (2, .int (nI cn)), (3, .int (nI (30 + rn * (C + 1) + cn))), (4, .int r30), (5, .int (nI 0))]) := lv_sub hl [3, 4, 5, 2, 1, 0] rfl
    refine (fun (loop : ∀ (n9 : Nat) (i : Nat) (g1 : Nat → Int32) (f21 : Nat → Int32) (f31 : Nat → Int32) (gs1 : Nat → Int64) (m1 : Nat → Int) (H : Heap) (locs : List Loc) (ls : Array Slot), (Bg g1 m1) → (m1 21 = (t rn cn)) → (m1 20 = D) → (i ≤ R + Gq) → (∀ i2, i2 < (R + Gq) → ∀ j2, j2 ≤ C → m1 (30 + i2 * (C + 1) + j2) = if i2 < i ∧ i2 ≠ rn then nvT rn cn (sgI (t rn cn)) t D i2 j2 else t i2 j2) → (∀ q, (q < 20 ∨ (26 < q ∧ q < 30) ∨ 30 + (R + Gq) * (C + 1) ≤ q) → m1 q = mg q) →  (R + Gq < i + n9) → va_P (dC, dI) vwCl (WR a k h0 (fT vi 11 0) vj (fT (fT (fT vF 0 g1) 2 f21) 3 f31) (fT (fT vG 8 L80) 1 gs1)) H → va_D A (WR a k h0 (fT vi 11 0) vj (fT (fT (fT vF 0 g1) 2 f21) 3 f31) (fT (fT vG 8 L80) 1 gs1)) → va_S A s.heap H locs → lv_has ls 7 [(0, .ref h0), (1, .int (nI rn)), (2, .int (nI cn)), (3, .int (nI (30 + rn * (C + 1) + cn))), (4, .int r30), (5, .int (nI i))] → W p l e _ s m _ below meth c H locs 0 0 _ (F0 m 45 ls [])) => loop (R + Gq + 1) 0 g39 (vF 2) (vF 3) (vG 1) (fT m218 21 (t rn cn)) _ _ _ (f39_0) ((by rw [fT_eq])) ((by rw [fT_ne _ _ (by omega), f18_1.2])) (by omega) (fun i2 hi2 j2 hj2 => by rw [fT_ne _ _ (by omega), f18_1.1 i2 hi2 j2 hj2, if_neg (by omega)]) (fun q hq => by (rw [fT_ne _ _ (by omega), f18_2 _ (by omega) (by omega)])) (by omega) hP hD hS hl) ?_
    intro n9
    induction n9 with
    | zero => intro i g1 f21 f31 gs1 m1 H locs ls hB1 h21 h20 hi htab ho hf9; exact False.elim (by omega)
    | succ n9 ih45 =>
      intro i g1 f21 f31 gs1 m1 H locs ls hB1 h21 h20 hi htab ho hf45 hP hD hS hl
      refine lv_iload hx hb dX12_pivot_45 (lv_at hl 5 rfl) ?_
      refine lv_aload_n hx hb dX12_pivot_47 rfl (lv_at hl 0 rfl) ?_
      refine va_get (D := (dC, dI)) (ci := 12) (v := .int (vi 6)) (C := RX12) (T := TX12) (N := 163) (fs := fM (vS a (fT vi 11 0) vj)) hx hb hts iwsRX12_pivot_in12 hown hK hP 0 rfl rfl 6 (by decide) (hts (.fieldLink RX12 399 "OptimaWorksModel" "rows" "I") (by decide +kernel)) (fun _ h9 => h9) rfl dX12_pivot_48 ?_
      refine lv_topi (fun y1 hy1 => ?_)
      obtain rfl : (nI R) = y1 := (hy1.trans (hR)).symm
      refine lv_aload_n hx hb dX12_pivot_51 rfl (lv_at hl 0 rfl) ?_
      refine va_get (D := (dC, dI)) (ci := 12) (v := .int (vi 7)) (C := RX12) (T := TX12) (N := 163) (fs := fM (vS a (fT vi 11 0) vj)) hx hb hts iwsRX12_pivot_in12 hown hK hP 0 rfl rfl 7 (by decide) (hts (.fieldLink RX12 402 "OptimaWorksModel" "goals" "I") (by decide +kernel)) (fun _ h9 => h9) rfl dX12_pivot_52 ?_
      refine lv_topi (fun y2 hy2 => ?_)
      obtain rfl : (nI Gq) = y2 := (hy2.trans (hG)).symm
      refine lv_iadd hx hb dX12_pivot_55 ?_
      refine lv_topi (fun y3 hy3 => ?_)
      obtain rfl : (nI (R + Gq)) = y3 := (hy3.trans (nI_add R Gq)).symm
      refine lv_icmp_ge (tgt := 207) hx hb dX12_pivot_56 (by decide) (fun c_56 => ?_) (fun c_56 => ?_)
      · have t_56 : ((i : Nat) : Int) ≥ (((R + Gq) : Nat) : Int) := toI_ge c_56 (nI_toInt (by omega)) (nI_toInt (by omega))
        refine lv_iconst (v := 0) hx hb dX12_pivot_207 (by decide) ?_
        refine lv_istore hx hb dX12_pivot_208 hl (by decide) rfl (fun ls (hl : lv_has ls _ ([(5, .int 0), (0, .ref h0), (1, .int (nI rn)), (2, .int (nI cn)), (3, .int (nI (30 + rn * (C + 1) + cn))), (4, .int r30)])) => ?_)
        have hl : lv_has _ _ ([(0, .ref h0), (1, .int (nI rn)), (2, .int (nI cn)), (3, .int (nI (30 + rn * (C + 1) + cn))), (4, .int r30), (5, .int (nI 0))]) := lv_sub hl [1, 2, 3, 4, 5, 0] rfl
        refine (fun (loop : ∀ (n9 : Nat) (j : Nat) (g5 : Nat → Int32) (m5 : Nat → Int) (H : Heap) (locs : List Loc) (ls : Array Slot), (Bg g5 m5) → (m5 21 = (t rn cn)) → (m5 20 = D) → (j ≤ C + 1) → (j = 0 ∨ (sgI (t rn cn)) = -1) → (∀ i2, i2 < (R + Gq) → ∀ j2, j2 ≤ C → m5 (30 + i2 * (C + 1) + j2) = if i2 = rn then (if j2 < j ∧ j2 ≠ cn then (sgI (t rn cn)) * t rn j2 else t rn j2) else nvT rn cn (sgI (t rn cn)) t D i2 j2) → (∀ q, (q < 20 ∨ (26 < q ∧ q < 30) ∨ 30 + (R + Gq) * (C + 1) ≤ q) → m5 q = mg q) →  (C + 1 < j + n9) → va_P (dC, dI) vwCl (WR a k h0 (fT vi 11 0) vj (fT (fT (fT vF 0 g5) 2 f21) 3 f31) (fT (fT vG 8 L80) 1 gs1)) H → va_D A (WR a k h0 (fT vi 11 0) vj (fT (fT (fT vF 0 g5) 2 f21) 3 f31) (fT (fT vG 8 L80) 1 gs1)) → va_S A s.heap H locs → lv_has ls 7 [(0, .ref h0), (1, .int (nI rn)), (2, .int (nI cn)), (3, .int (nI (30 + rn * (C + 1) + cn))), (4, .int r30), (5, .int (nI j))] → W p l e _ s m _ below meth c H locs 0 0 _ (F0 m 210 ls [])) => loop (C + 2) 0 g1 m1 _ _ _ (hB1) ((by rw [h21])) ((by rw [h20])) (by omega) (Or.inl rfl) (fun i2 hi2 j2 hj2 => by rw [htab i2 hi2 j2 hj2]; by_cases e9 : i2 = rn; (rw [if_neg (by omega), if_pos e9, if_neg (by omega), e9]); (rw [if_pos (by omega), if_neg e9])) (ho) (by omega) hP hD hS hl) ?_
        intro n9
        induction n9 with
        | zero => intro j g5 m5 H locs ls hB5 h21c h20c hj5 hj0 htab5 ho5 hf9; exact False.elim (by omega)
        | succ n9 ih210_1 =>
          intro j g5 m5 H locs ls hB5 h21c h20c hj5 hj0 htab5 ho5 hf210_1 hP hD hS hl
          refine lv_iload hx hb dX12_pivot_210 (lv_at hl 5 rfl) ?_
          refine lv_aload_n hx hb dX12_pivot_212 rfl (lv_at hl 0 rfl) ?_
          refine va_get (D := (dC, dI)) (ci := 12) (v := .int (vi 5)) (C := RX12) (T := TX12) (N := 163) (fs := fM (vS a (fT vi 11 0) vj)) hx hb hts iwsRX12_pivot_in12 hown hK hP 0 rfl rfl 5 (by decide) (hts (.fieldLink RX12 396 "OptimaWorksModel" "columns" "I") (by decide +kernel)) (fun _ h9 => h9) rfl dX12_pivot_213 ?_
          refine lv_topi (fun y4 hy4 => ?_)
          obtain rfl : (nI C) = y4 := (hy4.trans (hC)).symm
          refine lv_icmp_gt (tgt := 247) hx hb dX12_pivot_216 (by decide) (fun c_216 => ?_) (fun c_216 => ?_)
          · have t_216 : ((j : Nat) : Int) > ((C : Nat) : Int) := toI_gt c_216 (nI_toInt (by omega)) (nI_toInt (by omega))
            refine lv_aload_n hx hb dX12_pivot_247 rfl (lv_at hl 0 rfl) ?_
            refine lv_iload_n hx hb dX12_pivot_248 rfl (lv_at hl 3 rfl) ?_
            refine lv_bipush (v := 20) hx hb dX12_pivot_249 (by decide) ?_
            have hFc := allFree hD hS hA
            refine va_callv (va_runV (As := [.int (nI (30 + rn * (C + 1) + cn)), .int 20]) (rest := []) ⟨hx, hb, hml, hown, hts⟩ (b_X12_copy l dC dI a k h0 (fT vi 11 0) vj (fT (fT (fT vF 0 g5) 2 f21) 3 f31) (fT (fT vG 8 L80) 1 gs1) (30 + rn * (C + 1) + cn) 20 m5 hB5 D (by rw [h20c]) (by first | with_reducible assumption | decide | omega | rfl | assumption) (by first | with_reducible assumption | decide | omega | rfl | assumption) (by first | with_reducible assumption | decide | omega | rfl | assumption) H.size) (cwV 2 hts gwsRX12_pivot_4 rfl rfl rfl hd_yX12_copy_RX12 (by decide +kernel)) (fz_pre (va_recv hK hP (ci := 12) (q0 := 0) rfl rfl) hP hK hD) rfl rfl hl.1 rfl (lv_room (Nat.le_of_ble_eq_true rfl)) dX12_pivot_251 (by decide +kernel)) hS (fun q _ h => hFc q h) hFc (fun g251 t9_ H locs ht hvm hw9 hB9 hz1 hk1 hS => ?_)
            have hP : va_P (dC, dI) vwCl (WR a k h0 (fT vi 11 0) vj (fT (fT (fT (fT vF 0 g5) 2 f21) 3 f31) 0 g251) (fT (fT vG 8 L80) 1 gs1)) H := fz_P ht hB9.1
            have hD : va_D A (WR a k h0 (fT vi 11 0) vj (fT (fT (fT (fT vF 0 g5) 2 f21) 3 f31) 0 g251) (fT (fT vG 8 L80) 1 gs1)) := hB9.2.weaken (fun _ q _ h => hFc q.1 h)
            have e9 : fT (fT (fT vF 0 g251) 2 f21) 3 f31 = fT (fT (fT (fT vF 0 g5) 2 f21) 3 f31) 0 g251 := ((fT_sw _ _ _ (Nat.ne_of_beq_eq_false rfl)).trans (congrArg (fun g9 => fT g9 3 f31) ((fT_sw _ _ _ (Nat.ne_of_beq_eq_false rfl)).trans (congrArg (fun g9 => fT g9 2 f21) (fT_sm _ _ _ _))))).symm
            rw [← e9] at hP hD
            clear e9
            have hP : va_P (dC, dI) vwCl (WR a k h0 (fT vi 11 0) vj (fT (fT (fT vF 0 g251) 2 f21) 3 f31) (fT (fT vG 8 L80) 1 gs1)) H := hP
            have hD : va_D A (WR a k h0 (fT vi 11 0) vj (fT (fT (fT vF 0 g251) 2 f21) 3 f31) (fT (fT vG 8 L80) 1 gs1)) := hD
            have f251_0 := hw9
            try dsimp only at f251_0
            refine lv_iload hx hb dX12_pivot_254 (lv_at hl 4 rfl) ?_
            refine lv_if_ge (tgt := 264) hx hb dX12_pivot_256 (by decide) (fun c9 => False.elim (by have t9 : (r30).toInt ≥ 0 := toI_ge c9 rfl (by decide); omega)) (fun c_256 => ?_)
            have t_256 : ¬ (r30).toInt ≥ 0 := toI_nge c_256 rfl (by decide)
            refine lv_aload_n hx hb dX12_pivot_259 rfl (lv_at hl 0 rfl) ?_
            refine lv_iload_n hx hb dX12_pivot_260 rfl (lv_at hl 3 rfl) ?_
            have hFc := allFree hD hS hA
            refine va_callv (va_runV (As := [.int (nI (30 + rn * (C + 1) + cn))]) (rest := []) ⟨hx, hb, hml, hown, hts⟩ (b_X12_turn l dC dI a k h0 (fT vi 11 0) vj (fT (fT (fT vF 0 g251) 2 f21) 3 f31) (fT (fT vG 8 L80) 1 gs1) (30 + rn * (C + 1) + cn) (fT m5 (30 + rn * (C + 1) + cn) D) f251_0 D (by rw [fT_eq]) (by first | with_reducible assumption | decide | omega | rfl | assumption) H.size) (cwV 1 hts gwsRX12_pivot_5 rfl rfl rfl hd_yX12_turn_RX12 (by decide +kernel)) (fz_pre (va_recv hK hP (ci := 12) (q0 := 0) rfl rfl) hP hK hD) rfl rfl hl.1 rfl (lv_room (Nat.le_of_ble_eq_true rfl)) dX12_pivot_261 (by decide +kernel)) hS (fun q _ h => hFc q h) hFc (fun u t9_ H locs ht hvm hw9 hB9 hz1 hk1 hS => ?_)
            have hP : va_P (dC, dI) vwCl (WR a k h0 (fT vi 11 0) vj (fT (fT (fT (fT vF 0 g251) 2 f21) 3 f31) 0 (upd g251 (nI (24 * (30 + rn * (C + 1) + cn))).toNatClampNeg (-(g251 (24 * (30 + rn * (C + 1) + cn)))))) (fT (fT vG 8 L80) 1 gs1)) H := fz_P ht hB9.1
            have hD : va_D A (WR a k h0 (fT vi 11 0) vj (fT (fT (fT (fT vF 0 g251) 2 f21) 3 f31) 0 (upd g251 (nI (24 * (30 + rn * (C + 1) + cn))).toNatClampNeg (-(g251 (24 * (30 + rn * (C + 1) + cn)))))) (fT (fT vG 8 L80) 1 gs1)) := hB9.2.weaken (fun _ q _ h => hFc q.1 h)
            have e9 : fT (fT (fT vF 0 (upd g251 (nI (24 * (30 + rn * (C + 1) + cn))).toNatClampNeg (-(g251 (24 * (30 + rn * (C + 1) + cn)))))) 2 f21) 3 f31 = fT (fT (fT (fT vF 0 g251) 2 f21) 3 f31) 0 (upd g251 (nI (24 * (30 + rn * (C + 1) + cn))).toNatClampNeg (-(g251 (24 * (30 + rn * (C + 1) + cn))))) := ((fT_sw _ _ _ (Nat.ne_of_beq_eq_false rfl)).trans (congrArg (fun g9 => fT g9 3 f31) ((fT_sw _ _ _ (Nat.ne_of_beq_eq_false rfl)).trans (congrArg (fun g9 => fT g9 2 f21) (fT_sm _ _ _ _))))).symm
            rw [← e9] at hP hD
            clear e9
            have hP : va_P (dC, dI) vwCl (WR a k h0 (fT vi 11 0) vj (fT (fT (fT vF 0 (upd g251 (nI (24 * (30 + rn * (C + 1) + cn))).toNatClampNeg (-(g251 (24 * (30 + rn * (C + 1) + cn)))))) 2 f21) 3 f31) (fT (fT vG 8 L80) 1 gs1)) H := hP
            have hD : va_D A (WR a k h0 (fT vi 11 0) vj (fT (fT (fT vF 0 (upd g251 (nI (24 * (30 + rn * (C + 1) + cn))).toNatClampNeg (-(g251 (24 * (30 + rn * (C + 1) + cn)))))) 2 f21) 3 f31) (fT (fT vG 8 L80) 1 gs1)) := hD
            have f261_0 := hw9
            try dsimp only at f261_0
            have f261_0 : Bg (upd g251 (nI (24 * (30 + rn * (C + 1) + cn))).toNatClampNeg (-(g251 (24 * (30 + rn * (C + 1) + cn))))) (fT (fT m5 (30 + rn * (C + 1) + cn) D) (30 + rn * (C + 1) + cn) (-D)) := f261_0
            refine lv_aload_n hx hb dX12_pivot_264 rfl (lv_at hl 0 rfl) ?_
            refine lv_bipush (v := 20) hx hb dX12_pivot_265 (by decide) ?_
            refine lv_bipush (v := 21) hx hb dX12_pivot_267 (by decide) ?_
            have hFc := allFree hD hS hA
            refine va_callv (va_runV (As := [.int 20, .int 21]) (rest := []) ⟨hx, hb, hml, hown, hts⟩ (b_X12_copy l dC dI a k h0 (fT vi 11 0) vj (fT (fT (fT vF 0 (upd g251 (nI (24 * (30 + rn * (C + 1) + cn))).toNatClampNeg (-(g251 (24 * (30 + rn * (C + 1) + cn)))))) 2 f21) 3 f31) (fT (fT vG 8 L80) 1 gs1) 20 21 (fT (fT m5 (30 + rn * (C + 1) + cn) D) (30 + rn * (C + 1) + cn) (-D)) f261_0 (t rn cn) (by rw [fT_ne _ _ (by omega), fT_ne _ _ (by omega), h21c]) (by first | with_reducible assumption | decide | omega | rfl | assumption) (by first | with_reducible assumption | decide | omega | rfl | assumption) (by first | with_reducible assumption | decide | omega | rfl | assumption) H.size) (cwV 2 hts gwsRX12_pivot_4 rfl rfl rfl hd_yX12_copy_RX12 (by decide +kernel)) (fz_pre (va_recv hK hP (ci := 12) (q0 := 0) rfl rfl) hP hK hD) rfl rfl hl.1 rfl (lv_room (Nat.le_of_ble_eq_true rfl)) dX12_pivot_269 (by decide +kernel)) hS (fun q _ h => hFc q h) hFc (fun g269 t9_ H locs ht hvm hw9 hB9 hz1 hk1 hS => ?_)
            have hP : va_P (dC, dI) vwCl (WR a k h0 (fT vi 11 0) vj (fT (fT (fT (fT vF 0 (upd g251 (nI (24 * (30 + rn * (C + 1) + cn))).toNatClampNeg (-(g251 (24 * (30 + rn * (C + 1) + cn)))))) 2 f21) 3 f31) 0 g269) (fT (fT vG 8 L80) 1 gs1)) H := fz_P ht hB9.1
            have hD : va_D A (WR a k h0 (fT vi 11 0) vj (fT (fT (fT (fT vF 0 (upd g251 (nI (24 * (30 + rn * (C + 1) + cn))).toNatClampNeg (-(g251 (24 * (30 + rn * (C + 1) + cn)))))) 2 f21) 3 f31) 0 g269) (fT (fT vG 8 L80) 1 gs1)) := hB9.2.weaken (fun _ q _ h => hFc q.1 h)
            have e9 : fT (fT (fT vF 0 g269) 2 f21) 3 f31 = fT (fT (fT (fT vF 0 (upd g251 (nI (24 * (30 + rn * (C + 1) + cn))).toNatClampNeg (-(g251 (24 * (30 + rn * (C + 1) + cn)))))) 2 f21) 3 f31) 0 g269 := ((fT_sw _ _ _ (Nat.ne_of_beq_eq_false rfl)).trans (congrArg (fun g9 => fT g9 3 f31) ((fT_sw _ _ _ (Nat.ne_of_beq_eq_false rfl)).trans (congrArg (fun g9 => fT g9 2 f21) (fT_sm _ _ _ _))))).symm
            rw [← e9] at hP hD
            clear e9
            have hP : va_P (dC, dI) vwCl (WR a k h0 (fT vi 11 0) vj (fT (fT (fT vF 0 g269) 2 f21) 3 f31) (fT (fT vG 8 L80) 1 gs1)) H := hP
            have hD : va_D A (WR a k h0 (fT vi 11 0) vj (fT (fT (fT vF 0 g269) 2 f21) 3 f31) (fT (fT vG 8 L80) 1 gs1)) := hD
            have f269_0 := hw9
            try dsimp only at f269_0
            refine lv_iload hx hb dX12_pivot_272 (lv_at hl 4 rfl) ?_
            refine lv_if_ge (tgt := 283) hx hb dX12_pivot_274 (by decide) (fun c9 => False.elim (by have t9 : (r30).toInt ≥ 0 := toI_ge c9 rfl (by decide); omega)) (fun c_274 => ?_)
            have t_274 : ¬ (r30).toInt ≥ 0 := toI_nge c_274 rfl (by decide)
            refine lv_aload_n hx hb dX12_pivot_277 rfl (lv_at hl 0 rfl) ?_
            refine lv_bipush (v := 20) hx hb dX12_pivot_278 (by decide) ?_
            have hFc := allFree hD hS hA
            refine va_callv (va_runV (As := [.int 20]) (rest := []) ⟨hx, hb, hml, hown, hts⟩ (b_X12_turn l dC dI a k h0 (fT vi 11 0) vj (fT (fT (fT vF 0 g269) 2 f21) 3 f31) (fT (fT vG 8 L80) 1 gs1) 20 (fT (fT (fT m5 (30 + rn * (C + 1) + cn) D) (30 + rn * (C + 1) + cn) (-D)) 20 (t rn cn)) f269_0 (t rn cn) (by rw [fT_eq]) (by first | with_reducible assumption | decide | omega | rfl | assumption) H.size) (cwV 1 hts gwsRX12_pivot_5 rfl rfl rfl hd_yX12_turn_RX12 (by decide +kernel)) (fz_pre (va_recv hK hP (ci := 12) (q0 := 0) rfl rfl) hP hK hD) rfl rfl hl.1 rfl (lv_room (Nat.le_of_ble_eq_true rfl)) dX12_pivot_280 (by decide +kernel)) hS (fun q _ h => hFc q h) hFc (fun u t9_ H locs ht hvm hw9 hB9 hz1 hk1 hS => ?_)
            have hP : va_P (dC, dI) vwCl (WR a k h0 (fT vi 11 0) vj (fT (fT (fT (fT vF 0 g269) 2 f21) 3 f31) 0 (upd g269 (nI (24 * 20)).toNatClampNeg (-(g269 (24 * 20))))) (fT (fT vG 8 L80) 1 gs1)) H := fz_P ht hB9.1
            have hD : va_D A (WR a k h0 (fT vi 11 0) vj (fT (fT (fT (fT vF 0 g269) 2 f21) 3 f31) 0 (upd g269 (nI (24 * 20)).toNatClampNeg (-(g269 (24 * 20))))) (fT (fT vG 8 L80) 1 gs1)) := hB9.2.weaken (fun _ q _ h => hFc q.1 h)
            have e9 : fT (fT (fT vF 0 (upd g269 (nI (24 * 20)).toNatClampNeg (-(g269 (24 * 20))))) 2 f21) 3 f31 = fT (fT (fT (fT vF 0 g269) 2 f21) 3 f31) 0 (upd g269 (nI (24 * 20)).toNatClampNeg (-(g269 (24 * 20)))) := ((fT_sw _ _ _ (Nat.ne_of_beq_eq_false rfl)).trans (congrArg (fun g9 => fT g9 3 f31) ((fT_sw _ _ _ (Nat.ne_of_beq_eq_false rfl)).trans (congrArg (fun g9 => fT g9 2 f21) (fT_sm _ _ _ _))))).symm
            rw [← e9] at hP hD
            clear e9
            have hP : va_P (dC, dI) vwCl (WR a k h0 (fT vi 11 0) vj (fT (fT (fT vF 0 (upd g269 (nI (24 * 20)).toNatClampNeg (-(g269 (24 * 20))))) 2 f21) 3 f31) (fT (fT vG 8 L80) 1 gs1)) H := hP
            have hD : va_D A (WR a k h0 (fT vi 11 0) vj (fT (fT (fT vF 0 (upd g269 (nI (24 * 20)).toNatClampNeg (-(g269 (24 * 20))))) 2 f21) 3 f31) (fT (fT vG 8 L80) 1 gs1)) := hD
            have f280_0 := hw9
            try dsimp only at f280_0
            have f280_0 : Bg (upd g269 (nI (24 * 20)).toNatClampNeg (-(g269 (24 * 20)))) (fT (fT (fT (fT m5 (30 + rn * (C + 1) + cn) D) (30 + rn * (C + 1) + cn) (-D)) 20 (t rn cn)) 20 (-(t rn cn))) := f280_0
            refine lv_aload_n hx hb dX12_pivot_283 rfl (lv_at hl 0 rfl) ?_
            refine lv_iload_n hx hb dX12_pivot_284 rfl (lv_at hl 1 rfl) ?_
            refine lv_iload_n hx hb dX12_pivot_285 rfl (lv_at hl 2 rfl) ?_
            have hFc := allFree hD hS hA
            refine va_callv (va_runV (As := [.int (nI rn), .int (nI cn)]) (rest := []) ⟨hx, hb, hml, hown, hts⟩ (r_X12_exchange l dC dI a k h0 (fT vi 11 0) vj (fT (fT (fT vF 0 (upd g269 (nI (24 * 20)).toNatClampNeg (-(g269 (24 * 20))))) 2 f21) 3 f31) (fT (fT vG 8 L80) 1 gs1) rn cn (by first | with_reducible assumption | decide | omega | rfl | assumption) (by first | with_reducible assumption | decide | omega | rfl | assumption) H.size) (cwV 2 hts gwsRX12_pivot_6 rfl rfl rfl hd_yX12_exchange_RX12 (by decide +kernel)) (fz_pre (va_recv hK hP (ci := 12) (q0 := 0) rfl rfl) hP hK hD) rfl rfl hl.1 rfl (lv_room (Nat.le_of_ble_eq_true rfl)) dX12_pivot_286 (by decide +kernel)) hS (fun q _ h => hFc q h) hFc (fun u t9_ H locs ht hvm hw9 hB9 hz1 hk1 hS => ?_)
            have hP : va_P (dC, dI) vwCl (WR a k h0 (fT vi 11 0) vj (fT (fT (fT (fT (fT vF 0 (upd g269 (nI (24 * 20)).toNatClampNeg (-(g269 (24 * 20))))) 2 f21) 3 f31) 4 (upd (vF 4) (nI cn).toNatClampNeg ((vF 5) rn))) 5 (upd (vF 5) (nI rn).toNatClampNeg ((vF 4) cn))) (fT (fT vG 8 L80) 1 gs1)) H := fz_P ht hB9.1
            have hD : va_D A (WR a k h0 (fT vi 11 0) vj (fT (fT (fT (fT (fT vF 0 (upd g269 (nI (24 * 20)).toNatClampNeg (-(g269 (24 * 20))))) 2 f21) 3 f31) 4 (upd (vF 4) (nI cn).toNatClampNeg ((vF 5) rn))) 5 (upd (vF 5) (nI rn).toNatClampNeg ((vF 4) cn))) (fT (fT vG 8 L80) 1 gs1)) := hB9.2.weaken (fun _ q _ h => hFc q.1 h)
            refine W.widen (k := 0) (n := 0) (by decide +kernel) (by decide +kernel) ?_
            have e9 : fT vj 12 (vj 12) = vj := fT_id _ _ (rfl)
            have hP : va_P (dC, dI) vwCl (WR a k h0 (fT vi 11 0) (fT vj 12 (vj 12)) (fT (fT (fT (fT (fT vF 0 (upd g269 (nI (24 * 20)).toNatClampNeg (-(g269 (24 * 20))))) 2 f21) 3 f31) 4 (upd (vF 4) (nI cn).toNatClampNeg ((vF 5) rn))) 5 (upd (vF 5) (nI rn).toNatClampNeg ((vF 4) cn))) (fT (fT vG 8 L80) 1 gs1)) H := by rw [e9]; exact hP
            have hD : va_D A (WR a k h0 (fT vi 11 0) (fT vj 12 (vj 12)) (fT (fT (fT (fT (fT vF 0 (upd g269 (nI (24 * 20)).toNatClampNeg (-(g269 (24 * 20))))) 2 f21) 3 f31) 4 (upd (vF 4) (nI cn).toNatClampNeg ((vF 5) rn))) 5 (upd (vF 5) (nI rn).toNatClampNeg ((vF 4) cn))) (fT (fT vG 8 L80) 1 gs1)) := by rw [e9]; exact hD
            clear e9
            have e9 : fT (fT (fT (fT (fT vF 0 (upd g269 (nI (24 * 20)).toNatClampNeg (-(g269 (24 * 20))))) 2 f21) 3 f31) 4 (upd (vF 4) (nI cn).toNatClampNeg (vF 5 rn))) 5 (upd (vF 5) (nI rn).toNatClampNeg (vF 4 cn)) = fT (fT (fT (fT (fT vF 0 (upd g269 (nI (24 * 20)).toNatClampNeg (-(g269 (24 * 20))))) 2 f21) 3 f31) 4 (upd (vF 4) (nI cn).toNatClampNeg ((vF 5) rn))) 5 (upd (vF 5) (nI rn).toNatClampNeg ((vF 4) cn)) := by funext q9; by_cases h9_0 : q9 = 0; (subst h9_0; exact ((fT_ne _ _ (Nat.ne_of_beq_eq_false rfl)).trans ((fT_ne _ _ (Nat.ne_of_beq_eq_false rfl)).trans ((fT_ne _ _ (Nat.ne_of_beq_eq_false rfl)).trans ((fT_ne _ _ (Nat.ne_of_beq_eq_false rfl)).trans (fT_eq _ _ _))))).trans (Eq.trans (by first | with_reducible rfl | with_reducible assumption | (symm; with_reducible assumption) | rfl | assumption | (symm; assumption) | (subst_vars; rfl)) ((fT_ne _ _ (Nat.ne_of_beq_eq_false rfl)).trans ((fT_ne _ _ (Nat.ne_of_beq_eq_false rfl)).trans ((fT_ne _ _ (Nat.ne_of_beq_eq_false rfl)).trans ((fT_ne _ _ (Nat.ne_of_beq_eq_false rfl)).trans (fT_eq _ _ _))))).symm)); by_cases h9_2 : q9 = 2; (subst h9_2; exact ((fT_ne _ _ (Nat.ne_of_beq_eq_false rfl)).trans ((fT_ne _ _ (Nat.ne_of_beq_eq_false rfl)).trans ((fT_ne _ _ (Nat.ne_of_beq_eq_false rfl)).trans (fT_eq _ _ _)))).trans (Eq.trans (by first | with_reducible rfl | with_reducible assumption | (symm; with_reducible assumption) | rfl | assumption | (symm; assumption) | (subst_vars; rfl)) ((fT_ne _ _ (Nat.ne_of_beq_eq_false rfl)).trans ((fT_ne _ _ (Nat.ne_of_beq_eq_false rfl)).trans ((fT_ne _ _ (Nat.ne_of_beq_eq_false rfl)).trans (fT_eq _ _ _)))).symm)); by_cases h9_3 : q9 = 3; (subst h9_3; exact ((fT_ne _ _ (Nat.ne_of_beq_eq_false rfl)).trans ((fT_ne _ _ (Nat.ne_of_beq_eq_false rfl)).trans (fT_eq _ _ _))).trans (Eq.trans (by first | with_reducible rfl | with_reducible assumption | (symm; with_reducible assumption) | rfl | assumption | (symm; assumption) | (subst_vars; rfl)) ((fT_ne _ _ (Nat.ne_of_beq_eq_false rfl)).trans ((fT_ne _ _ (Nat.ne_of_beq_eq_false rfl)).trans (fT_eq _ _ _))).symm)); by_cases h9_4 : q9 = 4; (subst h9_4; exact ((fT_ne _ _ (Nat.ne_of_beq_eq_false rfl)).trans (fT_eq _ _ _)).trans (Eq.trans (by first | with_reducible rfl | with_reducible assumption | (symm; with_reducible assumption) | rfl | assumption | (symm; assumption) | (subst_vars; rfl)) ((fT_ne _ _ (Nat.ne_of_beq_eq_false rfl)).trans (fT_eq _ _ _)).symm)); by_cases h9_5 : q9 = 5; (subst h9_5; exact (fT_eq _ _ _).trans (Eq.trans (by first | with_reducible rfl | with_reducible assumption | (symm; with_reducible assumption) | rfl | assumption | (symm; assumption) | (subst_vars; rfl)) (fT_eq _ _ _).symm)); exact ((fT_ne _ _ h9_5).trans ((fT_ne _ _ h9_4).trans ((fT_ne _ _ h9_3).trans ((fT_ne _ _ h9_2).trans (fT_ne _ _ h9_0))))).trans ((fT_ne _ _ h9_5).trans ((fT_ne _ _ h9_4).trans ((fT_ne _ _ h9_3).trans ((fT_ne _ _ h9_2).trans (fT_ne _ _ h9_0))))).symm
            have hP : va_P (dC, dI) vwCl (WR a k h0 (fT vi 11 0) (fT vj 12 (vj 12)) (fT (fT (fT (fT (fT vF 0 (upd g269 (nI (24 * 20)).toNatClampNeg (-(g269 (24 * 20))))) 2 f21) 3 f31) 4 (upd (vF 4) (nI cn).toNatClampNeg (vF 5 rn))) 5 (upd (vF 5) (nI rn).toNatClampNeg (vF 4 cn))) (fT (fT vG 8 L80) 1 gs1)) H := by rw [e9]; exact hP
            have hD : va_D A (WR a k h0 (fT vi 11 0) (fT vj 12 (vj 12)) (fT (fT (fT (fT (fT vF 0 (upd g269 (nI (24 * 20)).toNatClampNeg (-(g269 (24 * 20))))) 2 f21) 3 f31) 4 (upd (vF 4) (nI cn).toNatClampNeg (vF 5 rn))) 5 (upd (vF 5) (nI rn).toNatClampNeg (vF 4 cn))) (fT (fT vG 8 L80) 1 gs1)) := by rw [e9]; exact hD
            clear e9
            have e9 : fT (fT (fT vG 8 L80) 7 (vG 7)) 1 gs1 = fT (fT vG 8 L80) 1 gs1 := by funext q9; by_cases h9_8 : q9 = 8; (subst h9_8; exact ((fT_ne _ _ (Nat.ne_of_beq_eq_false rfl)).trans ((fT_ne _ _ (Nat.ne_of_beq_eq_false rfl)).trans (fT_eq _ _ _))).trans (Eq.trans (by first | with_reducible rfl | with_reducible assumption | (symm; with_reducible assumption) | rfl | assumption | (symm; assumption) | (subst_vars; rfl)) ((fT_ne _ _ (Nat.ne_of_beq_eq_false rfl)).trans (fT_eq _ _ _)).symm)); by_cases h9_7 : q9 = 7; (subst h9_7; exact ((fT_ne _ _ (Nat.ne_of_beq_eq_false rfl)).trans (fT_eq _ _ _)).trans (Eq.trans (by first | with_reducible rfl | with_reducible assumption | (symm; with_reducible assumption) | rfl | assumption | (symm; assumption) | (subst_vars; rfl)) ((fT_ne _ _ (Nat.ne_of_beq_eq_false rfl)).trans (fT_ne _ _ (Nat.ne_of_beq_eq_false rfl))).symm)); by_cases h9_1 : q9 = 1; (subst h9_1; exact (fT_eq _ _ _).trans (Eq.trans (by first | with_reducible rfl | with_reducible assumption | (symm; with_reducible assumption) | rfl | assumption | (symm; assumption) | (subst_vars; rfl)) (fT_eq _ _ _).symm)); exact ((fT_ne _ _ h9_1).trans ((fT_ne _ _ h9_7).trans (fT_ne _ _ h9_8))).trans ((fT_ne _ _ h9_1).trans (fT_ne _ _ h9_8)).symm
            have hP : va_P (dC, dI) vwCl (WR a k h0 (fT vi 11 0) (fT vj 12 (vj 12)) (fT (fT (fT (fT (fT vF 0 (upd g269 (nI (24 * 20)).toNatClampNeg (-(g269 (24 * 20))))) 2 f21) 3 f31) 4 (upd (vF 4) (nI cn).toNatClampNeg (vF 5 rn))) 5 (upd (vF 5) (nI rn).toNatClampNeg (vF 4 cn))) (fT (fT (fT vG 8 L80) 7 (vG 7)) 1 gs1)) H := by rw [e9]; exact hP
            have hD : va_D A (WR a k h0 (fT vi 11 0) (fT vj 12 (vj 12)) (fT (fT (fT (fT (fT vF 0 (upd g269 (nI (24 * 20)).toNatClampNeg (-(g269 (24 * 20))))) 2 f21) 3 f31) 4 (upd (vF 4) (nI cn).toNatClampNeg (vF 5 rn))) 5 (upd (vF 5) (nI rn).toNatClampNeg (vF 4 cn))) (fT (fT (fT vG 8 L80) 7 (vG 7)) 1 gs1)) := by rw [e9]; exact hD
            clear e9
            exact W.vret hx hb hr (fun t9_ ht hW => ⟨⟨((upd g269 (nI (24 * 20)).toNatClampNeg (-(g269 (24 * 20)))), f21, f31, gs1, 0, (vj 12), (vG 7), L80, (fT (fT (fT (fT m5 (30 + rn * (C + 1) + cn) D) (30 + rn * (C + 1) + cn) (-D)) 20 (t rn cn)) 20 (-(t rn cn)))), rfl, by (try dsimp only); exact ⟨f280_0, Or.inl ⟨rfl, ⟨fun i2 hi2 j2 hj2 => by (have gx : (sgI (t rn cn)) = -1 := by omega); (rw [fT_ne _ _ (by omega), fT_ne _ _ (by omega)]); by_cases e9 : i2 = rn ∧ j2 = cn; (rw [e9.1, e9.2, fT_eq, nv_piv, gx]; omega); ((have n9 : 30 + i2 * (C + 1) + j2 ≠ 30 + rn * (C + 1) + cn := fun h => e9 (pl_inj hj2 (by omega) (by omega))); rw [fT_ne _ _ n9, fT_ne _ _ n9, htab5 i2 hi2 j2 hj2]; by_cases e8 : i2 = rn; (rw [if_pos e8, e8, nv_row _ _ _ _ _ (by omega), gx]; split <;> omega); (rw [if_neg e8])), by (have gx : (sgI (t rn cn)) = -1 := by omega); rw [fT_eq, gx]; omega⟩⟩, fun q hq => by (rw [fT_ne _ _ (by omega), fT_ne _ _ (by omega), fT_ne _ _ (by omega), fT_ne _ _ (by omega)]); exact ho5 q hq⟩, by rw [ht]; exact hP, hD⟩, hS.F ht⟩) hS.2.2 dX12_pivot_289
          · have t_216 : ¬ ((j : Nat) : Int) > ((C : Nat) : Int) := toI_ngt c_216 (nI_toInt (by omega)) (nI_toInt (by omega))
            refine lv_iload hx hb dX12_pivot_219 (lv_at hl 4 rfl) ?_
            refine lv_if_ge (tgt := 247) hx hb dX12_pivot_221 (by decide) (fun c_221 => ?_) (fun c_221 => ?_)
            · have t_221 : (r30).toInt ≥ 0 := toI_ge c_221 rfl (by decide)
              refine lv_aload_n hx hb dX12_pivot_247 rfl (lv_at hl 0 rfl) ?_
              refine lv_iload_n hx hb dX12_pivot_248 rfl (lv_at hl 3 rfl) ?_
              refine lv_bipush (v := 20) hx hb dX12_pivot_249 (by decide) ?_
              have hFc := allFree hD hS hA
              refine va_callv (va_runV (As := [.int (nI (30 + rn * (C + 1) + cn)), .int 20]) (rest := []) ⟨hx, hb, hml, hown, hts⟩ (b_X12_copy l dC dI a k h0 (fT vi 11 0) vj (fT (fT (fT vF 0 g5) 2 f21) 3 f31) (fT (fT vG 8 L80) 1 gs1) (30 + rn * (C + 1) + cn) 20 m5 hB5 D (by rw [h20c]) (by first | with_reducible assumption | decide | omega | rfl | assumption) (by first | with_reducible assumption | decide | omega | rfl | assumption) (by first | with_reducible assumption | decide | omega | rfl | assumption) H.size) (cwV 2 hts gwsRX12_pivot_4 rfl rfl rfl hd_yX12_copy_RX12 (by decide +kernel)) (fz_pre (va_recv hK hP (ci := 12) (q0 := 0) rfl rfl) hP hK hD) rfl rfl hl.1 rfl (lv_room (Nat.le_of_ble_eq_true rfl)) dX12_pivot_251 (by decide +kernel)) hS (fun q _ h => hFc q h) hFc (fun g251_1 t9_ H locs ht hvm hw9 hB9 hz1 hk1 hS => ?_)
              have hP : va_P (dC, dI) vwCl (WR a k h0 (fT vi 11 0) vj (fT (fT (fT (fT vF 0 g5) 2 f21) 3 f31) 0 g251_1) (fT (fT vG 8 L80) 1 gs1)) H := fz_P ht hB9.1
              have hD : va_D A (WR a k h0 (fT vi 11 0) vj (fT (fT (fT (fT vF 0 g5) 2 f21) 3 f31) 0 g251_1) (fT (fT vG 8 L80) 1 gs1)) := hB9.2.weaken (fun _ q _ h => hFc q.1 h)
              have e9 : fT (fT (fT vF 0 g251_1) 2 f21) 3 f31 = fT (fT (fT (fT vF 0 g5) 2 f21) 3 f31) 0 g251_1 := ((fT_sw _ _ _ (Nat.ne_of_beq_eq_false rfl)).trans (congrArg (fun g9 => fT g9 3 f31) ((fT_sw _ _ _ (Nat.ne_of_beq_eq_false rfl)).trans (congrArg (fun g9 => fT g9 2 f21) (fT_sm _ _ _ _))))).symm
              rw [← e9] at hP hD
              clear e9
              have hP : va_P (dC, dI) vwCl (WR a k h0 (fT vi 11 0) vj (fT (fT (fT vF 0 g251_1) 2 f21) 3 f31) (fT (fT vG 8 L80) 1 gs1)) H := hP
              have hD : va_D A (WR a k h0 (fT vi 11 0) vj (fT (fT (fT vF 0 g251_1) 2 f21) 3 f31) (fT (fT vG 8 L80) 1 gs1)) := hD
              have f251_1_0 := hw9
              try dsimp only at f251_1_0
              refine lv_iload hx hb dX12_pivot_254 (lv_at hl 4 rfl) ?_
              refine lv_if_ge (tgt := 264) hx hb dX12_pivot_256 (by decide) (fun c_256 => ?_) (fun c9 => False.elim (by have t9 : ¬ (r30).toInt ≥ 0 := toI_nge c9 rfl (by decide); omega))
              have t_256 : (r30).toInt ≥ 0 := toI_ge c_256 rfl (by decide)
              refine lv_aload_n hx hb dX12_pivot_264 rfl (lv_at hl 0 rfl) ?_
              refine lv_bipush (v := 20) hx hb dX12_pivot_265 (by decide) ?_
              refine lv_bipush (v := 21) hx hb dX12_pivot_267 (by decide) ?_
              have hFc := allFree hD hS hA
              refine va_callv (va_runV (As := [.int 20, .int 21]) (rest := []) ⟨hx, hb, hml, hown, hts⟩ (b_X12_copy l dC dI a k h0 (fT vi 11 0) vj (fT (fT (fT vF 0 g251_1) 2 f21) 3 f31) (fT (fT vG 8 L80) 1 gs1) 20 21 (fT m5 (30 + rn * (C + 1) + cn) D) f251_1_0 (t rn cn) (by rw [fT_ne _ _ (by omega), h21c]) (by first | with_reducible assumption | decide | omega | rfl | assumption) (by first | with_reducible assumption | decide | omega | rfl | assumption) (by first | with_reducible assumption | decide | omega | rfl | assumption) H.size) (cwV 2 hts gwsRX12_pivot_4 rfl rfl rfl hd_yX12_copy_RX12 (by decide +kernel)) (fz_pre (va_recv hK hP (ci := 12) (q0 := 0) rfl rfl) hP hK hD) rfl rfl hl.1 rfl (lv_room (Nat.le_of_ble_eq_true rfl)) dX12_pivot_269 (by decide +kernel)) hS (fun q _ h => hFc q h) hFc (fun g269_1 t9_ H locs ht hvm hw9 hB9 hz1 hk1 hS => ?_)
              have hP : va_P (dC, dI) vwCl (WR a k h0 (fT vi 11 0) vj (fT (fT (fT (fT vF 0 g251_1) 2 f21) 3 f31) 0 g269_1) (fT (fT vG 8 L80) 1 gs1)) H := fz_P ht hB9.1
              have hD : va_D A (WR a k h0 (fT vi 11 0) vj (fT (fT (fT (fT vF 0 g251_1) 2 f21) 3 f31) 0 g269_1) (fT (fT vG 8 L80) 1 gs1)) := hB9.2.weaken (fun _ q _ h => hFc q.1 h)
              have e9 : fT (fT (fT vF 0 g269_1) 2 f21) 3 f31 = fT (fT (fT (fT vF 0 g251_1) 2 f21) 3 f31) 0 g269_1 := ((fT_sw _ _ _ (Nat.ne_of_beq_eq_false rfl)).trans (congrArg (fun g9 => fT g9 3 f31) ((fT_sw _ _ _ (Nat.ne_of_beq_eq_false rfl)).trans (congrArg (fun g9 => fT g9 2 f21) (fT_sm _ _ _ _))))).symm
              rw [← e9] at hP hD
              clear e9
              have hP : va_P (dC, dI) vwCl (WR a k h0 (fT vi 11 0) vj (fT (fT (fT vF 0 g269_1) 2 f21) 3 f31) (fT (fT vG 8 L80) 1 gs1)) H := hP
              have hD : va_D A (WR a k h0 (fT vi 11 0) vj (fT (fT (fT vF 0 g269_1) 2 f21) 3 f31) (fT (fT vG 8 L80) 1 gs1)) := hD
              have f269_1_0 := hw9
              try dsimp only at f269_1_0
              refine lv_iload hx hb dX12_pivot_272 (lv_at hl 4 rfl) ?_
              refine lv_if_ge (tgt := 283) hx hb dX12_pivot_274 (by decide) (fun c_274 => ?_) (fun c9 => False.elim (by have t9 : ¬ (r30).toInt ≥ 0 := toI_nge c9 rfl (by decide); omega))
              have t_274 : (r30).toInt ≥ 0 := toI_ge c_274 rfl (by decide)
              refine lv_aload_n hx hb dX12_pivot_283 rfl (lv_at hl 0 rfl) ?_
              refine lv_iload_n hx hb dX12_pivot_284 rfl (lv_at hl 1 rfl) ?_
              refine lv_iload_n hx hb dX12_pivot_285 rfl (lv_at hl 2 rfl) ?_
              have hFc := allFree hD hS hA
              refine va_callv (va_runV (As := [.int (nI rn), .int (nI cn)]) (rest := []) ⟨hx, hb, hml, hown, hts⟩ (r_X12_exchange l dC dI a k h0 (fT vi 11 0) vj (fT (fT (fT vF 0 g269_1) 2 f21) 3 f31) (fT (fT vG 8 L80) 1 gs1) rn cn (by first | with_reducible assumption | decide | omega | rfl | assumption) (by first | with_reducible assumption | decide | omega | rfl | assumption) H.size) (cwV 2 hts gwsRX12_pivot_6 rfl rfl rfl hd_yX12_exchange_RX12 (by decide +kernel)) (fz_pre (va_recv hK hP (ci := 12) (q0 := 0) rfl rfl) hP hK hD) rfl rfl hl.1 rfl (lv_room (Nat.le_of_ble_eq_true rfl)) dX12_pivot_286 (by decide +kernel)) hS (fun q _ h => hFc q h) hFc (fun u t9_ H locs ht hvm hw9 hB9 hz1 hk1 hS => ?_)
              have hP : va_P (dC, dI) vwCl (WR a k h0 (fT vi 11 0) vj (fT (fT (fT (fT (fT vF 0 g269_1) 2 f21) 3 f31) 4 (upd (vF 4) (nI cn).toNatClampNeg ((vF 5) rn))) 5 (upd (vF 5) (nI rn).toNatClampNeg ((vF 4) cn))) (fT (fT vG 8 L80) 1 gs1)) H := fz_P ht hB9.1
              have hD : va_D A (WR a k h0 (fT vi 11 0) vj (fT (fT (fT (fT (fT vF 0 g269_1) 2 f21) 3 f31) 4 (upd (vF 4) (nI cn).toNatClampNeg ((vF 5) rn))) 5 (upd (vF 5) (nI rn).toNatClampNeg ((vF 4) cn))) (fT (fT vG 8 L80) 1 gs1)) := hB9.2.weaken (fun _ q _ h => hFc q.1 h)
              refine W.widen (k := 0) (n := 0) (by decide +kernel) (by decide +kernel) ?_
              have e9 : fT vj 12 (vj 12) = vj := fT_id _ _ (rfl)
              have hP : va_P (dC, dI) vwCl (WR a k h0 (fT vi 11 0) (fT vj 12 (vj 12)) (fT (fT (fT (fT (fT vF 0 g269_1) 2 f21) 3 f31) 4 (upd (vF 4) (nI cn).toNatClampNeg ((vF 5) rn))) 5 (upd (vF 5) (nI rn).toNatClampNeg ((vF 4) cn))) (fT (fT vG 8 L80) 1 gs1)) H := by rw [e9]; exact hP
              have hD : va_D A (WR a k h0 (fT vi 11 0) (fT vj 12 (vj 12)) (fT (fT (fT (fT (fT vF 0 g269_1) 2 f21) 3 f31) 4 (upd (vF 4) (nI cn).toNatClampNeg ((vF 5) rn))) 5 (upd (vF 5) (nI rn).toNatClampNeg ((vF 4) cn))) (fT (fT vG 8 L80) 1 gs1)) := by rw [e9]; exact hD
              clear e9
              have e9 : fT (fT (fT (fT (fT vF 0 g269_1) 2 f21) 3 f31) 4 (upd (vF 4) (nI cn).toNatClampNeg (vF 5 rn))) 5 (upd (vF 5) (nI rn).toNatClampNeg (vF 4 cn)) = fT (fT (fT (fT (fT vF 0 g269_1) 2 f21) 3 f31) 4 (upd (vF 4) (nI cn).toNatClampNeg ((vF 5) rn))) 5 (upd (vF 5) (nI rn).toNatClampNeg ((vF 4) cn)) := by funext q9; by_cases h9_0 : q9 = 0; (subst h9_0; exact ((fT_ne _ _ (Nat.ne_of_beq_eq_false rfl)).trans ((fT_ne _ _ (Nat.ne_of_beq_eq_false rfl)).trans ((fT_ne _ _ (Nat.ne_of_beq_eq_false rfl)).trans ((fT_ne _ _ (Nat.ne_of_beq_eq_false rfl)).trans (fT_eq _ _ _))))).trans (Eq.trans (by first | with_reducible rfl | with_reducible assumption | (symm; with_reducible assumption) | rfl | assumption | (symm; assumption) | (subst_vars; rfl)) ((fT_ne _ _ (Nat.ne_of_beq_eq_false rfl)).trans ((fT_ne _ _ (Nat.ne_of_beq_eq_false rfl)).trans ((fT_ne _ _ (Nat.ne_of_beq_eq_false rfl)).trans ((fT_ne _ _ (Nat.ne_of_beq_eq_false rfl)).trans (fT_eq _ _ _))))).symm)); by_cases h9_2 : q9 = 2; (subst h9_2; exact ((fT_ne _ _ (Nat.ne_of_beq_eq_false rfl)).trans ((fT_ne _ _ (Nat.ne_of_beq_eq_false rfl)).trans ((fT_ne _ _ (Nat.ne_of_beq_eq_false rfl)).trans (fT_eq _ _ _)))).trans (Eq.trans (by first | with_reducible rfl | with_reducible assumption | (symm; with_reducible assumption) | rfl | assumption | (symm; assumption) | (subst_vars; rfl)) ((fT_ne _ _ (Nat.ne_of_beq_eq_false rfl)).trans ((fT_ne _ _ (Nat.ne_of_beq_eq_false rfl)).trans ((fT_ne _ _ (Nat.ne_of_beq_eq_false rfl)).trans (fT_eq _ _ _)))).symm)); by_cases h9_3 : q9 = 3; (subst h9_3; exact ((fT_ne _ _ (Nat.ne_of_beq_eq_false rfl)).trans ((fT_ne _ _ (Nat.ne_of_beq_eq_false rfl)).trans (fT_eq _ _ _))).trans (Eq.trans (by first | with_reducible rfl | with_reducible assumption | (symm; with_reducible assumption) | rfl | assumption | (symm; assumption) | (subst_vars; rfl)) ((fT_ne _ _ (Nat.ne_of_beq_eq_false rfl)).trans ((fT_ne _ _ (Nat.ne_of_beq_eq_false rfl)).trans (fT_eq _ _ _))).symm)); by_cases h9_4 : q9 = 4; (subst h9_4; exact ((fT_ne _ _ (Nat.ne_of_beq_eq_false rfl)).trans (fT_eq _ _ _)).trans (Eq.trans (by first | with_reducible rfl | with_reducible assumption | (symm; with_reducible assumption) | rfl | assumption | (symm; assumption) | (subst_vars; rfl)) ((fT_ne _ _ (Nat.ne_of_beq_eq_false rfl)).trans (fT_eq _ _ _)).symm)); by_cases h9_5 : q9 = 5; (subst h9_5; exact (fT_eq _ _ _).trans (Eq.trans (by first | with_reducible rfl | with_reducible assumption | (symm; with_reducible assumption) | rfl | assumption | (symm; assumption) | (subst_vars; rfl)) (fT_eq _ _ _).symm)); exact ((fT_ne _ _ h9_5).trans ((fT_ne _ _ h9_4).trans ((fT_ne _ _ h9_3).trans ((fT_ne _ _ h9_2).trans (fT_ne _ _ h9_0))))).trans ((fT_ne _ _ h9_5).trans ((fT_ne _ _ h9_4).trans ((fT_ne _ _ h9_3).trans ((fT_ne _ _ h9_2).trans (fT_ne _ _ h9_0))))).symm
              have hP : va_P (dC, dI) vwCl (WR a k h0 (fT vi 11 0) (fT vj 12 (vj 12)) (fT (fT (fT (fT (fT vF 0 g269_1) 2 f21) 3 f31) 4 (upd (vF 4) (nI cn).toNatClampNeg (vF 5 rn))) 5 (upd (vF 5) (nI rn).toNatClampNeg (vF 4 cn))) (fT (fT vG 8 L80) 1 gs1)) H := by rw [e9]; exact hP
              have hD : va_D A (WR a k h0 (fT vi 11 0) (fT vj 12 (vj 12)) (fT (fT (fT (fT (fT vF 0 g269_1) 2 f21) 3 f31) 4 (upd (vF 4) (nI cn).toNatClampNeg (vF 5 rn))) 5 (upd (vF 5) (nI rn).toNatClampNeg (vF 4 cn))) (fT (fT vG 8 L80) 1 gs1)) := by rw [e9]; exact hD
              clear e9
              have e9 : fT (fT (fT vG 8 L80) 7 (vG 7)) 1 gs1 = fT (fT vG 8 L80) 1 gs1 := by funext q9; by_cases h9_8 : q9 = 8; (subst h9_8; exact ((fT_ne _ _ (Nat.ne_of_beq_eq_false rfl)).trans ((fT_ne _ _ (Nat.ne_of_beq_eq_false rfl)).trans (fT_eq _ _ _))).trans (Eq.trans (by first | with_reducible rfl | with_reducible assumption | (symm; with_reducible assumption) | rfl | assumption | (symm; assumption) | (subst_vars; rfl)) ((fT_ne _ _ (Nat.ne_of_beq_eq_false rfl)).trans (fT_eq _ _ _)).symm)); by_cases h9_7 : q9 = 7; (subst h9_7; exact ((fT_ne _ _ (Nat.ne_of_beq_eq_false rfl)).trans (fT_eq _ _ _)).trans (Eq.trans (by first | with_reducible rfl | with_reducible assumption | (symm; with_reducible assumption) | rfl | assumption | (symm; assumption) | (subst_vars; rfl)) ((fT_ne _ _ (Nat.ne_of_beq_eq_false rfl)).trans (fT_ne _ _ (Nat.ne_of_beq_eq_false rfl))).symm)); by_cases h9_1 : q9 = 1; (subst h9_1; exact (fT_eq _ _ _).trans (Eq.trans (by first | with_reducible rfl | with_reducible assumption | (symm; with_reducible assumption) | rfl | assumption | (symm; assumption) | (subst_vars; rfl)) (fT_eq _ _ _).symm)); exact ((fT_ne _ _ h9_1).trans ((fT_ne _ _ h9_7).trans (fT_ne _ _ h9_8))).trans ((fT_ne _ _ h9_1).trans (fT_ne _ _ h9_8)).symm
              have hP : va_P (dC, dI) vwCl (WR a k h0 (fT vi 11 0) (fT vj 12 (vj 12)) (fT (fT (fT (fT (fT vF 0 g269_1) 2 f21) 3 f31) 4 (upd (vF 4) (nI cn).toNatClampNeg (vF 5 rn))) 5 (upd (vF 5) (nI rn).toNatClampNeg (vF 4 cn))) (fT (fT (fT vG 8 L80) 7 (vG 7)) 1 gs1)) H := by rw [e9]; exact hP
              have hD : va_D A (WR a k h0 (fT vi 11 0) (fT vj 12 (vj 12)) (fT (fT (fT (fT (fT vF 0 g269_1) 2 f21) 3 f31) 4 (upd (vF 4) (nI cn).toNatClampNeg (vF 5 rn))) 5 (upd (vF 5) (nI rn).toNatClampNeg (vF 4 cn))) (fT (fT (fT vG 8 L80) 7 (vG 7)) 1 gs1)) := by rw [e9]; exact hD
              clear e9
              exact W.vret hx hb hr (fun t9_ ht hW => ⟨⟨(g269_1, f21, f31, gs1, 0, (vj 12), (vG 7), L80, (fT (fT m5 (30 + rn * (C + 1) + cn) D) 20 (t rn cn))), rfl, by (try dsimp only); exact ⟨f269_1_0, Or.inl ⟨rfl, ⟨fun i2 hi2 j2 hj2 => by (have gx : (sgI (t rn cn)) = 1 := by omega); (rw [fT_ne _ _ (by omega)]); by_cases e9 : i2 = rn ∧ j2 = cn; (rw [e9.1, e9.2, fT_eq, nv_piv, gx]; omega); ((have n9 : 30 + i2 * (C + 1) + j2 ≠ 30 + rn * (C + 1) + cn := fun h => e9 (pl_inj hj2 (by omega) (by omega))); rw [fT_ne _ _ n9, htab5 i2 hi2 j2 hj2]; by_cases e8 : i2 = rn; (rw [if_pos e8, e8, nv_row _ _ _ _ _ (by omega), gx]; split <;> omega); (rw [if_neg e8])), by (have gx : (sgI (t rn cn)) = 1 := by omega); rw [fT_eq, gx]; omega⟩⟩, fun q hq => by (rw [fT_ne _ _ (by omega), fT_ne _ _ (by omega)]); exact ho5 q hq⟩, by rw [ht]; exact hP, hD⟩, hS.F ht⟩) hS.2.2 dX12_pivot_289
            · have t_221 : ¬ (r30).toInt ≥ 0 := toI_nge c_221 rfl (by decide)
              refine lv_iload hx hb dX12_pivot_224 (lv_at hl 5 rfl) ?_
              refine lv_iload_n hx hb dX12_pivot_226 rfl (lv_at hl 2 rfl) ?_
              refine lv_icmp_eq (tgt := 241) hx hb dX12_pivot_227 (by decide) (fun c_227 => ?_) (fun c_227 => ?_)
              · have t_227 : ((j : Nat) : Int) = ((cn : Nat) : Int) := toI_eq c_227 (nI_toInt (by omega)) (nI_toInt (by omega))
                refine lv_iinc (v := (nI (j + 1))) hx hb dX12_pivot_241 hl (k := 5) rfl (nI_add j 1) (by decide) rfl (fun ls (hl : lv_has ls _ ([(5, .int (nI (j + 1))), (0, .ref h0), (1, .int (nI rn)), (2, .int (nI cn)), (3, .int (nI (30 + rn * (C + 1) + cn))), (4, .int r30)])) => ?_)
                refine lv_goto (tgt := 210) hx hb dX12_pivot_244 (by decide) ?_
                have hl : lv_has _ _ ([(0, .ref h0), (1, .int (nI rn)), (2, .int (nI cn)), (3, .int (nI (30 + rn * (C + 1) + cn))), (4, .int r30), (5, .int (nI (j + 1)))]) := lv_sub hl [1, 2, 3, 4, 5, 0] rfl
                exact ih210_1 (j + 1) g5 m5 _ _ _ (hB5) ((by rw [h21c])) ((by rw [h20c])) (by omega) (by omega) (fun i2 hi2 j2 hj2 => by rw [htab5 i2 hi2 j2 hj2]; exact if_congr Iff.rfl (if_congr (by omega) rfl rfl) rfl) (ho5) (by omega) hP hD hS hl
              · have t_227 : ¬ ((j : Nat) : Int) = ((cn : Nat) : Int) := toI_neq c_227 (nI_toInt (by omega)) (nI_toInt (by omega))
                have hprj := pl_lt (C := C) (show rn < R + Gq by omega) (show j ≤ C by omega)
                refine lv_aload_n hx hb dX12_pivot_230 rfl (lv_at hl 0 rfl) ?_
                refine lv_aload_n hx hb dX12_pivot_231 rfl (lv_at hl 0 rfl) ?_
                refine lv_iload_n hx hb dX12_pivot_232 rfl (lv_at hl 1 rfl) ?_
                refine lv_iload hx hb dX12_pivot_233 (lv_at hl 5 rfl) ?_
                have hFc := allFree hD hS hA
                refine va_calli (va_runV (As := [.int (nI rn), .int (nI j)]) (rest := [.ref h0]) ⟨hx, hb, hml, hown, hts⟩ (r_X12_at l dC dI a k h0 (fT vi 11 0) vj (fT (fT (fT vF 0 g5) 2 f21) 3 f31) (fT (fT vG 8 L80) 1 gs1) rn j C (by first | with_reducible assumption | decide | omega | rfl | assumption) H.size) (cwV 2 hts gwsRX12_pivot_2 rfl rfl rfl hd_yX12_at_RX12 (by decide +kernel)) (fz_pre (va_recv hK hP (ci := 12) (q0 := 0) rfl rfl) hP hK hD) rfl rfl hl.1 rfl (lv_room (Nat.le_of_ble_eq_true rfl)) dX12_pivot_235 (by decide +kernel)) hS (fun q _ h => hFc q h) hFc (fun r235 u t9_ H locs ht hvm hw9 hB9 hz1 hk1 hS => ?_)
                have hP : va_P (dC, dI) vwCl (WR a k h0 (fT vi 11 0) vj (fT (fT (fT vF 0 g5) 2 f21) 3 f31) (fT (fT vG 8 L80) 1 gs1)) H := fz_P ht hB9.1
                have hD : va_D A (WR a k h0 (fT vi 11 0) vj (fT (fT (fT vF 0 g5) 2 f21) 3 f31) (fT (fT vG 8 L80) 1 gs1)) := hB9.2.weaken (fun _ q _ h => hFc q.1 h)
                obtain rfl := hw9
                have hFc := allFree hD hS hA
                refine va_callv (va_runV (As := [.int (nI (30 + rn * (C + 1) + j))]) (rest := []) ⟨hx, hb, hml, hown, hts⟩ (b_X12_turn l dC dI a k h0 (fT vi 11 0) vj (fT (fT (fT vF 0 g5) 2 f21) 3 f31) (fT (fT vG 8 L80) 1 gs1) (30 + rn * (C + 1) + j) m5 hB5 (t rn j) (by rw [((htab5 rn (by omega) j (by omega)).trans ((if_pos rfl).trans (if_neg (by omega))))]) (by first | with_reducible assumption | decide | omega | rfl | assumption) H.size) (cwV 1 hts gwsRX12_pivot_5 rfl rfl rfl hd_yX12_turn_RX12 (by decide +kernel)) (fz_pre (va_recv hK hP (ci := 12) (q0 := 0) rfl rfl) hP hK hD) rfl rfl hl.1 rfl (lv_room (Nat.le_of_ble_eq_true rfl)) dX12_pivot_238 (by decide +kernel)) hS (fun q _ h => hFc q h) hFc (fun u t9_ H locs ht hvm hw9 hB9 hz1 hk1 hS => ?_)
                have hP : va_P (dC, dI) vwCl (WR a k h0 (fT vi 11 0) vj (fT (fT (fT (fT vF 0 g5) 2 f21) 3 f31) 0 (upd g5 (nI (24 * (30 + rn * (C + 1) + j))).toNatClampNeg (-(g5 (24 * (30 + rn * (C + 1) + j)))))) (fT (fT vG 8 L80) 1 gs1)) H := fz_P ht hB9.1
                have hD : va_D A (WR a k h0 (fT vi 11 0) vj (fT (fT (fT (fT vF 0 g5) 2 f21) 3 f31) 0 (upd g5 (nI (24 * (30 + rn * (C + 1) + j))).toNatClampNeg (-(g5 (24 * (30 + rn * (C + 1) + j)))))) (fT (fT vG 8 L80) 1 gs1)) := hB9.2.weaken (fun _ q _ h => hFc q.1 h)
                have e9 : fT (fT (fT vF 0 (upd g5 (nI (24 * (30 + rn * (C + 1) + j))).toNatClampNeg (-(g5 (24 * (30 + rn * (C + 1) + j)))))) 2 f21) 3 f31 = fT (fT (fT (fT vF 0 g5) 2 f21) 3 f31) 0 (upd g5 (nI (24 * (30 + rn * (C + 1) + j))).toNatClampNeg (-(g5 (24 * (30 + rn * (C + 1) + j))))) := ((fT_sw _ _ _ (Nat.ne_of_beq_eq_false rfl)).trans (congrArg (fun g9 => fT g9 3 f31) ((fT_sw _ _ _ (Nat.ne_of_beq_eq_false rfl)).trans (congrArg (fun g9 => fT g9 2 f21) (fT_sm _ _ _ _))))).symm
                rw [← e9] at hP hD
                clear e9
                have hP : va_P (dC, dI) vwCl (WR a k h0 (fT vi 11 0) vj (fT (fT (fT vF 0 (upd g5 (nI (24 * (30 + rn * (C + 1) + j))).toNatClampNeg (-(g5 (24 * (30 + rn * (C + 1) + j)))))) 2 f21) 3 f31) (fT (fT vG 8 L80) 1 gs1)) H := hP
                have hD : va_D A (WR a k h0 (fT vi 11 0) vj (fT (fT (fT vF 0 (upd g5 (nI (24 * (30 + rn * (C + 1) + j))).toNatClampNeg (-(g5 (24 * (30 + rn * (C + 1) + j)))))) 2 f21) 3 f31) (fT (fT vG 8 L80) 1 gs1)) := hD
                have f238_0 := hw9
                try dsimp only at f238_0
                have f238_0 : Bg (upd g5 (nI (24 * (30 + rn * (C + 1) + j))).toNatClampNeg (-(g5 (24 * (30 + rn * (C + 1) + j))))) (fT m5 (30 + rn * (C + 1) + j) (-(t rn j))) := f238_0
                refine lv_iinc (v := (nI (j + 1))) hx hb dX12_pivot_241 hl (k := 5) rfl (nI_add j 1) (by decide) rfl (fun ls (hl : lv_has ls _ ([(5, .int (nI (j + 1))), (0, .ref h0), (1, .int (nI rn)), (2, .int (nI cn)), (3, .int (nI (30 + rn * (C + 1) + cn))), (4, .int r30)])) => ?_)
                refine lv_goto (tgt := 210) hx hb dX12_pivot_244 (by decide) ?_
                have hl : lv_has _ _ ([(0, .ref h0), (1, .int (nI rn)), (2, .int (nI cn)), (3, .int (nI (30 + rn * (C + 1) + cn))), (4, .int r30), (5, .int (nI (j + 1)))]) := lv_sub hl [1, 2, 3, 4, 5, 0] rfl
                exact ih210_1 (j + 1) (upd g5 (nI (24 * (30 + rn * (C + 1) + j))).toNatClampNeg (-(g5 (24 * (30 + rn * (C + 1) + j))))) (fT m5 (30 + rn * (C + 1) + j) (-(t rn j))) _ _ _ (f238_0) ((by rw [fT_ne _ _ (by omega), h21c])) ((by rw [fT_ne _ _ (by omega), h20c])) (by omega) (by omega) (fun i2 hi2 j2 hj2 => by by_cases e9 : i2 = rn ∧ j2 = j; ((have gx : (sgI (t rn cn)) = -1 := by omega); rw [e9.1, e9.2, fT_eq, if_pos rfl, if_pos (by omega), gx]; omega); ((have n9 : 30 + i2 * (C + 1) + j2 ≠ 30 + rn * (C + 1) + j := fun h => e9 (pl_inj hj2 (by omega) (by omega))); rw [fT_ne _ _ n9, htab5 i2 hi2 j2 hj2]; by_cases e8 : i2 = rn; (rw [if_pos e8, if_pos e8]; exact if_congr (by omega) rfl rfl); (rw [if_neg e8, if_neg e8]))) (fun q hq => by (rw [fT_ne _ _ (by omega)]); exact ho5 q hq) (by omega) hP hD hS hl
      · have t_56 : ¬ ((i : Nat) : Int) ≥ (((R + Gq) : Nat) : Int) := toI_nge c_56 (nI_toInt (by omega)) (nI_toInt (by omega))
        refine lv_iload hx hb dX12_pivot_59 (lv_at hl 5 rfl) ?_
        refine lv_iload_n hx hb dX12_pivot_61 rfl (lv_at hl 1 rfl) ?_
        refine lv_icmp_ne (tgt := 68) hx hb dX12_pivot_62 (by decide) (fun c_62 => ?_) (fun c_62 => ?_)
        · have t_62 : ((i : Nat) : Int) ≠ ((rn : Nat) : Int) := toI_ne c_62 (nI_toInt (by omega)) (nI_toInt (by omega))
          refine lv_iconst (v := 0) hx hb dX12_pivot_68 (by decide) ?_
          refine lv_istore hx hb dX12_pivot_69 hl (by decide) rfl (fun ls (hl : lv_has ls _ ([(6, .int 0), (0, .ref h0), (1, .int (nI rn)), (2, .int (nI cn)), (3, .int (nI (30 + rn * (C + 1) + cn))), (4, .int r30), (5, .int (nI i))])) => ?_)
          have hl : lv_has _ _ ([(0, .ref h0), (1, .int (nI rn)), (2, .int (nI cn)), (3, .int (nI (30 + rn * (C + 1) + cn))), (4, .int r30), (5, .int (nI i)), (6, .int (nI 0))]) := lv_sub hl [1, 2, 3, 4, 5, 6, 0] rfl
          refine (fun (loop : ∀ (n9 : Nat) (j : Nat) (g3 : Nat → Int32) (f23 : Nat → Int32) (f33 : Nat → Int32) (gs3 : Nat → Int64) (m3 : Nat → Int) (H : Heap) (locs : List Loc) (ls : Array Slot), (Bg g3 m3) → (m3 21 = (t rn cn)) → (m3 20 = D) → (j ≤ C + 1) → (∀ i2, i2 < (R + Gq) → ∀ j2, j2 ≤ C → m3 (30 + i2 * (C + 1) + j2) = if (i2 < i ∧ i2 ≠ rn) ∨ (i2 = i ∧ j2 < j ∧ j2 ≠ cn) then nvT rn cn (sgI (t rn cn)) t D i2 j2 else t i2 j2) → (∀ q, (q < 20 ∨ (26 < q ∧ q < 30) ∨ 30 + (R + Gq) * (C + 1) ≤ q) → m3 q = mg q) →  (C + 1 < j + n9) → va_P (dC, dI) vwCl (WR a k h0 (fT vi 11 0) vj (fT (fT (fT vF 0 g3) 2 f23) 3 f33) (fT (fT vG 8 L80) 1 gs3)) H → va_D A (WR a k h0 (fT vi 11 0) vj (fT (fT (fT vF 0 g3) 2 f23) 3 f33) (fT (fT vG 8 L80) 1 gs3)) → va_S A s.heap H locs → lv_has ls 7 [(0, .ref h0), (1, .int (nI rn)), (2, .int (nI cn)), (3, .int (nI (30 + rn * (C + 1) + cn))), (4, .int r30), (5, .int (nI i)), (6, .int (nI j))] → W p l e _ s m _ below meth c H locs 0 0 _ (F0 m 71 ls [])) => loop (C + 2) 0 g1 f21 f31 gs1 m1 _ _ _ (hB1) ((by rw [h21])) ((by rw [h20])) (by omega) (fun i2 hi2 j2 hj2 => by rw [htab i2 hi2 j2 hj2]; exact if_congr (by omega) rfl rfl) (ho) (by omega) hP hD hS hl) ?_
          intro n9
          induction n9 with
          | zero => intro j g3 f23 f33 gs3 m3 H locs ls hB3 h21b h20b hj htab2 ho3 hf9; exact False.elim (by omega)
          | succ n9 ih71_2 =>
            intro j g3 f23 f33 gs3 m3 H locs ls hB3 h21b h20b hj htab2 ho3 hf71_2 hP hD hS hl
            refine lv_iload hx hb dX12_pivot_71 (lv_at hl 6 rfl) ?_
            refine lv_aload_n hx hb dX12_pivot_73 rfl (lv_at hl 0 rfl) ?_
            refine va_get (D := (dC, dI)) (ci := 12) (v := .int (vi 5)) (C := RX12) (T := TX12) (N := 163) (fs := fM (vS a (fT vi 11 0) vj)) hx hb hts iwsRX12_pivot_in12 hown hK hP 0 rfl rfl 5 (by decide) (hts (.fieldLink RX12 396 "OptimaWorksModel" "columns" "I") (by decide +kernel)) (fun _ h9 => h9) rfl dX12_pivot_74 ?_
            refine lv_topi (fun y5 hy5 => ?_)
            obtain rfl : (nI C) = y5 := (hy5.trans (hC)).symm
            refine lv_icmp_gt (tgt := 185) hx hb dX12_pivot_77 (by decide) (fun c_77 => ?_) (fun c_77 => ?_)
            · have t_77 : ((j : Nat) : Int) > ((C : Nat) : Int) := toI_gt c_77 (nI_toInt (by omega)) (nI_toInt (by omega))
              refine lv_iload hx hb dX12_pivot_185 (lv_at hl 4 rfl) ?_
              refine lv_if_le (tgt := 201) hx hb dX12_pivot_187 (by decide) (fun c_187 => ?_) (fun c_187 => ?_)
              · have t_187 : (r30).toInt ≤ 0 := toI_le c_187 rfl (by decide)
                refine lv_iinc (v := (nI (i + 1))) hx hb dX12_pivot_201 hl (k := 5) rfl (nI_add i 1) (by decide) rfl (fun ls (hl : lv_has ls _ ([(5, .int (nI (i + 1))), (0, .ref h0), (1, .int (nI rn)), (2, .int (nI cn)), (3, .int (nI (30 + rn * (C + 1) + cn))), (4, .int r30), (6, .int (nI j))])) => ?_)
                refine lv_goto (tgt := 45) hx hb dX12_pivot_204 (by decide) ?_
                have hl : lv_has _ _ ([(0, .ref h0), (1, .int (nI rn)), (2, .int (nI cn)), (3, .int (nI (30 + rn * (C + 1) + cn))), (4, .int r30), (5, .int (nI (i + 1)))]) := lv_sub hl [1, 2, 3, 4, 5, 0] rfl
                exact ih45 (i + 1) g3 f23 f33 gs3 m3 _ _ _ (hB3) ((by rw [h21b])) ((by rw [h20b])) (by omega) (fun i2 hi2 j2 hj2 => by by_cases e9 : i2 = i ∧ j2 = cn; ((have gx : (sgI (t rn cn)) = -1 := by omega); rw [htab2 i2 hi2 j2 hj2, e9.1, e9.2, if_neg (by omega), if_pos (by omega), nv_col _ _ _ _ _ (by omega), gx]; omega); (rw [htab2 i2 hi2 j2 hj2]; exact if_congr (by omega) rfl rfl)) (fun q hq => by skip; exact ho3 q hq) (by omega) hP hD hS hl
              · have t_187 : ¬ (r30).toInt ≤ 0 := toI_nle c_187 rfl (by decide)
                have hpic := pl_lt (C := C) (show i < R + Gq by omega) (show cn ≤ C by omega)
                refine lv_aload_n hx hb dX12_pivot_190 rfl (lv_at hl 0 rfl) ?_
                refine lv_aload_n hx hb dX12_pivot_191 rfl (lv_at hl 0 rfl) ?_
                refine lv_iload hx hb dX12_pivot_192 (lv_at hl 5 rfl) ?_
                refine lv_iload_n hx hb dX12_pivot_194 rfl (lv_at hl 2 rfl) ?_
                have hFc := allFree hD hS hA
                refine va_calli (va_runV (As := [.int (nI i), .int (nI cn)]) (rest := [.ref h0]) ⟨hx, hb, hml, hown, hts⟩ (r_X12_at l dC dI a k h0 (fT vi 11 0) vj (fT (fT (fT vF 0 g3) 2 f23) 3 f33) (fT (fT vG 8 L80) 1 gs3) i cn C (by first | with_reducible assumption | decide | omega | rfl | assumption) H.size) (cwV 2 hts gwsRX12_pivot_2 rfl rfl rfl hd_yX12_at_RX12 (by decide +kernel)) (fz_pre (va_recv hK hP (ci := 12) (q0 := 0) rfl rfl) hP hK hD) rfl rfl hl.1 rfl (lv_room (Nat.le_of_ble_eq_true rfl)) dX12_pivot_195 (by decide +kernel)) hS (fun q _ h => hFc q h) hFc (fun r195 u t9_ H locs ht hvm hw9 hB9 hz1 hk1 hS => ?_)
                have hP : va_P (dC, dI) vwCl (WR a k h0 (fT vi 11 0) vj (fT (fT (fT vF 0 g3) 2 f23) 3 f33) (fT (fT vG 8 L80) 1 gs3)) H := fz_P ht hB9.1
                have hD : va_D A (WR a k h0 (fT vi 11 0) vj (fT (fT (fT vF 0 g3) 2 f23) 3 f33) (fT (fT vG 8 L80) 1 gs3)) := hB9.2.weaken (fun _ q _ h => hFc q.1 h)
                obtain rfl := hw9
                have hFc := allFree hD hS hA
                refine va_callv (va_runV (As := [.int (nI (30 + i * (C + 1) + cn))]) (rest := []) ⟨hx, hb, hml, hown, hts⟩ (b_X12_turn l dC dI a k h0 (fT vi 11 0) vj (fT (fT (fT vF 0 g3) 2 f23) 3 f33) (fT (fT vG 8 L80) 1 gs3) (30 + i * (C + 1) + cn) m3 hB3 (t i cn) (by rw [((htab2 i (by omega) cn (by omega)).trans (if_neg (by omega)))]) (by first | with_reducible assumption | decide | omega | rfl | assumption) H.size) (cwV 1 hts gwsRX12_pivot_5 rfl rfl rfl hd_yX12_turn_RX12 (by decide +kernel)) (fz_pre (va_recv hK hP (ci := 12) (q0 := 0) rfl rfl) hP hK hD) rfl rfl hl.1 rfl (lv_room (Nat.le_of_ble_eq_true rfl)) dX12_pivot_198 (by decide +kernel)) hS (fun q _ h => hFc q h) hFc (fun u t9_ H locs ht hvm hw9 hB9 hz1 hk1 hS => ?_)
                have hP : va_P (dC, dI) vwCl (WR a k h0 (fT vi 11 0) vj (fT (fT (fT (fT vF 0 g3) 2 f23) 3 f33) 0 (upd g3 (nI (24 * (30 + i * (C + 1) + cn))).toNatClampNeg (-(g3 (24 * (30 + i * (C + 1) + cn)))))) (fT (fT vG 8 L80) 1 gs3)) H := fz_P ht hB9.1
                have hD : va_D A (WR a k h0 (fT vi 11 0) vj (fT (fT (fT (fT vF 0 g3) 2 f23) 3 f33) 0 (upd g3 (nI (24 * (30 + i * (C + 1) + cn))).toNatClampNeg (-(g3 (24 * (30 + i * (C + 1) + cn)))))) (fT (fT vG 8 L80) 1 gs3)) := hB9.2.weaken (fun _ q _ h => hFc q.1 h)
                have e9 : fT (fT (fT vF 0 (upd g3 (nI (24 * (30 + i * (C + 1) + cn))).toNatClampNeg (-(g3 (24 * (30 + i * (C + 1) + cn)))))) 2 f23) 3 f33 = fT (fT (fT (fT vF 0 g3) 2 f23) 3 f33) 0 (upd g3 (nI (24 * (30 + i * (C + 1) + cn))).toNatClampNeg (-(g3 (24 * (30 + i * (C + 1) + cn))))) := ((fT_sw _ _ _ (Nat.ne_of_beq_eq_false rfl)).trans (congrArg (fun g9 => fT g9 3 f33) ((fT_sw _ _ _ (Nat.ne_of_beq_eq_false rfl)).trans (congrArg (fun g9 => fT g9 2 f23) (fT_sm _ _ _ _))))).symm
                rw [← e9] at hP hD
                clear e9
                have hP : va_P (dC, dI) vwCl (WR a k h0 (fT vi 11 0) vj (fT (fT (fT vF 0 (upd g3 (nI (24 * (30 + i * (C + 1) + cn))).toNatClampNeg (-(g3 (24 * (30 + i * (C + 1) + cn)))))) 2 f23) 3 f33) (fT (fT vG 8 L80) 1 gs3)) H := hP
                have hD : va_D A (WR a k h0 (fT vi 11 0) vj (fT (fT (fT vF 0 (upd g3 (nI (24 * (30 + i * (C + 1) + cn))).toNatClampNeg (-(g3 (24 * (30 + i * (C + 1) + cn)))))) 2 f23) 3 f33) (fT (fT vG 8 L80) 1 gs3)) := hD
                have f198_0 := hw9
                try dsimp only at f198_0
                have f198_0 : Bg (upd g3 (nI (24 * (30 + i * (C + 1) + cn))).toNatClampNeg (-(g3 (24 * (30 + i * (C + 1) + cn))))) (fT m3 (30 + i * (C + 1) + cn) (-(t i cn))) := f198_0
                refine lv_iinc (v := (nI (i + 1))) hx hb dX12_pivot_201 hl (k := 5) rfl (nI_add i 1) (by decide) rfl (fun ls (hl : lv_has ls _ ([(5, .int (nI (i + 1))), (0, .ref h0), (1, .int (nI rn)), (2, .int (nI cn)), (3, .int (nI (30 + rn * (C + 1) + cn))), (4, .int r30), (6, .int (nI j))])) => ?_)
                refine lv_goto (tgt := 45) hx hb dX12_pivot_204 (by decide) ?_
                have hl : lv_has _ _ ([(0, .ref h0), (1, .int (nI rn)), (2, .int (nI cn)), (3, .int (nI (30 + rn * (C + 1) + cn))), (4, .int r30), (5, .int (nI (i + 1)))]) := lv_sub hl [1, 2, 3, 4, 5, 0] rfl
                exact ih45 (i + 1) (upd g3 (nI (24 * (30 + i * (C + 1) + cn))).toNatClampNeg (-(g3 (24 * (30 + i * (C + 1) + cn))))) f23 f33 gs3 (fT m3 (30 + i * (C + 1) + cn) (-(t i cn))) _ _ _ (f198_0) ((by rw [fT_ne _ _ (by omega), h21b])) ((by rw [fT_ne _ _ (by omega), h20b])) (by omega) (fun i2 hi2 j2 hj2 => by by_cases e9 : i2 = i ∧ j2 = cn; ((have gx : (sgI (t rn cn)) = 1 := by omega); rw [e9.1, e9.2, fT_eq, if_pos (by omega), nv_col _ _ _ _ _ (by omega), gx]; omega); ((have n9 : 30 + i2 * (C + 1) + j2 ≠ 30 + i * (C + 1) + cn := fun h => e9 (pl_inj hj2 (by omega) (by omega))); rw [fT_ne _ _ n9, htab2 i2 hi2 j2 hj2]; exact if_congr (by omega) rfl rfl)) (fun q hq => by (rw [fT_ne _ _ (by omega)]); exact ho3 q hq) (by omega) hP hD hS hl
            · have t_77 : ¬ ((j : Nat) : Int) > ((C : Nat) : Int) := toI_ngt c_77 (nI_toInt (by omega)) (nI_toInt (by omega))
              refine lv_iload hx hb dX12_pivot_80 (lv_at hl 6 rfl) ?_
              refine lv_iload_n hx hb dX12_pivot_82 rfl (lv_at hl 2 rfl) ?_
              refine lv_icmp_ne (tgt := 89) hx hb dX12_pivot_83 (by decide) (fun c_83 => ?_) (fun c_83 => ?_)
              · have t_83 : ((j : Nat) : Int) ≠ ((cn : Nat) : Int) := toI_ne c_83 (nI_toInt (by omega)) (nI_toInt (by omega))
                have hpij := pl_lt (C := C) (show i < R + Gq by omega) (show j ≤ C by omega)
                have hpic := pl_lt (C := C) (show i < R + Gq by omega) (show cn ≤ C by omega)
                have hprj := pl_lt (C := C) (show rn < R + Gq by omega) (show j ≤ C by omega)
                refine lv_aload_n hx hb dX12_pivot_89 rfl (lv_at hl 0 rfl) ?_
                refine lv_bipush (v := 22) hx hb dX12_pivot_90 (by decide) ?_
                refine lv_aload_n hx hb dX12_pivot_92 rfl (lv_at hl 0 rfl) ?_
                refine lv_iload hx hb dX12_pivot_93 (lv_at hl 5 rfl) ?_
                refine lv_iload hx hb dX12_pivot_95 (lv_at hl 6 rfl) ?_
                have hFc := allFree hD hS hA
                refine va_calli (va_runV (As := [.int (nI i), .int (nI j)]) (rest := [.int 22, .ref h0]) ⟨hx, hb, hml, hown, hts⟩ (r_X12_at l dC dI a k h0 (fT vi 11 0) vj (fT (fT (fT vF 0 g3) 2 f23) 3 f33) (fT (fT vG 8 L80) 1 gs3) i j C (by first | with_reducible assumption | decide | omega | rfl | assumption) H.size) (cwV 2 hts gwsRX12_pivot_2 rfl rfl rfl hd_yX12_at_RX12 (by decide +kernel)) (fz_pre (va_recv hK hP (ci := 12) (q0 := 0) rfl rfl) hP hK hD) rfl rfl hl.1 rfl (lv_room (Nat.le_of_ble_eq_true rfl)) dX12_pivot_97 (by decide +kernel)) hS (fun q _ h => hFc q h) hFc (fun r97 u t9_ H locs ht hvm hw9 hB9 hz1 hk1 hS => ?_)
                have hP : va_P (dC, dI) vwCl (WR a k h0 (fT vi 11 0) vj (fT (fT (fT vF 0 g3) 2 f23) 3 f33) (fT (fT vG 8 L80) 1 gs3)) H := fz_P ht hB9.1
                have hD : va_D A (WR a k h0 (fT vi 11 0) vj (fT (fT (fT vF 0 g3) 2 f23) 3 f33) (fT (fT vG 8 L80) 1 gs3)) := hB9.2.weaken (fun _ q _ h => hFc q.1 h)
                obtain rfl := hw9
                refine lv_bipush (v := 21) hx hb dX12_pivot_100 (by decide) ?_
                have hFc := allFree hD hS hA
                refine va_callv (va_runV (As := [.int 22, .int (nI (30 + i * (C + 1) + j)), .int 21]) (rest := []) ⟨hx, hb, hml, hown, hts⟩ (b_X12_times l dC dI a k h0 (fT vi 11 0) vj (fT (fT (fT vF 0 g3) 2 f23) 3 f33) (fT (fT vG 8 L80) 1 gs3) 22 (30 + i * (C + 1) + j) 21 m3 hB3 (t i j) (t rn cn) (by rw [((htab2 i (by omega) j (by omega)).trans (if_neg (by omega)))]) (by rw [h21b]) (by first | with_reducible assumption | decide | omega | rfl | assumption) (by first | with_reducible assumption | decide | omega | rfl | assumption) (by first | with_reducible assumption | decide | omega | rfl | assumption) (mul_bd (hbd i (by omega) j (by omega)) (hbd rn (by omega) cn (by omega)) (by decide)) H.size) (cwV 3 hts gwsRX12_pivot_7 rfl rfl rfl hd_yX12_times_RX12 (by decide +kernel)) (fz_pre (va_recv hK hP (ci := 12) (q0 := 0) rfl rfl) hP hK hD) rfl rfl hl.1 rfl (lv_room (Nat.le_of_ble_eq_true rfl)) dX12_pivot_102 (by decide +kernel)) hS (fun q _ h => hFc q h) hFc (fun u t9_ H locs ht hvm hw9 hB9 hz1 hk1 hS => ?_)
                revert u
                refine fz_p2 ?_
                intro g102 gs102 hw9 hB9
                try dsimp only at hw9 hB9
                have hP : va_P (dC, dI) vwCl (WR a k h0 (fT vi 11 0) vj (fT (fT (fT (fT vF 0 g3) 2 f23) 3 f33) 0 g102) (fT (fT (fT vG 8 L80) 1 gs3) 1 gs102)) H := fz_P ht hB9.1
                have hD : va_D A (WR a k h0 (fT vi 11 0) vj (fT (fT (fT (fT vF 0 g3) 2 f23) 3 f33) 0 g102) (fT (fT (fT vG 8 L80) 1 gs3) 1 gs102)) := hB9.2.weaken (fun _ q _ h => hFc q.1 h)
                have e9 : fT (fT (fT vF 0 g102) 2 f23) 3 f33 = fT (fT (fT (fT vF 0 g3) 2 f23) 3 f33) 0 g102 := ((fT_sw _ _ _ (Nat.ne_of_beq_eq_false rfl)).trans (congrArg (fun g9 => fT g9 3 f33) ((fT_sw _ _ _ (Nat.ne_of_beq_eq_false rfl)).trans (congrArg (fun g9 => fT g9 2 f23) (fT_sm _ _ _ _))))).symm
                rw [← e9] at hP hD
                clear e9
                have e9 : fT (fT vG 8 L80) 1 gs102 = fT (fT (fT vG 8 L80) 1 gs3) 1 gs102 := (fT_sm _ _ _ _).symm
                rw [← e9] at hP hD
                clear e9
                have hP : va_P (dC, dI) vwCl (WR a k h0 (fT vi 11 0) vj (fT (fT (fT vF 0 g102) 2 f23) 3 f33) (fT (fT vG 8 L80) 1 gs102)) H := hP
                have hD : va_D A (WR a k h0 (fT vi 11 0) vj (fT (fT (fT vF 0 g102) 2 f23) 3 f33) (fT (fT vG 8 L80) 1 gs102)) := hD
                have f102_0 := hw9
                try dsimp only at f102_0
                refine lv_aload_n hx hb dX12_pivot_105 rfl (lv_at hl 0 rfl) ?_
                refine lv_bipush (v := 23) hx hb dX12_pivot_106 (by decide) ?_
                refine lv_aload_n hx hb dX12_pivot_108 rfl (lv_at hl 0 rfl) ?_
                refine lv_iload hx hb dX12_pivot_109 (lv_at hl 5 rfl) ?_
                refine lv_iload_n hx hb dX12_pivot_111 rfl (lv_at hl 2 rfl) ?_
                have hFc := allFree hD hS hA
                refine va_calli (va_runV (As := [.int (nI i), .int (nI cn)]) (rest := [.int 23, .ref h0]) ⟨hx, hb, hml, hown, hts⟩ (r_X12_at l dC dI a k h0 (fT vi 11 0) vj (fT (fT (fT vF 0 g102) 2 f23) 3 f33) (fT (fT vG 8 L80) 1 gs102) i cn C (by first | with_reducible assumption | decide | omega | rfl | assumption) H.size) (cwV 2 hts gwsRX12_pivot_2 rfl rfl rfl hd_yX12_at_RX12 (by decide +kernel)) (fz_pre (va_recv hK hP (ci := 12) (q0 := 0) rfl rfl) hP hK hD) rfl rfl hl.1 rfl (lv_room (Nat.le_of_ble_eq_true rfl)) dX12_pivot_112 (by decide +kernel)) hS (fun q _ h => hFc q h) hFc (fun r112 u t9_ H locs ht hvm hw9 hB9 hz1 hk1 hS => ?_)
                have hP : va_P (dC, dI) vwCl (WR a k h0 (fT vi 11 0) vj (fT (fT (fT vF 0 g102) 2 f23) 3 f33) (fT (fT vG 8 L80) 1 gs102)) H := fz_P ht hB9.1
                have hD : va_D A (WR a k h0 (fT vi 11 0) vj (fT (fT (fT vF 0 g102) 2 f23) 3 f33) (fT (fT vG 8 L80) 1 gs102)) := hB9.2.weaken (fun _ q _ h => hFc q.1 h)
                obtain rfl := hw9
                refine lv_aload_n hx hb dX12_pivot_115 rfl (lv_at hl 0 rfl) ?_
                refine lv_iload_n hx hb dX12_pivot_116 rfl (lv_at hl 1 rfl) ?_
                refine lv_iload hx hb dX12_pivot_117 (lv_at hl 6 rfl) ?_
                have hFc := allFree hD hS hA
                refine va_calli (va_runV (As := [.int (nI rn), .int (nI j)]) (rest := [.int (nI (30 + i * (C + 1) + cn)), .int 23, .ref h0]) ⟨hx, hb, hml, hown, hts⟩ (r_X12_at l dC dI a k h0 (fT vi 11 0) vj (fT (fT (fT vF 0 g102) 2 f23) 3 f33) (fT (fT vG 8 L80) 1 gs102) rn j C (by first | with_reducible assumption | decide | omega | rfl | assumption) H.size) (cwV 2 hts gwsRX12_pivot_2 rfl rfl rfl hd_yX12_at_RX12 (by decide +kernel)) (fz_pre (va_recv hK hP (ci := 12) (q0 := 0) rfl rfl) hP hK hD) rfl rfl hl.1 rfl (lv_room (Nat.le_of_ble_eq_true rfl)) dX12_pivot_119 (by decide +kernel)) hS (fun q _ h => hFc q h) hFc (fun r119 u t9_ H locs ht hvm hw9 hB9 hz1 hk1 hS => ?_)
                have hP : va_P (dC, dI) vwCl (WR a k h0 (fT vi 11 0) vj (fT (fT (fT vF 0 g102) 2 f23) 3 f33) (fT (fT vG 8 L80) 1 gs102)) H := fz_P ht hB9.1
                have hD : va_D A (WR a k h0 (fT vi 11 0) vj (fT (fT (fT vF 0 g102) 2 f23) 3 f33) (fT (fT vG 8 L80) 1 gs102)) := hB9.2.weaken (fun _ q _ h => hFc q.1 h)
                obtain rfl := hw9
                have hFc := allFree hD hS hA
                refine va_callv (va_runV (As := [.int 23, .int (nI (30 + i * (C + 1) + cn)), .int (nI (30 + rn * (C + 1) + j))]) (rest := []) ⟨hx, hb, hml, hown, hts⟩ (b_X12_times l dC dI a k h0 (fT vi 11 0) vj (fT (fT (fT vF 0 g102) 2 f23) 3 f33) (fT (fT vG 8 L80) 1 gs102) 23 (30 + i * (C + 1) + cn) (30 + rn * (C + 1) + j) (fT m3 22 ((t i j) * (t rn cn))) f102_0 (t i cn) (t rn j) (by rw [fT_ne _ _ (by omega), ((htab2 i (by omega) cn (by omega)).trans (if_neg (by omega)))]) (by rw [fT_ne _ _ (by omega), ((htab2 rn (by omega) j (by omega)).trans (if_neg (by omega)))]) (by first | with_reducible assumption | decide | omega | rfl | assumption) (by first | with_reducible assumption | decide | omega | rfl | assumption) (by first | with_reducible assumption | decide | omega | rfl | assumption) (mul_bd (hbd i (by omega) cn (by omega)) (hbd rn (by omega) j (by omega)) (by decide)) H.size) (cwV 3 hts gwsRX12_pivot_7 rfl rfl rfl hd_yX12_times_RX12 (by decide +kernel)) (fz_pre (va_recv hK hP (ci := 12) (q0 := 0) rfl rfl) hP hK hD) rfl rfl hl.1 rfl (lv_room (Nat.le_of_ble_eq_true rfl)) dX12_pivot_122 (by decide +kernel)) hS (fun q _ h => hFc q h) hFc (fun u t9_ H locs ht hvm hw9 hB9 hz1 hk1 hS => ?_)
                revert u
                refine fz_p2 ?_
                intro g122 gs122 hw9 hB9
                try dsimp only at hw9 hB9
                have hP : va_P (dC, dI) vwCl (WR a k h0 (fT vi 11 0) vj (fT (fT (fT (fT vF 0 g102) 2 f23) 3 f33) 0 g122) (fT (fT (fT vG 8 L80) 1 gs102) 1 gs122)) H := fz_P ht hB9.1
                have hD : va_D A (WR a k h0 (fT vi 11 0) vj (fT (fT (fT (fT vF 0 g102) 2 f23) 3 f33) 0 g122) (fT (fT (fT vG 8 L80) 1 gs102) 1 gs122)) := hB9.2.weaken (fun _ q _ h => hFc q.1 h)
                have e9 : fT (fT (fT vF 0 g122) 2 f23) 3 f33 = fT (fT (fT (fT vF 0 g102) 2 f23) 3 f33) 0 g122 := ((fT_sw _ _ _ (Nat.ne_of_beq_eq_false rfl)).trans (congrArg (fun g9 => fT g9 3 f33) ((fT_sw _ _ _ (Nat.ne_of_beq_eq_false rfl)).trans (congrArg (fun g9 => fT g9 2 f23) (fT_sm _ _ _ _))))).symm
                rw [← e9] at hP hD
                clear e9
                have e9 : fT (fT vG 8 L80) 1 gs122 = fT (fT (fT vG 8 L80) 1 gs102) 1 gs122 := (fT_sm _ _ _ _).symm
                rw [← e9] at hP hD
                clear e9
                have hP : va_P (dC, dI) vwCl (WR a k h0 (fT vi 11 0) vj (fT (fT (fT vF 0 g122) 2 f23) 3 f33) (fT (fT vG 8 L80) 1 gs122)) H := hP
                have hD : va_D A (WR a k h0 (fT vi 11 0) vj (fT (fT (fT vF 0 g122) 2 f23) 3 f33) (fT (fT vG 8 L80) 1 gs122)) := hD
                have f122_0 := hw9
                try dsimp only at f122_0
                refine lv_aload_n hx hb dX12_pivot_125 rfl (lv_at hl 0 rfl) ?_
                refine lv_bipush (v := 24) hx hb dX12_pivot_126 (by decide) ?_
                refine lv_bipush (v := 22) hx hb dX12_pivot_128 (by decide) ?_
                refine lv_bipush (v := 23) hx hb dX12_pivot_130 (by decide) ?_
                refine lv_iconst (v := (-1)) hx hb dX12_pivot_132 (by decide) ?_
                have hFc := allFree hD hS hA
                refine va_callv (va_runV (As := [.int 24, .int 22, .int 23, .int (-1)]) (rest := []) ⟨hx, hb, hml, hown, hts⟩ (b_X12_add l dC dI a k h0 (fT vi 11 0) vj (fT (fT (fT vF 0 g122) 2 f23) 3 f33) (fT (fT vG 8 L80) 1 gs122) 24 (-1) (-1) 22 23 (fT (fT m3 22 ((t i j) * (t rn cn))) 23 ((t i cn) * (t rn j))) f122_0 ((t i j) * (t rn cn)) ((t i cn) * (t rn j)) (by rw [fT_ne _ _ (by omega), fT_eq]) (by rw [fT_eq]) (by first | with_reducible assumption | decide | omega | rfl | assumption) (by first | with_reducible assumption | decide | omega | rfl | assumption) (by first | with_reducible assumption | decide | omega | rfl | assumption) (Or.inr ⟨rfl, rfl⟩) (add_bd (mulabs_bd (hbd i (by omega) j (by omega)) (hbd rn (by omega) cn (by omega)) (by decide)) (mulabs_bd (hbd i (by omega) cn (by omega)) (hbd rn (by omega) j (by omega)) (by decide)) (Or.inr rfl)) H.size) (cwV 4 hts gwsRX12_pivot_8 rfl rfl rfl hd_yX12_add_RX12 (by decide +kernel)) (fz_pre (va_recv hK hP (ci := 12) (q0 := 0) rfl rfl) hP hK hD) rfl rfl hl.1 rfl (lv_room (Nat.le_of_ble_eq_true rfl)) dX12_pivot_133 (by decide +kernel)) hS (fun q _ h => hFc q h) hFc (fun u t9_ H locs ht hvm hw9 hB9 hz1 hk1 hS => ?_)
                revert u
                refine fz_p2 ?_
                intro g133 gs133 hw9 hB9
                try dsimp only at hw9 hB9
                have hP : va_P (dC, dI) vwCl (WR a k h0 (fT vi 11 0) vj (fT (fT (fT (fT vF 0 g122) 2 f23) 3 f33) 0 g133) (fT (fT (fT vG 8 L80) 1 gs122) 1 gs133)) H := fz_P ht hB9.1
                have hD : va_D A (WR a k h0 (fT vi 11 0) vj (fT (fT (fT (fT vF 0 g122) 2 f23) 3 f33) 0 g133) (fT (fT (fT vG 8 L80) 1 gs122) 1 gs133)) := hB9.2.weaken (fun _ q _ h => hFc q.1 h)
                have e9 : fT (fT (fT vF 0 g133) 2 f23) 3 f33 = fT (fT (fT (fT vF 0 g122) 2 f23) 3 f33) 0 g133 := ((fT_sw _ _ _ (Nat.ne_of_beq_eq_false rfl)).trans (congrArg (fun g9 => fT g9 3 f33) ((fT_sw _ _ _ (Nat.ne_of_beq_eq_false rfl)).trans (congrArg (fun g9 => fT g9 2 f23) (fT_sm _ _ _ _))))).symm
                rw [← e9] at hP hD
                clear e9
                have e9 : fT (fT vG 8 L80) 1 gs133 = fT (fT (fT vG 8 L80) 1 gs122) 1 gs133 := (fT_sm _ _ _ _).symm
                rw [← e9] at hP hD
                clear e9
                have hP : va_P (dC, dI) vwCl (WR a k h0 (fT vi 11 0) vj (fT (fT (fT vF 0 g133) 2 f23) 3 f33) (fT (fT vG 8 L80) 1 gs133)) H := hP
                have hD : va_D A (WR a k h0 (fT vi 11 0) vj (fT (fT (fT vF 0 g133) 2 f23) 3 f33) (fT (fT vG 8 L80) 1 gs133)) := hD
                have f133_0 := hw9
                try dsimp only at f133_0
                refine lv_aload_n hx hb dX12_pivot_136 rfl (lv_at hl 0 rfl) ?_
                refine lv_bipush (v := 25) hx hb dX12_pivot_137 (by decide) ?_
                refine lv_bipush (v := 26) hx hb dX12_pivot_139 (by decide) ?_
                refine lv_bipush (v := 24) hx hb dX12_pivot_141 (by decide) ?_
                refine lv_bipush (v := 20) hx hb dX12_pivot_143 (by decide) ?_
                have hFc := allFree hD hS hA
                refine va_callv (va_runV (As := [.int 25, .int 26, .int 24, .int 20]) (rest := []) ⟨hx, hb, hml, hown, hts⟩ (b_X12_divide l dC dI a k h0 (fT vi 11 0) vj (fT (fT (fT vF 0 g133) 2 f23) 3 f33) (fT (fT vG 8 L80) 1 gs133) 25 26 24 20 (fT (fT (fT m3 22 ((t i j) * (t rn cn))) 23 ((t i cn) * (t rn j))) 24 (((t i j) * (t rn cn)) + (-1) * ((t i cn) * (t rn j)))) f133_0 (((t i j) * (t rn cn)) + (-1) * ((t i cn) * (t rn j))) D (by rw [fT_eq]) (by rw [fT_ne _ _ (by omega), fT_ne _ _ (by omega), fT_ne _ _ (by omega), h20b]) (by first | with_reducible assumption | decide | omega | rfl | assumption) (by first | with_reducible assumption | decide | omega | rfl | assumption) (by first | with_reducible assumption | decide | omega | rfl | assumption) (by first | with_reducible assumption | decide | omega | rfl | assumption) (by first | with_reducible assumption | decide | omega | rfl | assumption) (by first | with_reducible assumption | decide | omega | rfl | assumption) (by first | with_reducible assumption | decide | omega | rfl | assumption) H.size) (cwV 4 hts gwsRX12_pivot_9 rfl rfl rfl hd_yX12_divide_RX12 (by decide +kernel)) (fz_pre (va_recv hK hP (ci := 12) (q0 := 0) rfl rfl) hP hK hD) rfl rfl hl.1 rfl (lv_room (Nat.le_of_ble_eq_true rfl)) dX12_pivot_145 (by decide +kernel)) hS (fun q _ h => hFc q h) hFc (fun u t9_ H locs ht hvm hw9 hB9 hz1 hk1 hS => ?_)
                revert u
                refine fz_p4 ?_
                intro g145 f2w145 f3w145 gs145 hw9 hB9
                try dsimp only at hw9 hB9
                have hP : va_P (dC, dI) vwCl (WR a k h0 (fT vi 11 0) vj (fT (fT (fT (fT (fT (fT vF 0 g133) 2 f23) 3 f33) 2 f2w145) 3 f3w145) 0 g145) (fT (fT (fT vG 8 L80) 1 gs133) 1 gs145)) H := fz_P ht hB9.1
                have hD : va_D A (WR a k h0 (fT vi 11 0) vj (fT (fT (fT (fT (fT (fT vF 0 g133) 2 f23) 3 f33) 2 f2w145) 3 f3w145) 0 g145) (fT (fT (fT vG 8 L80) 1 gs133) 1 gs145)) := hB9.2.weaken (fun _ q _ h => hFc q.1 h)
                have e9 : fT (fT (fT vF 0 g145) 2 f2w145) 3 f3w145 = fT (fT (fT (fT (fT (fT vF 0 g133) 2 f23) 3 f33) 2 f2w145) 3 f3w145) 0 g145 := ((congrArg (fun g9 => fT (fT g9 3 f3w145) 0 g145) ((fT_sw _ _ _ (Nat.ne_of_beq_eq_false rfl)).trans (congrArg (fun g9 => fT g9 3 f33) (fT_sm _ _ _ _)))).trans ((congrArg (fun g9 => fT g9 0 g145) (fT_sm _ _ _ _)).trans ((fT_sw _ _ _ (Nat.ne_of_beq_eq_false rfl)).trans (congrArg (fun g9 => fT g9 3 f3w145) ((fT_sw _ _ _ (Nat.ne_of_beq_eq_false rfl)).trans (congrArg (fun g9 => fT g9 2 f2w145) (fT_sm _ _ _ _))))))).symm
                rw [← e9] at hP hD
                clear e9
                have e9 : fT (fT vG 8 L80) 1 gs145 = fT (fT (fT vG 8 L80) 1 gs133) 1 gs145 := (fT_sm _ _ _ _).symm
                rw [← e9] at hP hD
                clear e9
                have hP : va_P (dC, dI) vwCl (WR a k h0 (fT vi 11 0) vj (fT (fT (fT vF 0 g145) 2 f2w145) 3 f3w145) (fT (fT vG 8 L80) 1 gs145)) H := hP
                have hD : va_D A (WR a k h0 (fT vi 11 0) vj (fT (fT (fT vF 0 g145) 2 f2w145) 3 f3w145) (fT (fT vG 8 L80) 1 gs145)) := hD
                have f145_0 := hw9
                try dsimp only at f145_0
                refine lv_aload_n hx hb dX12_pivot_148 rfl (lv_at hl 0 rfl) ?_
                refine lv_aload_n hx hb dX12_pivot_149 rfl (lv_at hl 0 rfl) ?_
                refine lv_iload hx hb dX12_pivot_150 (lv_at hl 5 rfl) ?_
                refine lv_iload hx hb dX12_pivot_152 (lv_at hl 6 rfl) ?_
                have hFc := allFree hD hS hA
                refine va_calli (va_runV (As := [.int (nI i), .int (nI j)]) (rest := [.ref h0]) ⟨hx, hb, hml, hown, hts⟩ (r_X12_at l dC dI a k h0 (fT vi 11 0) vj (fT (fT (fT vF 0 g145) 2 f2w145) 3 f3w145) (fT (fT vG 8 L80) 1 gs145) i j C (by first | with_reducible assumption | decide | omega | rfl | assumption) H.size) (cwV 2 hts gwsRX12_pivot_2 rfl rfl rfl hd_yX12_at_RX12 (by decide +kernel)) (fz_pre (va_recv hK hP (ci := 12) (q0 := 0) rfl rfl) hP hK hD) rfl rfl hl.1 rfl (lv_room (Nat.le_of_ble_eq_true rfl)) dX12_pivot_154 (by decide +kernel)) hS (fun q _ h => hFc q h) hFc (fun r154 u t9_ H locs ht hvm hw9 hB9 hz1 hk1 hS => ?_)
                have hP : va_P (dC, dI) vwCl (WR a k h0 (fT vi 11 0) vj (fT (fT (fT vF 0 g145) 2 f2w145) 3 f3w145) (fT (fT vG 8 L80) 1 gs145)) H := fz_P ht hB9.1
                have hD : va_D A (WR a k h0 (fT vi 11 0) vj (fT (fT (fT vF 0 g145) 2 f2w145) 3 f3w145) (fT (fT vG 8 L80) 1 gs145)) := hB9.2.weaken (fun _ q _ h => hFc q.1 h)
                obtain rfl := hw9
                refine lv_bipush (v := 25) hx hb dX12_pivot_157 (by decide) ?_
                have hFc := allFree hD hS hA
                refine va_callv (va_runV (As := [.int (nI (30 + i * (C + 1) + j)), .int 25]) (rest := []) ⟨hx, hb, hml, hown, hts⟩ (b_X12_copy l dC dI a k h0 (fT vi 11 0) vj (fT (fT (fT vF 0 g145) 2 f2w145) 3 f3w145) (fT (fT vG 8 L80) 1 gs145) (30 + i * (C + 1) + j) 25 (fT (fT (fT (fT (fT m3 22 ((t i j) * (t rn cn))) 23 ((t i cn) * (t rn j))) 24 (((t i j) * (t rn cn)) + (-1) * ((t i cn) * (t rn j)))) 25 (((((t i j) * (t rn cn)) + (-1) * ((t i cn) * (t rn j)))).tdiv D)) 26 (((((t i j) * (t rn cn)) + (-1) * ((t i cn) * (t rn j)))).tmod D)) f145_0 (((((t i j) * (t rn cn)) + (-1) * ((t i cn) * (t rn j)))).tdiv D) (by rw [fT_ne _ _ (by omega), fT_eq]) (by first | with_reducible assumption | decide | omega | rfl | assumption) (by first | with_reducible assumption | decide | omega | rfl | assumption) (by first | with_reducible assumption | decide | omega | rfl | assumption) H.size) (cwV 2 hts gwsRX12_pivot_4 rfl rfl rfl hd_yX12_copy_RX12 (by decide +kernel)) (fz_pre (va_recv hK hP (ci := 12) (q0 := 0) rfl rfl) hP hK hD) rfl rfl hl.1 rfl (lv_room (Nat.le_of_ble_eq_true rfl)) dX12_pivot_159 (by decide +kernel)) hS (fun q _ h => hFc q h) hFc (fun g159 t9_ H locs ht hvm hw9 hB9 hz1 hk1 hS => ?_)
                have hP : va_P (dC, dI) vwCl (WR a k h0 (fT vi 11 0) vj (fT (fT (fT (fT vF 0 g145) 2 f2w145) 3 f3w145) 0 g159) (fT (fT vG 8 L80) 1 gs145)) H := fz_P ht hB9.1
                have hD : va_D A (WR a k h0 (fT vi 11 0) vj (fT (fT (fT (fT vF 0 g145) 2 f2w145) 3 f3w145) 0 g159) (fT (fT vG 8 L80) 1 gs145)) := hB9.2.weaken (fun _ q _ h => hFc q.1 h)
                have e9 : fT (fT (fT vF 0 g159) 2 f2w145) 3 f3w145 = fT (fT (fT (fT vF 0 g145) 2 f2w145) 3 f3w145) 0 g159 := ((fT_sw _ _ _ (Nat.ne_of_beq_eq_false rfl)).trans (congrArg (fun g9 => fT g9 3 f3w145) ((fT_sw _ _ _ (Nat.ne_of_beq_eq_false rfl)).trans (congrArg (fun g9 => fT g9 2 f2w145) (fT_sm _ _ _ _))))).symm
                rw [← e9] at hP hD
                clear e9
                have hP : va_P (dC, dI) vwCl (WR a k h0 (fT vi 11 0) vj (fT (fT (fT vF 0 g159) 2 f2w145) 3 f3w145) (fT (fT vG 8 L80) 1 gs145)) H := hP
                have hD : va_D A (WR a k h0 (fT vi 11 0) vj (fT (fT (fT vF 0 g159) 2 f2w145) 3 f3w145) (fT (fT vG 8 L80) 1 gs145)) := hD
                have f159_0 := hw9
                try dsimp only at f159_0
                refine lv_iload hx hb dX12_pivot_162 (lv_at hl 4 rfl) ?_
                refine lv_if_ge (tgt := 179) hx hb dX12_pivot_164 (by decide) (fun c_164 => ?_) (fun c_164 => ?_)
                · have t_164 : (r30).toInt ≥ 0 := toI_ge c_164 rfl (by decide)
                  refine lv_iinc (v := (nI (j + 1))) hx hb dX12_pivot_179 hl (k := 6) rfl (nI_add j 1) (by decide) rfl (fun ls (hl : lv_has ls _ ([(6, .int (nI (j + 1))), (0, .ref h0), (1, .int (nI rn)), (2, .int (nI cn)), (3, .int (nI (30 + rn * (C + 1) + cn))), (4, .int r30), (5, .int (nI i))])) => ?_)
                  refine lv_goto (tgt := 71) hx hb dX12_pivot_182 (by decide) ?_
                  have hl : lv_has _ _ ([(0, .ref h0), (1, .int (nI rn)), (2, .int (nI cn)), (3, .int (nI (30 + rn * (C + 1) + cn))), (4, .int r30), (5, .int (nI i)), (6, .int (nI (j + 1)))]) := lv_sub hl [1, 2, 3, 4, 5, 6, 0] rfl
                  exact ih71_2 (j + 1) g159 f2w145 f3w145 gs145 (fT (fT (fT (fT (fT (fT m3 22 ((t i j) * (t rn cn))) 23 ((t i cn) * (t rn j))) 24 (((t i j) * (t rn cn)) + (-1) * ((t i cn) * (t rn j)))) 25 (((((t i j) * (t rn cn)) + (-1) * ((t i cn) * (t rn j)))).tdiv D)) 26 (((((t i j) * (t rn cn)) + (-1) * ((t i cn) * (t rn j)))).tmod D)) (30 + i * (C + 1) + j) (((((t i j) * (t rn cn)) + (-1) * ((t i cn) * (t rn j)))).tdiv D)) _ _ _ (f159_0) ((by rw [fT_ne _ _ (by omega), fT_ne _ _ (by omega), fT_ne _ _ (by omega), fT_ne _ _ (by omega), fT_ne _ _ (by omega), fT_ne _ _ (by omega), h21b])) ((by rw [fT_ne _ _ (by omega), fT_ne _ _ (by omega), fT_ne _ _ (by omega), fT_ne _ _ (by omega), fT_ne _ _ (by omega), fT_ne _ _ (by omega), h20b])) (by omega) (fun i2 hi2 j2 hj2 => by by_cases e9 : i2 = i ∧ j2 = j; ((have gx : (sgI (t rn cn)) = 1 := by omega); rw [e9.1, e9.2, fT_eq, if_pos (by omega), nv_in _ _ _ _ _ (by omega) (by omega), gx]; omega); ((have n9 : 30 + i2 * (C + 1) + j2 ≠ 30 + i * (C + 1) + j := fun h => e9 (pl_inj hj2 (by omega) (by omega))); rw [fT_ne _ _ n9, fT_ne _ _ (by omega), fT_ne _ _ (by omega), fT_ne _ _ (by omega), fT_ne _ _ (by omega), fT_ne _ _ (by omega), htab2 i2 hi2 j2 hj2]; exact if_congr (by omega) rfl rfl)) (fun q hq => by (rw [fT_ne _ _ (by omega), fT_ne _ _ (by omega), fT_ne _ _ (by omega), fT_ne _ _ (by omega), fT_ne _ _ (by omega), fT_ne _ _ (by omega)]); exact ho3 q hq) (by omega) hP hD hS hl
                · have t_164 : ¬ (r30).toInt ≥ 0 := toI_nge c_164 rfl (by decide)
                  refine lv_aload_n hx hb dX12_pivot_167 rfl (lv_at hl 0 rfl) ?_
                  refine lv_aload_n hx hb dX12_pivot_168 rfl (lv_at hl 0 rfl) ?_
                  refine lv_iload hx hb dX12_pivot_169 (lv_at hl 5 rfl) ?_
                  refine lv_iload hx hb dX12_pivot_171 (lv_at hl 6 rfl) ?_
                  have hFc := allFree hD hS hA
                  refine va_calli (va_runV (As := [.int (nI i), .int (nI j)]) (rest := [.ref h0]) ⟨hx, hb, hml, hown, hts⟩ (r_X12_at l dC dI a k h0 (fT vi 11 0) vj (fT (fT (fT vF 0 g159) 2 f2w145) 3 f3w145) (fT (fT vG 8 L80) 1 gs145) i j C (by first | with_reducible assumption | decide | omega | rfl | assumption) H.size) (cwV 2 hts gwsRX12_pivot_2 rfl rfl rfl hd_yX12_at_RX12 (by decide +kernel)) (fz_pre (va_recv hK hP (ci := 12) (q0 := 0) rfl rfl) hP hK hD) rfl rfl hl.1 rfl (lv_room (Nat.le_of_ble_eq_true rfl)) dX12_pivot_173 (by decide +kernel)) hS (fun q _ h => hFc q h) hFc (fun r173 u t9_ H locs ht hvm hw9 hB9 hz1 hk1 hS => ?_)
                  have hP : va_P (dC, dI) vwCl (WR a k h0 (fT vi 11 0) vj (fT (fT (fT vF 0 g159) 2 f2w145) 3 f3w145) (fT (fT vG 8 L80) 1 gs145)) H := fz_P ht hB9.1
                  have hD : va_D A (WR a k h0 (fT vi 11 0) vj (fT (fT (fT vF 0 g159) 2 f2w145) 3 f3w145) (fT (fT vG 8 L80) 1 gs145)) := hB9.2.weaken (fun _ q _ h => hFc q.1 h)
                  obtain rfl := hw9
                  have hFc := allFree hD hS hA
                  refine va_callv (va_runV (As := [.int (nI (30 + i * (C + 1) + j))]) (rest := []) ⟨hx, hb, hml, hown, hts⟩ (b_X12_turn l dC dI a k h0 (fT vi 11 0) vj (fT (fT (fT vF 0 g159) 2 f2w145) 3 f3w145) (fT (fT vG 8 L80) 1 gs145) (30 + i * (C + 1) + j) (fT (fT (fT (fT (fT (fT m3 22 ((t i j) * (t rn cn))) 23 ((t i cn) * (t rn j))) 24 (((t i j) * (t rn cn)) + (-1) * ((t i cn) * (t rn j)))) 25 (((((t i j) * (t rn cn)) + (-1) * ((t i cn) * (t rn j)))).tdiv D)) 26 (((((t i j) * (t rn cn)) + (-1) * ((t i cn) * (t rn j)))).tmod D)) (30 + i * (C + 1) + j) (((((t i j) * (t rn cn)) + (-1) * ((t i cn) * (t rn j)))).tdiv D)) f159_0 (((((t i j) * (t rn cn)) + (-1) * ((t i cn) * (t rn j)))).tdiv D) (by rw [fT_eq]) (by first | with_reducible assumption | decide | omega | rfl | assumption) H.size) (cwV 1 hts gwsRX12_pivot_5 rfl rfl rfl hd_yX12_turn_RX12 (by decide +kernel)) (fz_pre (va_recv hK hP (ci := 12) (q0 := 0) rfl rfl) hP hK hD) rfl rfl hl.1 rfl (lv_room (Nat.le_of_ble_eq_true rfl)) dX12_pivot_176 (by decide +kernel)) hS (fun q _ h => hFc q h) hFc (fun u t9_ H locs ht hvm hw9 hB9 hz1 hk1 hS => ?_)
                  have hP : va_P (dC, dI) vwCl (WR a k h0 (fT vi 11 0) vj (fT (fT (fT (fT vF 0 g159) 2 f2w145) 3 f3w145) 0 (upd g159 (nI (24 * (30 + i * (C + 1) + j))).toNatClampNeg (-(g159 (24 * (30 + i * (C + 1) + j)))))) (fT (fT vG 8 L80) 1 gs145)) H := fz_P ht hB9.1
                  have hD : va_D A (WR a k h0 (fT vi 11 0) vj (fT (fT (fT (fT vF 0 g159) 2 f2w145) 3 f3w145) 0 (upd g159 (nI (24 * (30 + i * (C + 1) + j))).toNatClampNeg (-(g159 (24 * (30 + i * (C + 1) + j)))))) (fT (fT vG 8 L80) 1 gs145)) := hB9.2.weaken (fun _ q _ h => hFc q.1 h)
                  have e9 : fT (fT (fT vF 0 (upd g159 (nI (24 * (30 + i * (C + 1) + j))).toNatClampNeg (-(g159 (24 * (30 + i * (C + 1) + j)))))) 2 f2w145) 3 f3w145 = fT (fT (fT (fT vF 0 g159) 2 f2w145) 3 f3w145) 0 (upd g159 (nI (24 * (30 + i * (C + 1) + j))).toNatClampNeg (-(g159 (24 * (30 + i * (C + 1) + j))))) := ((fT_sw _ _ _ (Nat.ne_of_beq_eq_false rfl)).trans (congrArg (fun g9 => fT g9 3 f3w145) ((fT_sw _ _ _ (Nat.ne_of_beq_eq_false rfl)).trans (congrArg (fun g9 => fT g9 2 f2w145) (fT_sm _ _ _ _))))).symm
                  rw [← e9] at hP hD
                  clear e9
                  have hP : va_P (dC, dI) vwCl (WR a k h0 (fT vi 11 0) vj (fT (fT (fT vF 0 (upd g159 (nI (24 * (30 + i * (C + 1) + j))).toNatClampNeg (-(g159 (24 * (30 + i * (C + 1) + j)))))) 2 f2w145) 3 f3w145) (fT (fT vG 8 L80) 1 gs145)) H := hP
                  have hD : va_D A (WR a k h0 (fT vi 11 0) vj (fT (fT (fT vF 0 (upd g159 (nI (24 * (30 + i * (C + 1) + j))).toNatClampNeg (-(g159 (24 * (30 + i * (C + 1) + j)))))) 2 f2w145) 3 f3w145) (fT (fT vG 8 L80) 1 gs145)) := hD
                  have f176_0 := hw9
                  try dsimp only at f176_0
                  have f176_0 : Bg (upd g159 (nI (24 * (30 + i * (C + 1) + j))).toNatClampNeg (-(g159 (24 * (30 + i * (C + 1) + j))))) (fT (fT (fT (fT (fT (fT (fT m3 22 ((t i j) * (t rn cn))) 23 ((t i cn) * (t rn j))) 24 (((t i j) * (t rn cn)) + (-1) * ((t i cn) * (t rn j)))) 25 (((((t i j) * (t rn cn)) + (-1) * ((t i cn) * (t rn j)))).tdiv D)) 26 (((((t i j) * (t rn cn)) + (-1) * ((t i cn) * (t rn j)))).tmod D)) (30 + i * (C + 1) + j) (((((t i j) * (t rn cn)) + (-1) * ((t i cn) * (t rn j)))).tdiv D)) (30 + i * (C + 1) + j) (-(((((t i j) * (t rn cn)) + (-1) * ((t i cn) * (t rn j)))).tdiv D))) := f176_0
                  refine lv_iinc (v := (nI (j + 1))) hx hb dX12_pivot_179 hl (k := 6) rfl (nI_add j 1) (by decide) rfl (fun ls (hl : lv_has ls _ ([(6, .int (nI (j + 1))), (0, .ref h0), (1, .int (nI rn)), (2, .int (nI cn)), (3, .int (nI (30 + rn * (C + 1) + cn))), (4, .int r30), (5, .int (nI i))])) => ?_)
                  refine lv_goto (tgt := 71) hx hb dX12_pivot_182 (by decide) ?_
                  have hl : lv_has _ _ ([(0, .ref h0), (1, .int (nI rn)), (2, .int (nI cn)), (3, .int (nI (30 + rn * (C + 1) + cn))), (4, .int r30), (5, .int (nI i)), (6, .int (nI (j + 1)))]) := lv_sub hl [1, 2, 3, 4, 5, 6, 0] rfl
                  exact ih71_2 (j + 1) (upd g159 (nI (24 * (30 + i * (C + 1) + j))).toNatClampNeg (-(g159 (24 * (30 + i * (C + 1) + j))))) f2w145 f3w145 gs145 (fT (fT (fT (fT (fT (fT (fT m3 22 ((t i j) * (t rn cn))) 23 ((t i cn) * (t rn j))) 24 (((t i j) * (t rn cn)) + (-1) * ((t i cn) * (t rn j)))) 25 (((((t i j) * (t rn cn)) + (-1) * ((t i cn) * (t rn j)))).tdiv D)) 26 (((((t i j) * (t rn cn)) + (-1) * ((t i cn) * (t rn j)))).tmod D)) (30 + i * (C + 1) + j) (((((t i j) * (t rn cn)) + (-1) * ((t i cn) * (t rn j)))).tdiv D)) (30 + i * (C + 1) + j) (-(((((t i j) * (t rn cn)) + (-1) * ((t i cn) * (t rn j)))).tdiv D))) _ _ _ (f176_0) ((by rw [fT_ne _ _ (by omega), fT_ne _ _ (by omega), fT_ne _ _ (by omega), fT_ne _ _ (by omega), fT_ne _ _ (by omega), fT_ne _ _ (by omega), fT_ne _ _ (by omega), h21b])) ((by rw [fT_ne _ _ (by omega), fT_ne _ _ (by omega), fT_ne _ _ (by omega), fT_ne _ _ (by omega), fT_ne _ _ (by omega), fT_ne _ _ (by omega), fT_ne _ _ (by omega), h20b])) (by omega) (fun i2 hi2 j2 hj2 => by by_cases e9 : i2 = i ∧ j2 = j; ((have gx : (sgI (t rn cn)) = -1 := by omega); rw [e9.1, e9.2, fT_eq, if_pos (by omega), nv_in _ _ _ _ _ (by omega) (by omega), gx]; omega); ((have n9 : 30 + i2 * (C + 1) + j2 ≠ 30 + i * (C + 1) + j := fun h => e9 (pl_inj hj2 (by omega) (by omega))); rw [fT_ne _ _ n9, fT_ne _ _ n9, fT_ne _ _ (by omega), fT_ne _ _ (by omega), fT_ne _ _ (by omega), fT_ne _ _ (by omega), fT_ne _ _ (by omega), htab2 i2 hi2 j2 hj2]; exact if_congr (by omega) rfl rfl)) (fun q hq => by (rw [fT_ne _ _ (by omega), fT_ne _ _ (by omega), fT_ne _ _ (by omega), fT_ne _ _ (by omega), fT_ne _ _ (by omega), fT_ne _ _ (by omega), fT_ne _ _ (by omega)]); exact ho3 q hq) (by omega) hP hD hS hl
              · have t_83 : ((j : Nat) : Int) = ((cn : Nat) : Int) := toI_nne c_83 (nI_toInt (by omega)) (nI_toInt (by omega))
                refine lv_goto (tgt := 179) hx hb dX12_pivot_86 (by decide) ?_
                refine lv_iinc (v := (nI (j + 1))) hx hb dX12_pivot_179 hl (k := 6) rfl (nI_add j 1) (by decide) rfl (fun ls (hl : lv_has ls _ ([(6, .int (nI (j + 1))), (0, .ref h0), (1, .int (nI rn)), (2, .int (nI cn)), (3, .int (nI (30 + rn * (C + 1) + cn))), (4, .int r30), (5, .int (nI i))])) => ?_)
                refine lv_goto (tgt := 71) hx hb dX12_pivot_182 (by decide) ?_
                have hl : lv_has _ _ ([(0, .ref h0), (1, .int (nI rn)), (2, .int (nI cn)), (3, .int (nI (30 + rn * (C + 1) + cn))), (4, .int r30), (5, .int (nI i)), (6, .int (nI (j + 1)))]) := lv_sub hl [1, 2, 3, 4, 5, 6, 0] rfl
                exact ih71_2 (j + 1) g3 f23 f33 gs3 m3 _ _ _ (hB3) ((by rw [h21b])) ((by rw [h20b])) (by omega) (fun i2 hi2 j2 hj2 => by rw [htab2 i2 hi2 j2 hj2]; exact if_congr (by omega) rfl rfl) (ho3) (by omega) hP hD hS hl
        · have t_62 : ((i : Nat) : Int) = ((rn : Nat) : Int) := toI_nne c_62 (nI_toInt (by omega)) (nI_toInt (by omega))
          refine lv_goto (tgt := 201) hx hb dX12_pivot_65 (by decide) ?_
          refine lv_iinc (v := (nI (i + 1))) hx hb dX12_pivot_201 hl (k := 5) rfl (nI_add i 1) (by decide) rfl (fun ls (hl : lv_has ls _ ([(5, .int (nI (i + 1))), (0, .ref h0), (1, .int (nI rn)), (2, .int (nI cn)), (3, .int (nI (30 + rn * (C + 1) + cn))), (4, .int r30)])) => ?_)
          refine lv_goto (tgt := 45) hx hb dX12_pivot_204 (by decide) ?_
          have hl : lv_has _ _ ([(0, .ref h0), (1, .int (nI rn)), (2, .int (nI cn)), (3, .int (nI (30 + rn * (C + 1) + cn))), (4, .int r30), (5, .int (nI (i + 1)))]) := lv_sub hl [1, 2, 3, 4, 5, 0] rfl
          exact ih45 (i + 1) g1 f21 f31 gs1 m1 _ _ _ (hB1) ((by rw [h21])) ((by rw [h20])) (by omega) (fun i2 hi2 j2 hj2 => by rw [htab i2 hi2 j2 hj2]; exact if_congr (by omega) rfl rfl) (ho) (by omega) hP hD hS hl
end
section
theorem ratio {a b d x y z : Int} (hx : 0 < x) (hy : 0 < y) (hz : 0 < z) (h1 : a * y ≤ b * x) (h2 : b * z ≤ d * y) : a * z ≤ d * x ∧ ((a * y < b * x ∨ b * z < d * y) → a * z < d * x) := by
  have e1 : a * y * z ≤ b * x * z := Int.mul_le_mul_of_nonneg_right h1 (by omega)
  have e2 : b * z * x ≤ d * y * x := Int.mul_le_mul_of_nonneg_right h2 (by omega)
  have k1 : b * x * z = b * z * x := by rw [Int.mul_assoc, Int.mul_comm x z, ← Int.mul_assoc]
  have k2 : a * y * z = a * z * y := by rw [Int.mul_assoc, Int.mul_comm y z, ← Int.mul_assoc]
  have k3 : d * y * x = d * x * y := by rw [Int.mul_assoc, Int.mul_comm y x, ← Int.mul_assoc]
  refine ⟨Int.le_of_mul_le_mul_right (by omega : a * z * y ≤ d * x * y) hy, fun h => ?_⟩
  rcases h with h | h
  · have e3 : a * y * z < b * x * z := Int.mul_lt_mul_of_pos_right h hz
    exact Int.lt_of_mul_lt_mul_right (by omega : a * z * y < d * x * y) (by omega)
  · have e3 : b * z * x < d * y * x := Int.mul_lt_mul_of_pos_right h hx
    exact Int.lt_of_mul_lt_mul_right (by omega : a * z * y < d * x * y) (by omega)
/-- b is the best of the rows below k -/
def Bst (t : Nat → Nat → Int) (C c : Nat) (lab : Nat → Nat) (k b : Nat) : Prop := 0 < t b c ∧ ∀ i, i < k → 0 < t i c → t b C * t i c < t i C * t b c ∨ (t b C * t i c = t i C * t b c ∧ lab b ≤ lab i)
theorem Bst.skip {t : Nat → Nat → Int} {C c : Nat} {lab : Nat → Nat} {k b : Nat} (h : Bst t C c lab k b) (hk : t k c ≤ 0) : Bst t C c lab (k + 1) b :=
  ⟨h.1, fun i hi hp => by
    by_cases e : i = k
    · subst e; omega
    · exact h.2 i (by omega) hp⟩
theorem Bst.keep {t : Nat → Nat → Int} {C c : Nat} {lab : Nat → Nat} {k b : Nat} (h : Bst t C c lab k b) (hk : t b C * t k c < t k C * t b c ∨ (t b C * t k c = t k C * t b c ∧ lab b ≤ lab k)) : Bst t C c lab (k + 1) b :=
  ⟨h.1, fun i hi hp => by
    by_cases e : i = k
    · subst e; exact hk
    · exact h.2 i (by omega) hp⟩
theorem Bst.first {t : Nat → Nat → Int} {C c : Nat} {lab : Nat → Nat} {k : Nat} (h : ∀ i, i < k → t i c ≤ 0) (hk : 0 < t k c) : Bst t C c lab (k + 1) k :=
  ⟨hk, fun i hi hp => by
    by_cases e : i = k
    · subst e; exact Or.inr ⟨rfl, Nat.le_refl _⟩
    · have := h i (by omega); omega⟩
theorem Bst.new {t : Nat → Nat → Int} {C c : Nat} {lab : Nat → Nat} {k b : Nat} (h : Bst t C c lab k b) (hp : 0 < t k c) (hk : t k C * t b c < t b C * t k c ∨ (t k C * t b c = t b C * t k c ∧ lab k ≤ lab b)) : Bst t C c lab (k + 1) k :=
  ⟨hp, fun i hi hpi => by
    by_cases e : i = k
    · subst e; exact Or.inr ⟨rfl, Nat.le_refl _⟩
    · have h1 := h.2 i (by omega) hpi
      have r := ratio (a := t k C) (b := t b C) (d := t i C) (x := t k c) (y := t b c) (z := t i c) hp h.1 hpi (by omega) (by omega)
      rcases hk with hk | hk
      · exact Or.inl (r.2 (Or.inl hk))
      · rcases h1 with h1 | h1
        · exact Or.inl (r.2 (Or.inr h1))
        · have r1 := r.1
          rcases Int.lt_or_eq_of_le r1 with h2 | h2
          · exact Or.inl h2
          · exact Or.inr ⟨h2, by omega⟩⟩
def gl (C q : Nat) : Nat := if q < C then q else q + 1
theorem gl_le {C p q : Nat} (h : p ≤ q) : gl C p ≤ gl C q := by unfold gl; split <;> split <;> omega
theorem gl_inj {C p q : Nat} (h : gl C p = gl C q) : p = q := by unfold gl at h; split at h <;> split at h <;> omega
theorem gl_ne (C q : Nat) : gl C q ≠ C := by unfold gl; split <;> omega
/-- the labels that the program holds: those of rows and columns -/
def rlF (C R : Nat) (f : Nat → Int32) : Nat → Nat := fun i => if i < R then gl C (f i).toNatClampNeg else C + 1 + i
def clF (C : Nat) (f : Nat → Int32) : Nat → Nat := fun j => if j < C then gl C (f j).toNatClampNeg else C
def Sx (C R T : Nat) (a t : Nat → Nat → Int) (D : Int) (f4 f5 : Nat → Int32) : Prop := SxF C R T a t D (rlF C R f5) (clF C f4) ∧ (∀ j, j < C → ∃ q, q < C + T ∧ f4 j = nI q) ∧ ∀ i, i < R → ∃ q, q < C + T ∧ f5 i = nI q
theorem Sx.next {C R T : Nat} {a t : Nat → Nat → Int} {D : Int} {f4 f5 : Nat → Int32} (h : Sx C R T a t D f4 f5) {r c : Nat} (hr : r < R) (hRT : R ≤ T) (hc : c < C) (hT : T < 60) (hC : C ≤ 45) {g : Int} (hg : g = 1 ∨ g = -1) (hp : 0 < g * t r c) :
    Sx C R T a (nvT r c g t D) (g * t r c) (upd f4 (nI c).toNatClampNeg (f5 r)) (upd f5 (nI r).toNatClampNeg (f4 c)) ∧ Piv T (C + 1) (t, D, rlF C R f5, clF C f4) (nvT r c g t D, g * t r c, rlF C R (upd f5 (nI r).toNatClampNeg (f4 c)), clF C (upd f4 (nI c).toNatClampNeg (f5 r))) r c g := by
  obtain ⟨h1, h2, h3⟩ := h
  have e1 : rlF C R (upd f5 (nI r).toNatClampNeg (f4 c)) = uP (rlF C R f5) r (clF C f4 c) := by
    funext i
    unfold rlF uP clF
    rw [upd_at (by omega)]
    by_cases e : i = r
    · rw [if_pos (by omega), if_pos e, if_pos e, if_pos hc]
    · rw [if_neg e, if_neg e]
  have e2 : clF C (upd f4 (nI c).toNatClampNeg (f5 r)) = uP (clF C f4) c (rlF C R f5 r) := by
    funext j
    unfold rlF uP clF
    rw [upd_at (by omega)]
    by_cases e : j = c
    · rw [if_pos (by omega), if_pos e, if_pos e, if_pos hr]
    · rw [if_neg e, if_neg e]
  have hn := h1.next hr hRT hc hg hp
  rw [e1, e2]
  unfold Sx
  rw [e1, e2]
  refine ⟨⟨hn.1, fun j hj => ?_, fun i hi => ?_⟩, hn.2⟩
  · rw [upd_at (by omega)]; split
    · exact h3 r hr
    · exact h2 j hj
  · rw [upd_at (by omega)]; split
    · exact h2 c hc
    · exact h3 i hi
/-- every tableau that belongs to a stays small -/
def Small (C R T : Nat) (a : Nat → Nat → Int) : Prop := ∀ t D rl cl, SxF C R T a t D rl cl → D.natAbs < 2 ^ 294 ∧ ∀ i, i < T → ∀ j, j ≤ C → (t i j).natAbs < 2 ^ 294
end
section
theorem hd_yX12_signAt_RX12 : yX12_signAt.cls = RX12 ∧ yX12_signAt.cls ≠ "java/lang/invoke/MethodHandle" ∧ yX12_signAt.cls ≠ "java/lang/invoke/VarHandle" ∧ (parseMethodDescriptor yX12_signAt.desc).map (fun d => d.parameters.length) = some 2 := by decide +kernel
theorem hd_yX12_lies_RX12 : yX12_lies.cls = RX12 ∧ yX12_lies.cls ≠ "java/lang/invoke/MethodHandle" ∧ yX12_lies.cls ≠ "java/lang/invoke/VarHandle" ∧ (parseMethodDescriptor yX12_lies.desc).map (fun d => d.parameters.length) = some 3 := by decide +kernel
theorem dX12_leaving_0 : decode cX12_leaving 0 = .ok (.iconst (-1), 1) := dk_2 (by decide +kernel)
theorem dX12_leaving_1 : decode cX12_leaving 1 = .ok (.istore_n 2, 1) := dk_61 (by decide +kernel)
theorem dX12_leaving_2 : decode cX12_leaving 2 = .ok (.iconst 0, 1) := dk_3 (by decide +kernel)
theorem dX12_leaving_3 : decode cX12_leaving 3 = .ok (.istore_n 3, 1) := dk_62 (by decide +kernel)
theorem dX12_leaving_4 : decode cX12_leaving 4 = .ok (.iload_n 3, 1) := dk_29 (by decide +kernel)
theorem dX12_leaving_5 : decode cX12_leaving 5 = .ok (.aload_n 0, 1) := dk_42 (by decide +kernel)
theorem dX12_leaving_6 : decode cX12_leaving 6 = .ok (.getfield 399, 3) := dk_180 (by decide +kernel)
theorem dX12_leaving_9 : decode cX12_leaving 9 = .ok (.if_icmp .ge 67, 3) := dk_162 (by decide +kernel)
theorem dX12_leaving_12 : decode cX12_leaving 12 = .ok (.aload_n 0, 1) := dk_42 (by decide +kernel)
theorem dX12_leaving_13 : decode cX12_leaving 13 = .ok (.iload_n 3, 1) := dk_29 (by decide +kernel)
theorem dX12_leaving_14 : decode cX12_leaving 14 = .ok (.iload_n 1, 1) := dk_27 (by decide +kernel)
theorem dX12_leaving_15 : decode cX12_leaving 15 = .ok (.invokevirtual 446, 3) := dk_182 (by decide +kernel)
theorem dX12_leaving_18 : decode cX12_leaving 18 = .ok (.ifCond .gt 6, 3) := dk_157 (by decide +kernel)
theorem dX12_leaving_21 : decode cX12_leaving 21 = .ok (.goto 49, 3) := dk_167 (by decide +kernel)
theorem dX12_leaving_24 : decode cX12_leaving 24 = .ok (.iload_n 2, 1) := dk_28 (by decide +kernel)
theorem dX12_leaving_25 : decode cX12_leaving 25 = .ok (.iconst (-1), 1) := dk_2 (by decide +kernel)
theorem dX12_leaving_26 : decode cX12_leaving 26 = .ok (.if_icmp .ne 8, 3) := dk_160 (by decide +kernel)
theorem dX12_leaving_29 : decode cX12_leaving 29 = .ok (.iload_n 3, 1) := dk_29 (by decide +kernel)
theorem dX12_leaving_30 : decode cX12_leaving 30 = .ok (.istore_n 2, 1) := dk_61 (by decide +kernel)
theorem dX12_leaving_31 : decode cX12_leaving 31 = .ok (.goto 39, 3) := dk_167 (by decide +kernel)
theorem dX12_leaving_34 : decode cX12_leaving 34 = .ok (.aload_n 0, 1) := dk_42 (by decide +kernel)
theorem dX12_leaving_35 : decode cX12_leaving 35 = .ok (.iload_n 3, 1) := dk_29 (by decide +kernel)
theorem dX12_leaving_36 : decode cX12_leaving 36 = .ok (.iload_n 2, 1) := dk_28 (by decide +kernel)
theorem dX12_leaving_37 : decode cX12_leaving 37 = .ok (.iload_n 1, 1) := dk_27 (by decide +kernel)
theorem dX12_leaving_38 : decode cX12_leaving 38 = .ok (.invokevirtual 449, 3) := dk_182 (by decide +kernel)
theorem dX12_leaving_41 : decode cX12_leaving 41 = .ok (.istore 4, 2) := dk_54 (by decide +kernel)
theorem dX12_leaving_43 : decode cX12_leaving 43 = .ok (.iload 4, 2) := dk_21 (by decide +kernel)
theorem dX12_leaving_45 : decode cX12_leaving 45 = .ok (.ifCond .lt 23, 3) := dk_155 (by decide +kernel)
theorem dX12_leaving_48 : decode cX12_leaving 48 = .ok (.iload 4, 2) := dk_21 (by decide +kernel)
theorem dX12_leaving_50 : decode cX12_leaving 50 = .ok (.ifCond .ne 20, 3) := dk_154 (by decide +kernel)
theorem dX12_leaving_53 : decode cX12_leaving 53 = .ok (.aload_n 0, 1) := dk_42 (by decide +kernel)
theorem dX12_leaving_54 : decode cX12_leaving 54 = .ok (.getfield 26, 3) := dk_180 (by decide +kernel)
theorem dX12_leaving_57 : decode cX12_leaving 57 = .ok (.iload_n 3, 1) := dk_29 (by decide +kernel)
theorem dX12_leaving_58 : decode cX12_leaving 58 = .ok (.iaload, 1) := dk_46 (by decide +kernel)
theorem dX12_leaving_59 : decode cX12_leaving 59 = .ok (.aload_n 0, 1) := dk_42 (by decide +kernel)
theorem dX12_leaving_60 : decode cX12_leaving 60 = .ok (.getfield 26, 3) := dk_180 (by decide +kernel)
theorem dX12_leaving_63 : decode cX12_leaving 63 = .ok (.iload_n 2, 1) := dk_28 (by decide +kernel)
theorem dX12_leaving_64 : decode cX12_leaving 64 = .ok (.iaload, 1) := dk_46 (by decide +kernel)
theorem dX12_leaving_65 : decode cX12_leaving 65 = .ok (.if_icmp .ge 5, 3) := dk_162 (by decide +kernel)
theorem dX12_leaving_68 : decode cX12_leaving 68 = .ok (.iload_n 3, 1) := dk_29 (by decide +kernel)
theorem dX12_leaving_69 : decode cX12_leaving 69 = .ok (.istore_n 2, 1) := dk_61 (by decide +kernel)
theorem dX12_leaving_70 : decode cX12_leaving 70 = .ok (.iinc 3 1, 3) := dk_132 (by decide +kernel)
theorem dX12_leaving_73 : decode cX12_leaving 73 = .ok (.goto (-69), 3) := dk_167 (by decide +kernel)
theorem dX12_leaving_76 : decode cX12_leaving 76 = .ok (.iload_n 2, 1) := dk_28 (by decide +kernel)
theorem dX12_leaving_77 : decode cX12_leaving 77 = .ok (.ireturn, 1) := dk_172 (by decide +kernel)
def wsRX12_leaving : List Cond := .code yX12_leaving cX12_leaving 5 (some .int) :: ([.fieldLink RX12 399 "OptimaWorksModel" "rows" "I", .fieldLink RX12 26 "OptimaWorksModel" "rowOf" "[I"] ++ wsX120 ++ (wsV RX12 446 RX12 yX12_signAt wsRX12_signAt) ++ (wsV RX12 449 RX12 yX12_lies wsRX12_lies))
theorem iwsRX12_leaving_in12 : ∀ w ∈ wsX120, w ∈ wsRX12_leaving := fun _ h => List.mem_cons_of_mem _ (List.mem_append_left _ (List.mem_append_left _ (List.mem_append_right _ h)))
theorem gwsRX12_leaving_0 : GoodIn wsRX12_leaving (wsV RX12 446 RX12 yX12_signAt wsRX12_signAt) := goodIn_sub (fun _ h => List.mem_cons_of_mem _ (List.mem_append_left _ (List.mem_append_right _ h))) (gdV (by decide +kernel) gdwsRX12_signAt)
theorem gwsRX12_leaving_1 : GoodIn wsRX12_leaving (wsV RX12 449 RX12 yX12_lies wsRX12_lies) := goodIn_sub (fun _ h => List.mem_cons_of_mem _ (List.mem_append_right _ h)) (gdV (by decide +kernel) gdwsRX12_lies)
theorem gdwsRX12_leaving : wsRX12_leaving.all goodWord = true := gdC rfl (gdA (gdA (gdA (by decide +kernel : ([.fieldLink RX12 399 "OptimaWorksModel" "rows" "I", .fieldLink RX12 26 "OptimaWorksModel" "rowOf" "[I"] : List Cond).all goodWord = true) gdwsX120) (gdV (by decide +kernel) gdwsRX12_signAt)) (gdV (by decide +kernel) gdwsRX12_lies))
set_option maxHeartbeats 4000000 in
set_option maxRecDepth 100000 in
/-- leaving(c) -/
theorem r_X12_leaving (l : Launch) (dC : Nat → ClassId) (dI : Nat → Nat → Nat) (a : Nat → Nat) (k : Nat → ClassId) (h0 : Nat) (vi : Nat → Int32) (vj : Nat → Int64) (vF : Nat → Nat → Int32) (vG : Nat → Nat → Int64) (cn : Nat) (lr : Nat → Nat) (C : Nat) (R : Nat) (Gq : Nat) (t : Nat → Nat → Int) (D : Int) (mg : Nat → Int) (hBg : Bg (vF 0) mg) (hC : vi 5 = nI C) (hR : vi 6 = nI R) (hG : vi 7 = nI Gq) (hC45 : 0 < C ∧ C ≤ 45) (hT60 : R + Gq < 60) (hsz : (R + Gq) * (C + 1) ≤ 970) (hT : Tab (vi 11) C (R + Gq) mg (vG 7) (vj 12) t D) (hcn : cn ≤ C) (hbd : ∀ i, i < R + Gq → ∀ j, j ≤ C → (t i j).natAbs < 2 ^ 294) (hlr : ∀ i, i < R → lr i < 200 ∧ vF 5 i = nI (lr i)) (sz : Nat) : Met l yX12_leaving wsRX12_leaving ({ frames := 3, cells := 0, slots := 0, locals := 86 }) (va_Pc [.ref h0, .int (nI cn)] (fun U => U.heap.size = sz ∧ va_P (dC, dI) vwCl (WR a k h0 vi vj vF vG) U.heap ∧ va_K (dC, dI) vwCl (tX12 k) U ∧ va_D (fun _ => True) (WR a k h0 vi vj vF vG))) (va_Qi (fun (r : Int32) (u : (Nat → Int32) × (Nat → Int64) × (Nat → Int) × (Nat)) => (r = (-1) ∧ (Bg (u.1) (u.2.2.1)) ∧ (∀ q, q ≠ 22 → q ≠ 23 → (u.2.2.1) q = mg q) ∧ (∀ i, i < R → t i cn ≤ 0)) ∨ (r = (nI (u.2.2.2)) ∧ (Bg (u.1) (u.2.2.1)) ∧ (∀ q, q ≠ 22 → q ≠ 23 → (u.2.2.1) q = mg q) ∧ ((u.2.2.2) < R) ∧ (Bst t C cn lr R (u.2.2.2)))) (fun (u : (Nat → Int32) × (Nat → Int64) × (Nat → Int) × (Nat)) t => va_P (dC, dI) vwCl (WR a k h0 vi vj (fT vF 0 (u.1)) (fT vG 1 (u.2.1))) t.heap ∧ va_D (va_A (WR a k h0 vi vj vF vG) sz) (WR a k h0 vi vj (fT vF 0 (u.1)) (fT vG 1 (u.2.1)))) (va_A (WR a k h0 vi vj vF vG) sz)) 0 0 (va_A (WR a k h0 vi vj vF vG) sz) := by
  refine Met.ofW (cc := cX12_leaving) (maxL := 5) (ret := (some .int)) (by decide) rfl ?_
  intro p e s m args below meth c s₁ B hml hv
  obtain ⟨rfl, hsz, hP, hK, hD0⟩ := hv
  have hx := B.exec
  have hb := B.bytes
  have hr := B.returns
  have hts := atoms_spec (ws := wsRX12_leaving) B.pre
  have hown : s.vm.findClass RX12 = some m.cls := findClass_of_methodNamed B.named
  have hlocks := B.notSynchronized
  subst hsz
  have hD := hD0.self (sz := s.heap.size)
  generalize hAe : va_A (WR a k h0 vi vj vF vG) s.heap.size = A at hD ⊢
  have hA : ∀ q : Nat, s.heap.size ≤ q → A q := fun q h => by rw [← hAe]; exact Or.inr h
  have hS : va_S A s.heap s.heap [] := va_S.rf
  have hl := lv_entry ([.ref h0, .int (nI cn)]) (n := 5) (Nat.le_of_ble_eq_true rfl)
  rw [lg_entry_eq]
  generalize (lg_sl ([.ref h0, .int (nI cn)]) ++ List.replicate (5 - (lg_sl ([.ref h0, .int (nI cn)])).length) Slot.unset).toArray = ls at hl ⊢
  have hl : lv_has ls 5 [(0, .ref h0), (1, .int (nI cn))] := hl
  refine lv_iconst (v := (-1)) hx hb dX12_leaving_0 (by decide) ?_
  refine lv_istore_n hx hb dX12_leaving_1 rfl hl (by decide) rfl (fun ls (hl : lv_has ls _ ([(2, .int (-1)), (0, .ref h0), (1, .int (nI cn))])) => ?_)
  refine lv_iconst (v := 0) hx hb dX12_leaving_2 (by decide) ?_
  refine lv_istore_n hx hb dX12_leaving_3 rfl hl (by decide) rfl (fun ls (hl : lv_has ls _ ([(3, .int 0), (2, .int (-1)), (0, .ref h0), (1, .int (nI cn))])) => ?_)
  have e9 : fT vF 0 (vF 0) = vF := by funext q9; by_cases h9_0 : q9 = 0; (subst h9_0; exact (fT_eq _ _ _).trans (Eq.trans (by first | with_reducible rfl | with_reducible assumption | (symm; with_reducible assumption) | rfl | assumption | (symm; assumption) | (subst_vars; rfl)) (Eq.refl _).symm)); exact (fT_ne _ _ h9_0).trans (Eq.refl _).symm
  have hP : va_P (dC, dI) vwCl (WR a k h0 vi vj (fT vF 0 (vF 0)) vG) s.heap := by rw [e9]; exact hP
  have hD : va_D A (WR a k h0 vi vj (fT vF 0 (vF 0)) vG) := by rw [e9]; exact hD
  clear e9
  have e9 : fT vG 1 (vG 1) = vG := by funext q9; by_cases h9_1 : q9 = 1; (subst h9_1; exact (fT_eq _ _ _).trans (Eq.trans (by first | with_reducible rfl | with_reducible assumption | (symm; with_reducible assumption) | rfl | assumption | (symm; assumption) | (subst_vars; rfl)) (Eq.refl _).symm)); exact (fT_ne _ _ h9_1).trans (Eq.refl _).symm
  have hP : va_P (dC, dI) vwCl (WR a k h0 vi vj (fT vF 0 (vF 0)) (fT vG 1 (vG 1))) s.heap := by rw [e9]; exact hP
  have hD : va_D A (WR a k h0 vi vj (fT vF 0 (vF 0)) (fT vG 1 (vG 1))) := by rw [e9]; exact hD
  clear e9
  have hl : lv_has _ _ ([(0, .ref h0), (1, .int (nI cn)), (2, .int (-1)), (3, .int (nI 0))]) := lv_sub hl [2, 3, 1, 0] rfl
  refine (fun (loop : ∀ (n9 : Nat) (i : Nat) (bq : Int32) (bb : Nat) (g1 : Nat → Int32) (gs1 : Nat → Int64) (m1 : Nat → Int) (H : Heap) (locs : List Loc) (ls : Array Slot), (Bg g1 m1) → (i ≤ R) → (Tab (vi 11) C (R + Gq) m1 (vG 7) (vj 12) t D) → (∀ q, q ≠ 22 → q ≠ 23 → m1 q = mg q) → ((bq = -1 ∧ ∀ i2, i2 < i → t i2 cn ≤ 0) ∨ (bq = nI bb ∧ bb < i ∧ Bst t C cn lr i bb)) →  (R < i + n9) → va_P (dC, dI) vwCl (WR a k h0 vi vj (fT vF 0 g1) (fT vG 1 gs1)) H → va_D A (WR a k h0 vi vj (fT vF 0 g1) (fT vG 1 gs1)) → va_S A s.heap H locs → lv_has ls 5 [(0, .ref h0), (1, .int (nI cn)), (2, .int bq), (3, .int (nI i))] → W p l e _ s m _ below meth c H locs 0 0 _ (F0 m 4 ls [])) => loop (R + 1) 0 (-1) 0 (vF 0) (vG 1) mg _ _ _ (hBg) (by omega) (hT) (fun q _ _ => rfl) (Or.inl ⟨rfl, fun i2 h2 => absurd h2 (by omega)⟩) (by omega) hP hD hS hl) ?_
  intro n9
  induction n9 with
  | zero => intro i bq bb g1 gs1 m1 H locs ls hB1 hi hT1 ho hbs hf9; exact False.elim (by omega)
  | succ n9 ih4 =>
    intro i bq bb g1 gs1 m1 H locs ls hB1 hi hT1 ho hbs hf4 hP hD hS hl
    refine lv_iload_n hx hb dX12_leaving_4 rfl (lv_at hl 3 rfl) ?_
    refine lv_aload_n hx hb dX12_leaving_5 rfl (lv_at hl 0 rfl) ?_
    refine va_get (D := (dC, dI)) (ci := 12) (v := .int (vi 6)) (C := RX12) (T := TX12) (N := 163) (fs := fM (vS a vi vj)) hx hb hts iwsRX12_leaving_in12 hown hK hP 0 rfl rfl 6 (by decide) (hts (.fieldLink RX12 399 "OptimaWorksModel" "rows" "I") (by decide +kernel)) (fun _ h9 => h9) rfl dX12_leaving_6 ?_
    refine lv_topi (fun y1 hy1 => ?_)
    obtain rfl : (nI R) = y1 := (hy1.trans (hR)).symm
    refine lv_icmp_ge (tgt := 76) hx hb dX12_leaving_9 (by decide) (fun c_9 => ?_) (fun c_9 => ?_)
    · have t_9 : ((i : Nat) : Int) ≥ ((R : Nat) : Int) := toI_ge c_9 (nI_toInt (by omega)) (nI_toInt (by omega))
      refine lv_iload_n hx hb dX12_leaving_76 rfl (lv_at hl 2 rfl) ?_
      refine W.widen (k := 0) (n := 0) (by decide +kernel) (by decide +kernel) ?_
      exact W.iret (v := bq) hx hb hr (fun t9_ ht hW => ⟨⟨bq, (g1, gs1, m1, bb), rfl, by (try dsimp only); (have ei : i = R := by omega); rcases hbs with ⟨h1, h2⟩ | ⟨h1, h2, h3⟩; (exact Or.inl ⟨h1, hB1, ho, fun i2 hi2 => h2 i2 (by omega)⟩); (exact Or.inr ⟨h1, hB1, ho, by omega, by rw [ei] at h3; exact h3⟩), by rw [ht]; exact hP, hD⟩, hS.F ht⟩) hS.2.2 dX12_leaving_77
    · have t_9 : ¬ ((i : Nat) : Int) ≥ ((R : Nat) : Int) := toI_nge c_9 (nI_toInt (by omega)) (nI_toInt (by omega))
      refine lv_aload_n hx hb dX12_leaving_12 rfl (lv_at hl 0 rfl) ?_
      refine lv_iload_n hx hb dX12_leaving_13 rfl (lv_at hl 3 rfl) ?_
      refine lv_iload_n hx hb dX12_leaving_14 rfl (lv_at hl 1 rfl) ?_
      have hFc := allFree hD hS hA
      refine va_calli (va_runV (As := [.int (nI i), .int (nI cn)]) (rest := []) ⟨hx, hb, hml, hown, hts⟩ (r_X12_signAt l dC dI a k h0 vi vj (fT vF 0 g1) (fT vG 1 gs1) i cn C (R + Gq) t D m1 hB1 (by first | with_reducible assumption | decide | omega | rfl | assumption) (hT1) (by first | with_reducible assumption | decide | omega | rfl | assumption) (by first | with_reducible assumption | decide | omega | rfl | assumption) (by first | with_reducible assumption | decide | omega | rfl | assumption) (by first | with_reducible assumption | decide | omega | rfl | assumption) (by first | with_reducible assumption | decide | omega | rfl | assumption) H.size) (cwV 2 hts gwsRX12_leaving_0 rfl rfl rfl hd_yX12_signAt_RX12 (by decide +kernel)) (fz_pre (va_recv hK hP (ci := 12) (q0 := 0) rfl rfl) hP hK hD) rfl rfl hl.1 rfl (lv_room (Nat.le_of_ble_eq_true rfl)) dX12_leaving_15 (by decide +kernel)) hS (fun q _ h => hFc q h) hFc (fun r15 u t9_ H locs ht hvm hw9 hB9 hz1 hk1 hS => ?_)
      have hP : va_P (dC, dI) vwCl (WR a k h0 vi vj (fT vF 0 g1) (fT vG 1 gs1)) H := fz_P ht hB9.1
      have hD : va_D A (WR a k h0 vi vj (fT vF 0 g1) (fT vG 1 gs1)) := hB9.2.weaken (fun _ q _ h => hFc q.1 h)
      have f15_0 := hw9
      try dsimp only at f15_0
      refine lv_if_gt (tgt := 24) hx hb dX12_leaving_18 (by decide) (fun c_18 => ?_) (fun c_18 => ?_)
      · have t_18 : (r15).toInt > 0 := toI_gt c_18 rfl (by decide)
        refine lv_iload_n hx hb dX12_leaving_24 rfl (lv_at hl 2 rfl) ?_
        refine lv_iconst (v := (-1)) hx hb dX12_leaving_25 (by decide) ?_
        refine lv_icmp_ne (tgt := 34) hx hb dX12_leaving_26 (by decide) (fun c_26 => ?_) (fun c_26 => ?_)
        · have t_26 : (bq).toInt ≠ -1 := toI_ne c_26 rfl (by decide)
          obtain ⟨h1b, h2b, h3b⟩ := hbs.resolve_left (fun h => c_26 h.1)
          subst h1b
          refine lv_aload_n hx hb dX12_leaving_34 rfl (lv_at hl 0 rfl) ?_
          refine lv_iload_n hx hb dX12_leaving_35 rfl (lv_at hl 3 rfl) ?_
          refine lv_iload_n hx hb dX12_leaving_36 rfl (lv_at hl 2 rfl) ?_
          refine lv_iload_n hx hb dX12_leaving_37 rfl (lv_at hl 1 rfl) ?_
          have hFc := allFree hD hS hA
          refine va_calli (va_runV (As := [.int (nI i), .int (nI bb), .int (nI cn)]) (rest := []) ⟨hx, hb, hml, hown, hts⟩ (r_X12_lies l dC dI a k h0 vi vj (fT vF 0 g1) (fT vG 1 gs1) i bb cn C (R + Gq) t D m1 hB1 (by first | with_reducible assumption | decide | omega | rfl | assumption) (hT1) (by first | with_reducible assumption | decide | omega | rfl | assumption) (by first | with_reducible assumption | decide | omega | rfl | assumption) (by first | with_reducible assumption | decide | omega | rfl | assumption) (by first | with_reducible assumption | decide | omega | rfl | assumption) (by first | with_reducible assumption | decide | omega | rfl | assumption) (by first | with_reducible assumption | decide | omega | rfl | assumption) (hbd) H.size) (cwV 3 hts gwsRX12_leaving_1 rfl rfl rfl hd_yX12_lies_RX12 (by decide +kernel)) (fz_pre (va_recv hK hP (ci := 12) (q0 := 0) rfl rfl) hP hK hD) rfl rfl hl.1 rfl (lv_room (Nat.le_of_ble_eq_true rfl)) dX12_leaving_38 (by decide +kernel)) hS (fun q _ h => hFc q h) hFc (fun r38 u t9_ H locs ht hvm hw9 hB9 hz1 hk1 hS => ?_)
          revert u
          refine fz_p3 ?_
          intro g38 gs38 m238 hw9 hB9
          try dsimp only at hw9 hB9
          have hP : va_P (dC, dI) vwCl (WR a k h0 vi vj (fT (fT vF 0 g1) 0 g38) (fT (fT vG 1 gs1) 1 gs38)) H := fz_P ht hB9.1
          have hD : va_D A (WR a k h0 vi vj (fT (fT vF 0 g1) 0 g38) (fT (fT vG 1 gs1) 1 gs38)) := hB9.2.weaken (fun _ q _ h => hFc q.1 h)
          have e9 : fT vF 0 g38 = fT (fT vF 0 g1) 0 g38 := (fT_sm _ _ _ _).symm
          rw [← e9] at hP hD
          clear e9
          have e9 : fT vG 1 gs38 = fT (fT vG 1 gs1) 1 gs38 := (fT_sm _ _ _ _).symm
          rw [← e9] at hP hD
          clear e9
          have hP : va_P (dC, dI) vwCl (WR a k h0 vi vj (fT vF 0 g38) (fT vG 1 gs38)) H := hP
          have hD : va_D A (WR a k h0 vi vj (fT vF 0 g38) (fT vG 1 gs38)) := hD
          revert hw9
          refine fz_a3 ?_
          intro f38_0 f38_1 f38_2
          refine lv_istore hx hb dX12_leaving_41 hl (by decide) rfl (fun ls (hl : lv_has ls _ ([(4, .int r38), (0, .ref h0), (1, .int (nI cn)), (2, .int (nI bb)), (3, .int (nI i))])) => ?_)
          refine lv_iload hx hb dX12_leaving_43 (lv_at hl 0 rfl) ?_
          refine lv_if_lt (tgt := 68) hx hb dX12_leaving_45 (by decide) (fun c_45 => ?_) (fun c_45 => ?_)
          · have t_45 : (r38).toInt < 0 := toI_lt c_45 rfl (by decide)
            refine lv_iload_n hx hb dX12_leaving_68 rfl (lv_at hl 4 rfl) ?_
            refine lv_istore_n hx hb dX12_leaving_69 rfl hl (by decide) rfl (fun ls (hl : lv_has ls _ ([(2, .int (nI i)), (4, .int r38), (0, .ref h0), (1, .int (nI cn)), (3, .int (nI i))])) => ?_)
            refine lv_iinc (v := (nI (i + 1))) hx hb dX12_leaving_70 hl (k := 4) rfl (nI_add i 1) (by decide) rfl (fun ls (hl : lv_has ls _ ([(3, .int (nI (i + 1))), (2, .int (nI i)), (4, .int r38), (0, .ref h0), (1, .int (nI cn))])) => ?_)
            refine lv_goto (tgt := 4) hx hb dX12_leaving_73 (by decide) ?_
            have hl : lv_has _ _ ([(0, .ref h0), (1, .int (nI cn)), (2, .int (nI i)), (3, .int (nI (i + 1)))]) := lv_sub hl [3, 4, 1, 0] rfl
            exact ih4 (i + 1) (nI i) i g38 gs38 m238 _ _ _ (f38_0) (by omega) (hT1.frame (fun p hp => f38_1 p (by omega) (by omega))) (fun q h1 h2 => by (rw [f38_1 _ (by omega) (by omega)]); exact ho q h1 h2) (Or.inr ⟨rfl, by omega, h3b.new (by omega) (by (have fl := f38_2); omega)⟩) (by omega) hP hD hS hl
          · have t_45 : ¬ (r38).toInt < 0 := toI_nlt c_45 rfl (by decide)
            refine lv_iload hx hb dX12_leaving_48 (lv_at hl 0 rfl) ?_
            refine lv_if_ne (tgt := 70) hx hb dX12_leaving_50 (by decide) (fun c_50 => ?_) (fun c_50 => ?_)
            · have t_50 : (r38).toInt ≠ 0 := toI_ne c_50 rfl (by decide)
              refine lv_iinc (v := (nI (i + 1))) hx hb dX12_leaving_70 hl (k := 4) rfl (nI_add i 1) (by decide) rfl (fun ls (hl : lv_has ls _ ([(3, .int (nI (i + 1))), (4, .int r38), (0, .ref h0), (1, .int (nI cn)), (2, .int (nI bb))])) => ?_)
              refine lv_goto (tgt := 4) hx hb dX12_leaving_73 (by decide) ?_
              have hl : lv_has _ _ ([(0, .ref h0), (1, .int (nI cn)), (2, .int (nI bb)), (3, .int (nI (i + 1)))]) := lv_sub hl [2, 3, 4, 0] rfl
              exact ih4 (i + 1) (nI bb) bb g38 gs38 m238 _ _ _ (f38_0) (by omega) (hT1.frame (fun p hp => f38_1 p (by omega) (by omega))) (fun q h1 h2 => by (rw [f38_1 _ (by omega) (by omega)]); exact ho q h1 h2) (Or.inr ⟨rfl, by omega, h3b.keep (by (have fl := f38_2); omega)⟩) (by omega) hP hD hS hl
            · have t_50 : (r38).toInt = 0 := toI_nne c_50 rfl (by decide)
              have l1 := (hlr i (by omega)).1
              have l2 := (hlr bb (by omega)).1
              refine lv_aload_n hx hb dX12_leaving_53 rfl (lv_at hl 1 rfl) ?_
              refine va_get (D := (dC, dI)) (ci := 12) (v := .ref (a 5)) (C := RX12) (T := TX12) (N := 163) (fs := fM (vS a vi vj)) hx hb hts iwsRX12_leaving_in12 hown hK hP 0 rfl rfl 9 (by decide) (hts (.fieldLink RX12 26 "OptimaWorksModel" "rowOf" "[I") (by decide +kernel)) (fun _ h9 => h9) rfl dX12_leaving_54 ?_
              refine lv_iload_n hx hb dX12_leaving_57 rfl (lv_at hl 4 rfl) ?_
              refine va_iald (cA := k 5) (n := 60) (f := (vF 5)) hx hb hK hP 6 5 (WR_get 5 (by decide)) (TR_get 5 (by decide)) (vp_in_nI (show i < 60 by omega) (by omega)) dX12_leaving_58 ?_
              refine lv_topi (fun y2 hy2 => ?_)
              obtain rfl : ((vF 5) i) = y2 := (hy2.trans (by rw [nI_clamp (by omega)])).symm
              refine lv_topi (fun y3 hy3 => ?_)
              obtain rfl : (nI (lr i)) = y3 := (hy3.trans ((hlr i (by omega)).2)).symm
              refine lv_aload_n hx hb dX12_leaving_59 rfl (lv_at hl 1 rfl) ?_
              refine va_get (D := (dC, dI)) (ci := 12) (v := .ref (a 5)) (C := RX12) (T := TX12) (N := 163) (fs := fM (vS a vi vj)) hx hb hts iwsRX12_leaving_in12 hown hK hP 0 rfl rfl 9 (by decide) (hts (.fieldLink RX12 26 "OptimaWorksModel" "rowOf" "[I") (by decide +kernel)) (fun _ h9 => h9) rfl dX12_leaving_60 ?_
              refine lv_iload_n hx hb dX12_leaving_63 rfl (lv_at hl 3 rfl) ?_
              refine va_iald (cA := k 5) (n := 60) (f := (vF 5)) hx hb hK hP 6 5 (WR_get 5 (by decide)) (TR_get 5 (by decide)) (vp_in_nI (show bb < 60 by omega) (by omega)) dX12_leaving_64 ?_
              refine lv_topi (fun y4 hy4 => ?_)
              obtain rfl : ((vF 5) bb) = y4 := (hy4.trans (by rw [nI_clamp (by omega)])).symm
              refine lv_topi (fun y5 hy5 => ?_)
              obtain rfl : (nI (lr bb)) = y5 := (hy5.trans ((hlr bb (by omega)).2)).symm
              refine lv_icmp_ge (tgt := 70) hx hb dX12_leaving_65 (by decide) (fun c_65 => ?_) (fun c_65 => ?_)
              · have t_65 : (((lr i) : Nat) : Int) ≥ (((lr bb) : Nat) : Int) := toI_ge c_65 (nI_toInt (by omega)) (nI_toInt (by omega))
                refine lv_iinc (v := (nI (i + 1))) hx hb dX12_leaving_70 hl (k := 4) rfl (nI_add i 1) (by decide) rfl (fun ls (hl : lv_has ls _ ([(3, .int (nI (i + 1))), (4, .int r38), (0, .ref h0), (1, .int (nI cn)), (2, .int (nI bb))])) => ?_)
                refine lv_goto (tgt := 4) hx hb dX12_leaving_73 (by decide) ?_
                have hl : lv_has _ _ ([(0, .ref h0), (1, .int (nI cn)), (2, .int (nI bb)), (3, .int (nI (i + 1)))]) := lv_sub hl [2, 3, 4, 0] rfl
                exact ih4 (i + 1) (nI bb) bb g38 gs38 m238 _ _ _ (f38_0) (by omega) (hT1.frame (fun p hp => f38_1 p (by omega) (by omega))) (fun q h1 h2 => by (rw [f38_1 _ (by omega) (by omega)]); exact ho q h1 h2) (Or.inr ⟨rfl, by omega, h3b.keep (by (have fl := f38_2); omega)⟩) (by omega) hP hD hS hl
              · have t_65 : ¬ (((lr i) : Nat) : Int) ≥ (((lr bb) : Nat) : Int) := toI_nge c_65 (nI_toInt (by omega)) (nI_toInt (by omega))
                refine lv_iload_n hx hb dX12_leaving_68 rfl (lv_at hl 4 rfl) ?_
                refine lv_istore_n hx hb dX12_leaving_69 rfl hl (by decide) rfl (fun ls (hl : lv_has ls _ ([(2, .int (nI i)), (4, .int r38), (0, .ref h0), (1, .int (nI cn)), (3, .int (nI i))])) => ?_)
                refine lv_iinc (v := (nI (i + 1))) hx hb dX12_leaving_70 hl (k := 4) rfl (nI_add i 1) (by decide) rfl (fun ls (hl : lv_has ls _ ([(3, .int (nI (i + 1))), (2, .int (nI i)), (4, .int r38), (0, .ref h0), (1, .int (nI cn))])) => ?_)
                refine lv_goto (tgt := 4) hx hb dX12_leaving_73 (by decide) ?_
                have hl : lv_has _ _ ([(0, .ref h0), (1, .int (nI cn)), (2, .int (nI i)), (3, .int (nI (i + 1)))]) := lv_sub hl [3, 4, 1, 0] rfl
                exact ih4 (i + 1) (nI i) i g38 gs38 m238 _ _ _ (f38_0) (by omega) (hT1.frame (fun p hp => f38_1 p (by omega) (by omega))) (fun q h1 h2 => by (rw [f38_1 _ (by omega) (by omega)]); exact ho q h1 h2) (Or.inr ⟨rfl, by omega, h3b.new (by omega) (by (have fl := f38_2); omega)⟩) (by omega) hP hD hS hl
        · have t_26 : (bq).toInt = -1 := toI_nne c_26 rfl (by decide)
          refine lv_iload_n hx hb dX12_leaving_29 rfl (lv_at hl 3 rfl) ?_
          refine lv_istore_n hx hb dX12_leaving_30 rfl hl (by decide) rfl (fun ls (hl : lv_has ls _ ([(2, .int (nI i)), (0, .ref h0), (1, .int (nI cn)), (3, .int (nI i))])) => ?_)
          refine lv_goto (tgt := 70) hx hb dX12_leaving_31 (by decide) ?_
          refine lv_iinc (v := (nI (i + 1))) hx hb dX12_leaving_70 hl (k := 3) rfl (nI_add i 1) (by decide) rfl (fun ls (hl : lv_has ls _ ([(3, .int (nI (i + 1))), (2, .int (nI i)), (0, .ref h0), (1, .int (nI cn))])) => ?_)
          refine lv_goto (tgt := 4) hx hb dX12_leaving_73 (by decide) ?_
          have hl : lv_has _ _ ([(0, .ref h0), (1, .int (nI cn)), (2, .int (nI i)), (3, .int (nI (i + 1)))]) := lv_sub hl [2, 3, 1, 0] rfl
          exact ih4 (i + 1) (nI i) i g1 gs1 m1 _ _ _ (hB1) (by omega) (hT1) (ho) (by (have h1 : ∀ i2, i2 < i → t i2 cn ≤ 0 := by rcases hbs with ⟨h1, h2⟩ | ⟨h1, h2, h3⟩; (exact h2); (exfalso; (have h9 := nI_toInt (n := bb) (by omega)); rw [← h1, c_26] at h9; (have h8 : ((-1 : Int32)).toInt = -1 := by decide); omega)); exact Or.inr ⟨rfl, by omega, Bst.first h1 (by omega)⟩) (by omega) hP hD hS hl
      · have t_18 : ¬ (r15).toInt > 0 := toI_ngt c_18 rfl (by decide)
        refine lv_goto (tgt := 70) hx hb dX12_leaving_21 (by decide) ?_
        refine lv_iinc (v := (nI (i + 1))) hx hb dX12_leaving_70 hl (k := 3) rfl (nI_add i 1) (by decide) rfl (fun ls (hl : lv_has ls _ ([(3, .int (nI (i + 1))), (0, .ref h0), (1, .int (nI cn)), (2, .int bq)])) => ?_)
        refine lv_goto (tgt := 4) hx hb dX12_leaving_73 (by decide) ?_
        have hl : lv_has _ _ ([(0, .ref h0), (1, .int (nI cn)), (2, .int bq), (3, .int (nI (i + 1)))]) := lv_sub hl [1, 2, 3, 0] rfl
        exact ih4 (i + 1) bq bb g1 gs1 m1 _ _ _ (hB1) (by omega) (hT1) (ho) (by rcases hbs with ⟨h1, h2⟩ | ⟨h1, h2, h3⟩; (exact Or.inl ⟨h1, fun i2 hi2 => by by_cases e9 : i2 = i; (rw [e9]; omega); (exact h2 i2 (by omega))⟩); (exact Or.inr ⟨h1, by omega, h3.skip (by omega)⟩)) (by omega) hP hD hS hl
end
section
theorem Sx.c4 {C R T : Nat} {a t : Nat → Nat → Int} {D : Int} {f4 f5 : Nat → Int32} (h : Sx C R T a t D f4 f5) (hC : C ≤ 45) (hT : T < 60) {j : Nat} (hj : j < C) : f4 j = nI (f4 j).toNatClampNeg ∧ (f4 j).toNatClampNeg < C + T := by
  obtain ⟨q, h1, h2⟩ := h.2.1 j hj
  rw [h2, nI_clamp (by omega)]; exact ⟨rfl, h1⟩
theorem Sx.r5 {C R T : Nat} {a t : Nat → Nat → Int} {D : Int} {f4 f5 : Nat → Int32} (h : Sx C R T a t D f4 f5) (hC : C ≤ 45) (hT : T < 60) {i : Nat} (hi : i < R) : f5 i = nI (f5 i).toNatClampNeg ∧ (f5 i).toNatClampNeg < C + T := by
  obtain ⟨q, h1, h2⟩ := h.2.2 i hi
  rw [h2, nI_clamp (by omega)]; exact ⟨rfl, h1⟩
/-- the labels that are held still -/
def stS (C : Nat) (f6 f4 : Nat → Int32) (q : Nat) : Prop := q = C ∨ ∃ k, k < C ∧ f6 k ≠ 0 ∧ clF C f4 k = q
theorem Sx.step {C R T gn : Nat} {a t : Nat → Nat → Int} {D : Int} {f4 f5 f6 f40 : Nat → Int32} (h : Sx C R T a t D f4 f5) (hsm : Small C R T a) (hRg : R ≤ gn) (hgT : gn < T) (hT60 : T < 60) (hC45 : C ≤ 45) (hG : ∀ i, i < R → 0 ≤ t i C)
    (hst : ∀ k, k < C → f6 k ≠ 0 → f4 k = f40 k) {c r : Nat} (hc : c < C) (h6 : f6 c = 0) (hneg : t gn c < 0) (hleast : ∀ k, k < C → f6 k = 0 → t gn k < 0 → (f4 c).toNatClampNeg ≤ (f4 k).toNatClampNeg) (hr : r < R) (hb : Bst t C c (fun i => (f5 i).toNatClampNeg) R r) :
    Sx C R T a (nvT r c (sgI (t r c)) t D) (sgI (t r c) * t r c) (upd f4 (nI c).toNatClampNeg (f5 r)) (upd f5 (nI r).toNatClampNeg (f4 c)) ∧ (∀ i, i < R → 0 ≤ nvT r c (sgI (t r c)) t D i C) ∧ (∀ k, k < C → f6 k ≠ 0 → upd f4 (nI c).toNatClampNeg (f5 r) k = f40 k) ∧
    ∀ N, Ends R T (C + 1) C gn (stS C f6 f40) 200 (2 ^ 294) N (t, D, rlF C R f5, clF C f4) → ∃ N1, N = N1 + 1 ∧ Ends R T (C + 1) C gn (stS C f6 f40) 200 (2 ^ 294) N1 (nvT r c (sgI (t r c)) t D, sgI (t r c) * t r c, rlF C R (upd f5 (nI r).toNatClampNeg (f4 c)), clF C (upd f4 (nI c).toNatClampNeg (f5 r))) := by
  have hp : t r c ≠ 0 := by have := hb.1; omega
  obtain ⟨hS, hP⟩ := h.next hr (by omega) hc hT60 hC45 (sgI_or _) (sgI_pos hp)
  have hS1 := h.1
  have hLb := hS1.2.2.1
  have hcl : ∀ k, k < C → clF C f4 k = gl C (f4 k).toNatClampNeg := fun k hk => by unfold clF; rw [if_pos hk]
  have hrl : ∀ i, i < R → rlF C R f5 i = gl C (f5 i).toNatClampNeg := fun i hi => by unfold rlF; rw [if_pos hi]
  have hsame : ∀ k, k < C → f6 k ≠ 0 → clF C f40 k = clF C f4 k := fun k hk h6k => by unfold clF; rw [if_pos hk, if_pos hk, hst k hk h6k]
  have hRul : Rul R T (C + 1) C gn (stS C f6 f40) (t, D, rlF C R f5, clF C f4) r c := by
    refine ⟨hr, by omega, by omega, hb.1, hneg, ?_, ?_, ?_⟩
    · rintro (e | ⟨k, hk, h6k, e⟩)
      · have e : clF C f4 c = C := e
        rw [hcl c hc] at e; exact gl_ne C _ e
      · rw [hsame k hk h6k] at e
        have := hLb.2.1 k c (by omega) (by omega) e
        subst this; exact h6k h6
    · intro k hk hns hn
      show clF C f4 c ≤ clF C f4 k
      by_cases ek : k = C
      · subst ek; exact absurd (Or.inl (hS1.2.2.2.2.2.1)) hns
      · have hkC : k < C := by omega
        have h6k : f6 k = 0 := Classical.byContradiction fun h9 => hns (Or.inr ⟨k, hkC, h9, hsame k hkC h9⟩)
        rw [hcl c hc, hcl k hkC]
        exact gl_le (hleast k hkC h6k hn)
    · intro i hi hpi
      show t r C * t i c < t i C * t r c ∨ (t r C * t i c = t i C * t r c ∧ rlF C R f5 r ≤ rlF C R f5 i)
      rcases hb.2 i hi hpi with h9 | ⟨h9, h8⟩
      · exact Or.inl h9
      · exact Or.inr ⟨h9, by rw [hrl r hr, hrl i hi]; exact gl_le h8⟩
  have hEx : Exc R T (C + 1) C gn (stS C f6 f40) (t, D, rlF C R f5, clF C f4) (nvT r c (sgI (t r c)) t D, sgI (t r c) * t r c, rlF C R (upd f5 (nI r).toNatClampNeg (f4 c)), clF C (upd f4 (nI c).toNatClampNeg (f5 r))) (clF C f4 c) (rlF C R f5 r) false :=
    ⟨r, c, _, hP, hRul, fun h9 => absurd h9 (by decide), rfl, rfl⟩
  have hGd : Gd R T (C + 1) C (t, D, rlF C R f5, clF C f4) := ⟨hLb, hS1.2.1, hG⟩
  have hGd2 := hEx.gd (by omega) (by omega) hGd
  have hsmall := hsm _ _ _ _ hS1
  have hb1 := hsmall.2 gn hgT C (Nat.le_refl _)
  have hOk : Okay R T (C + 1) C gn (stS C f6 f40) (2 ^ 294) (t, D, rlF C R f5, clF C f4) := by
    refine ⟨by omega, by omega, hRg, hgT, hGd, ?_, ?_, ?_, ?_⟩
    · rintro q (e | ⟨k, hk, h6k, e⟩)
      · exact ⟨C, by omega, by rw [e]; exact hS1.2.2.2.2.2.1⟩
      · exact ⟨k, by omega, by rw [← e]; exact (hsame k hk h6k).symm⟩
    · have := hsmall.1
      show D ≤ ((2 ^ 294 : Nat) : Int); omega
    · show t gn C ≤ ((2 ^ 294 : Nat) : Int); omega
    · show -((2 ^ 294 : Nat) : Int) ≤ t gn C; omega
  refine ⟨hS, hGd2.2.2, fun k hk h6k => ?_, fun N hE => ?_⟩
  · rw [upd_at (by omega), if_neg (fun e => h6k (by rw [e]; exact h6))]; exact hst k hk h6k
  · have hpos := hE.pos hOk
    obtain ⟨N1, rfl⟩ : ∃ N1, N = N1 + 1 := ⟨N - 1, by omega⟩
    refine ⟨N1, rfl, hE.next hOk hEx ?_ ?_⟩
    · have := hS1.2.2.2.2.2.2.2 c (by omega); omega
    · have := hS1.2.2.2.2.2.2.1 r (by omega); omega
end
section
theorem hd_yX12_leaving_RX12 : yX12_leaving.cls = RX12 ∧ yX12_leaving.cls ≠ "java/lang/invoke/MethodHandle" ∧ yX12_leaving.cls ≠ "java/lang/invoke/VarHandle" ∧ (parseMethodDescriptor yX12_leaving.desc).map (fun d => d.parameters.length) = some 1 := by decide +kernel
theorem hd_yX12_pivot_RX12 : yX12_pivot.cls = RX12 ∧ yX12_pivot.cls ≠ "java/lang/invoke/MethodHandle" ∧ yX12_pivot.cls ≠ "java/lang/invoke/VarHandle" ∧ (parseMethodDescriptor yX12_pivot.desc).map (fun d => d.parameters.length) = some 2 := by decide +kernel
theorem dX12_raise_0 : decode cX12_raise 0 = .ok (.iconst 0, 1) := dk_3 (by decide +kernel)
theorem dX12_raise_1 : decode cX12_raise 1 = .ok (.istore_n 2, 1) := dk_61 (by decide +kernel)
theorem dX12_raise_2 : decode cX12_raise 2 = .ok (.iload_n 2, 1) := dk_28 (by decide +kernel)
theorem dX12_raise_3 : decode cX12_raise 3 = .ok (.iconst (-1), 1) := dk_2 (by decide +kernel)
theorem dX12_raise_4 : decode cX12_raise 4 = .ok (.if_icmp .eq 91, 3) := dk_159 (by decide +kernel)
theorem dX12_raise_7 : decode cX12_raise 7 = .ok (.iconst (-1), 1) := dk_2 (by decide +kernel)
theorem dX12_raise_8 : decode cX12_raise 8 = .ok (.istore_n 2, 1) := dk_61 (by decide +kernel)
theorem dX12_raise_9 : decode cX12_raise 9 = .ok (.iconst 0, 1) := dk_3 (by decide +kernel)
theorem dX12_raise_10 : decode cX12_raise 10 = .ok (.istore_n 3, 1) := dk_62 (by decide +kernel)
theorem dX12_raise_11 : decode cX12_raise 11 = .ok (.iload_n 3, 1) := dk_29 (by decide +kernel)
theorem dX12_raise_12 : decode cX12_raise 12 = .ok (.aload_n 0, 1) := dk_42 (by decide +kernel)
theorem dX12_raise_13 : decode cX12_raise 13 = .ok (.getfield 396, 3) := dk_180 (by decide +kernel)
theorem dX12_raise_16 : decode cX12_raise 16 = .ok (.if_icmp .ge 49, 3) := dk_162 (by decide +kernel)
theorem dX12_raise_19 : decode cX12_raise 19 = .ok (.aload_n 0, 1) := dk_42 (by decide +kernel)
theorem dX12_raise_20 : decode cX12_raise 20 = .ok (.getfield 29, 3) := dk_180 (by decide +kernel)
theorem dX12_raise_23 : decode cX12_raise 23 = .ok (.iload_n 3, 1) := dk_29 (by decide +kernel)
theorem dX12_raise_24 : decode cX12_raise 24 = .ok (.baload, 1) := dk_51 (by decide +kernel)
theorem dX12_raise_25 : decode cX12_raise 25 = .ok (.ifCond .ne 34, 3) := dk_154 (by decide +kernel)
theorem dX12_raise_28 : decode cX12_raise 28 = .ok (.aload_n 0, 1) := dk_42 (by decide +kernel)
theorem dX12_raise_29 : decode cX12_raise 29 = .ok (.iload_n 1, 1) := dk_27 (by decide +kernel)
theorem dX12_raise_30 : decode cX12_raise 30 = .ok (.iload_n 3, 1) := dk_29 (by decide +kernel)
theorem dX12_raise_31 : decode cX12_raise 31 = .ok (.invokevirtual 446, 3) := dk_182 (by decide +kernel)
theorem dX12_raise_34 : decode cX12_raise 34 = .ok (.ifCond .ge 25, 3) := dk_156 (by decide +kernel)
theorem dX12_raise_37 : decode cX12_raise 37 = .ok (.iload_n 2, 1) := dk_28 (by decide +kernel)
theorem dX12_raise_38 : decode cX12_raise 38 = .ok (.iconst (-1), 1) := dk_2 (by decide +kernel)
theorem dX12_raise_39 : decode cX12_raise 39 = .ok (.if_icmp .eq 18, 3) := dk_159 (by decide +kernel)
theorem dX12_raise_42 : decode cX12_raise 42 = .ok (.aload_n 0, 1) := dk_42 (by decide +kernel)
theorem dX12_raise_43 : decode cX12_raise 43 = .ok (.getfield 23, 3) := dk_180 (by decide +kernel)
theorem dX12_raise_46 : decode cX12_raise 46 = .ok (.iload_n 3, 1) := dk_29 (by decide +kernel)
theorem dX12_raise_47 : decode cX12_raise 47 = .ok (.iaload, 1) := dk_46 (by decide +kernel)
theorem dX12_raise_48 : decode cX12_raise 48 = .ok (.aload_n 0, 1) := dk_42 (by decide +kernel)
theorem dX12_raise_49 : decode cX12_raise 49 = .ok (.getfield 23, 3) := dk_180 (by decide +kernel)
theorem dX12_raise_52 : decode cX12_raise 52 = .ok (.iload_n 2, 1) := dk_28 (by decide +kernel)
theorem dX12_raise_53 : decode cX12_raise 53 = .ok (.iaload, 1) := dk_46 (by decide +kernel)
theorem dX12_raise_54 : decode cX12_raise 54 = .ok (.if_icmp .ge 5, 3) := dk_162 (by decide +kernel)
theorem dX12_raise_57 : decode cX12_raise 57 = .ok (.iload_n 3, 1) := dk_29 (by decide +kernel)
theorem dX12_raise_58 : decode cX12_raise 58 = .ok (.istore_n 2, 1) := dk_61 (by decide +kernel)
theorem dX12_raise_59 : decode cX12_raise 59 = .ok (.iinc 3 1, 3) := dk_132 (by decide +kernel)
theorem dX12_raise_62 : decode cX12_raise 62 = .ok (.goto (-51), 3) := dk_167 (by decide +kernel)
theorem dX12_raise_65 : decode cX12_raise 65 = .ok (.iload_n 2, 1) := dk_28 (by decide +kernel)
theorem dX12_raise_66 : decode cX12_raise 66 = .ok (.iconst (-1), 1) := dk_2 (by decide +kernel)
theorem dX12_raise_67 : decode cX12_raise 67 = .ok (.if_icmp .ne 6, 3) := dk_160 (by decide +kernel)
theorem dX12_raise_70 : decode cX12_raise 70 = .ok (.goto (-68), 3) := dk_167 (by decide +kernel)
theorem dX12_raise_73 : decode cX12_raise 73 = .ok (.aload_n 0, 1) := dk_42 (by decide +kernel)
theorem dX12_raise_74 : decode cX12_raise 74 = .ok (.iload_n 2, 1) := dk_28 (by decide +kernel)
theorem dX12_raise_75 : decode cX12_raise 75 = .ok (.invokevirtual 453, 3) := dk_182 (by decide +kernel)
theorem dX12_raise_78 : decode cX12_raise 78 = .ok (.istore_n 3, 1) := dk_62 (by decide +kernel)
theorem dX12_raise_79 : decode cX12_raise 79 = .ok (.iload_n 3, 1) := dk_29 (by decide +kernel)
theorem dX12_raise_80 : decode cX12_raise 80 = .ok (.iconst (-1), 1) := dk_2 (by decide +kernel)
theorem dX12_raise_81 : decode cX12_raise 81 = .ok (.if_icmp .ne 5, 3) := dk_160 (by decide +kernel)
theorem dX12_raise_84 : decode cX12_raise 84 = .ok (.iconst 0, 1) := dk_3 (by decide +kernel)
theorem dX12_raise_85 : decode cX12_raise 85 = .ok (.ireturn, 1) := dk_172 (by decide +kernel)
theorem dX12_raise_86 : decode cX12_raise 86 = .ok (.aload_n 0, 1) := dk_42 (by decide +kernel)
theorem dX12_raise_87 : decode cX12_raise 87 = .ok (.iload_n 3, 1) := dk_29 (by decide +kernel)
theorem dX12_raise_88 : decode cX12_raise 88 = .ok (.iload_n 2, 1) := dk_28 (by decide +kernel)
theorem dX12_raise_89 : decode cX12_raise 89 = .ok (.invokevirtual 456, 3) := dk_182 (by decide +kernel)
theorem dX12_raise_92 : decode cX12_raise 92 = .ok (.goto (-90), 3) := dk_167 (by decide +kernel)
theorem dX12_raise_95 : decode cX12_raise 95 = .ok (.iconst 0, 1) := dk_3 (by decide +kernel)
theorem dX12_raise_96 : decode cX12_raise 96 = .ok (.istore_n 3, 1) := dk_62 (by decide +kernel)
theorem dX12_raise_97 : decode cX12_raise 97 = .ok (.iload_n 3, 1) := dk_29 (by decide +kernel)
theorem dX12_raise_98 : decode cX12_raise 98 = .ok (.aload_n 0, 1) := dk_42 (by decide +kernel)
theorem dX12_raise_99 : decode cX12_raise 99 = .ok (.getfield 396, 3) := dk_180 (by decide +kernel)
theorem dX12_raise_102 : decode cX12_raise 102 = .ok (.if_icmp .ge 38, 3) := dk_162 (by decide +kernel)
theorem dX12_raise_105 : decode cX12_raise 105 = .ok (.aload_n 0, 1) := dk_42 (by decide +kernel)
theorem dX12_raise_106 : decode cX12_raise 106 = .ok (.getfield 29, 3) := dk_180 (by decide +kernel)
theorem dX12_raise_109 : decode cX12_raise 109 = .ok (.iload_n 3, 1) := dk_29 (by decide +kernel)
theorem dX12_raise_110 : decode cX12_raise 110 = .ok (.aload_n 0, 1) := dk_42 (by decide +kernel)
theorem dX12_raise_111 : decode cX12_raise 111 = .ok (.getfield 29, 3) := dk_180 (by decide +kernel)
theorem dX12_raise_114 : decode cX12_raise 114 = .ok (.iload_n 3, 1) := dk_29 (by decide +kernel)
theorem dX12_raise_115 : decode cX12_raise 115 = .ok (.baload, 1) := dk_51 (by decide +kernel)
theorem dX12_raise_116 : decode cX12_raise 116 = .ok (.ifCond .ne 12, 3) := dk_154 (by decide +kernel)
theorem dX12_raise_119 : decode cX12_raise 119 = .ok (.aload_n 0, 1) := dk_42 (by decide +kernel)
theorem dX12_raise_120 : decode cX12_raise 120 = .ok (.iload_n 1, 1) := dk_27 (by decide +kernel)
theorem dX12_raise_121 : decode cX12_raise 121 = .ok (.iload_n 3, 1) := dk_29 (by decide +kernel)
theorem dX12_raise_122 : decode cX12_raise 122 = .ok (.invokevirtual 446, 3) := dk_182 (by decide +kernel)
theorem dX12_raise_125 : decode cX12_raise 125 = .ok (.ifCond .le 7, 3) := dk_158 (by decide +kernel)
theorem dX12_raise_128 : decode cX12_raise 128 = .ok (.iconst 1, 1) := dk_4 (by decide +kernel)
theorem dX12_raise_129 : decode cX12_raise 129 = .ok (.goto 4, 3) := dk_167 (by decide +kernel)
theorem dX12_raise_132 : decode cX12_raise 132 = .ok (.iconst 0, 1) := dk_3 (by decide +kernel)
theorem dX12_raise_133 : decode cX12_raise 133 = .ok (.bastore, 1) := dk_84 (by decide +kernel)
theorem dX12_raise_134 : decode cX12_raise 134 = .ok (.iinc 3 1, 3) := dk_132 (by decide +kernel)
theorem dX12_raise_137 : decode cX12_raise 137 = .ok (.goto (-40), 3) := dk_167 (by decide +kernel)
theorem dX12_raise_140 : decode cX12_raise 140 = .ok (.iconst 1, 1) := dk_4 (by decide +kernel)
theorem dX12_raise_141 : decode cX12_raise 141 = .ok (.ireturn, 1) := dk_172 (by decide +kernel)
def wsRX12_raise : List Cond := .code yX12_raise cX12_raise 4 (some .boolean) :: ([.fieldLink RX12 396 "OptimaWorksModel" "columns" "I", .fieldLink RX12 29 "OptimaWorksModel" "still" "[Z", .fieldLink RX12 23 "OptimaWorksModel" "columnOf" "[I"] ++ wsX120 ++ (wsV RX12 446 RX12 yX12_signAt wsRX12_signAt) ++ (wsV RX12 453 RX12 yX12_leaving wsRX12_leaving) ++ (wsV RX12 456 RX12 yX12_pivot wsRX12_pivot))
theorem iwsRX12_raise_in12 : ∀ w ∈ wsX120, w ∈ wsRX12_raise := fun _ h => List.mem_cons_of_mem _ (List.mem_append_left _ (List.mem_append_left _ (List.mem_append_left _ (List.mem_append_right _ h))))
theorem gwsRX12_raise_0 : GoodIn wsRX12_raise (wsV RX12 446 RX12 yX12_signAt wsRX12_signAt) := goodIn_sub (fun _ h => List.mem_cons_of_mem _ (List.mem_append_left _ (List.mem_append_left _ (List.mem_append_right _ h)))) (gdV (by decide +kernel) gdwsRX12_signAt)
theorem gwsRX12_raise_1 : GoodIn wsRX12_raise (wsV RX12 453 RX12 yX12_leaving wsRX12_leaving) := goodIn_sub (fun _ h => List.mem_cons_of_mem _ (List.mem_append_left _ (List.mem_append_right _ h))) (gdV (by decide +kernel) gdwsRX12_leaving)
theorem gwsRX12_raise_2 : GoodIn wsRX12_raise (wsV RX12 456 RX12 yX12_pivot wsRX12_pivot) := goodIn_sub (fun _ h => List.mem_cons_of_mem _ (List.mem_append_right _ h)) (gdV (by decide +kernel) gdwsRX12_pivot)
theorem gdwsRX12_raise : wsRX12_raise.all goodWord = true := gdC rfl (gdA (gdA (gdA (gdA (by decide +kernel : ([.fieldLink RX12 396 "OptimaWorksModel" "columns" "I", .fieldLink RX12 29 "OptimaWorksModel" "still" "[Z", .fieldLink RX12 23 "OptimaWorksModel" "columnOf" "[I"] : List Cond).all goodWord = true) gdwsX120) (gdV (by decide +kernel) gdwsRX12_signAt)) (gdV (by decide +kernel) gdwsRX12_leaving)) (gdV (by decide +kernel) gdwsRX12_pivot))
set_option maxHeartbeats 4000000 in
set_option maxRecDepth 100000 in
/-- raise(goal) -/
theorem r_X12_raise (l : Launch) (dC : Nat → ClassId) (dI : Nat → Nat → Nat) (a : Nat → Nat) (k : Nat → ClassId) (h0 : Nat) (vi : Nat → Int32) (vj : Nat → Int64) (vF : Nat → Nat → Int32) (vG : Nat → Nat → Int64) (gn : Nat) (a_ : Nat → Nat → Int) (C : Nat) (R : Nat) (Gq : Nat) (t : Nat → Nat → Int) (D : Int) (mg : Nat → Int) (hBg : Bg (vF 0) mg) (hC : vi 5 = nI C) (hR : vi 6 = nI R) (hG : vi 7 = nI Gq) (hC45 : 0 < C ∧ C ≤ 45) (hT60 : R + Gq < 60) (hsz : (R + Gq) * (C + 1) ≤ 970) (hT : Tab (vi 11) C (R + Gq) mg (vG 7) (vj 12) t D) (hSx : Sx C R (R + Gq) a_ t D (vF 4) (vF 5)) (hsm : Small C R (R + Gq) a_) (hG0 : ∀ i, i < R → 0 ≤ t i C) (hRgn : R ≤ gn) (hgT : gn < R + Gq) (sz : Nat) : Met l yX12_raise wsRX12_raise ({ frames := 4, cells := 0, slots := 0, locals := 110 }) (va_Pc [.ref h0, .int (nI gn)] (fun U => U.heap.size = sz ∧ va_P (dC, dI) vwCl (WR a k h0 vi vj vF vG) U.heap ∧ va_K (dC, dI) vwCl (tX12 k) U ∧ va_D (fun _ => True) (WR a k h0 vi vj vF vG))) (va_Qi (fun (r : Int32) (u : (Nat → Int32) × (Nat → Int32) × (Nat → Int32) × (Nat → Int32) × (Nat → Int32) × (Nat → Int32) × (Nat → Int64) × (Nat → Int64) × (Nat → Int64) × (Int32) × (Int64) × (Nat → Int) × (Nat → Nat → Int) × (Int)) => (Bg (u.1) (u.2.2.2.2.2.2.2.2.2.2.2.1)) ∧ (Tab (u.2.2.2.2.2.2.2.2.2.1) C (R + Gq) (u.2.2.2.2.2.2.2.2.2.2.2.1) (u.2.2.2.2.2.2.2.1) (u.2.2.2.2.2.2.2.2.2.2.1) (u.2.2.2.2.2.2.2.2.2.2.2.2.1) (u.2.2.2.2.2.2.2.2.2.2.2.2.2)) ∧ (Sx C R (R + Gq) a_ (u.2.2.2.2.2.2.2.2.2.2.2.2.1) (u.2.2.2.2.2.2.2.2.2.2.2.2.2) (u.2.2.2.1) (u.2.2.2.2.1)) ∧ (∀ i, i < R → 0 ≤ (u.2.2.2.2.2.2.2.2.2.2.2.2.1) i C) ∧ (∀ q, (q < 20 ∨ (26 < q ∧ q < 30) ∨ 30 + (R + Gq) * (C + 1) ≤ q) → (u.2.2.2.2.2.2.2.2.2.2.2.1) q = mg q) ∧ ((r) = 0 ∨ (r) = 1)) (fun (u : (Nat → Int32) × (Nat → Int32) × (Nat → Int32) × (Nat → Int32) × (Nat → Int32) × (Nat → Int32) × (Nat → Int64) × (Nat → Int64) × (Nat → Int64) × (Int32) × (Int64) × (Nat → Int) × (Nat → Nat → Int) × (Int)) t => va_P (dC, dI) vwCl (WR a k h0 (fT vi 11 (u.2.2.2.2.2.2.2.2.2.1)) (fT vj 12 (u.2.2.2.2.2.2.2.2.2.2.1)) (fT (fT (fT (fT (fT (fT vF 0 (u.1)) 2 (u.2.1)) 3 (u.2.2.1)) 4 (u.2.2.2.1)) 5 (u.2.2.2.2.1)) 6 (u.2.2.2.2.2.1)) (fT (fT (fT vG 1 (u.2.2.2.2.2.2.1)) 7 (u.2.2.2.2.2.2.2.1)) 8 (u.2.2.2.2.2.2.2.2.1))) t.heap ∧ va_D (va_A (WR a k h0 vi vj vF vG) sz) (WR a k h0 (fT vi 11 (u.2.2.2.2.2.2.2.2.2.1)) (fT vj 12 (u.2.2.2.2.2.2.2.2.2.2.1)) (fT (fT (fT (fT (fT (fT vF 0 (u.1)) 2 (u.2.1)) 3 (u.2.2.1)) 4 (u.2.2.2.1)) 5 (u.2.2.2.2.1)) 6 (u.2.2.2.2.2.1)) (fT (fT (fT vG 1 (u.2.2.2.2.2.2.1)) 7 (u.2.2.2.2.2.2.2.1)) 8 (u.2.2.2.2.2.2.2.2.1)))) (va_A (WR a k h0 vi vj vF vG) sz)) 0 0 (va_A (WR a k h0 vi vj vF vG) sz) := by
  refine Met.ofW (cc := cX12_raise) (maxL := 4) (ret := (some .boolean)) (by decide) rfl ?_
  intro p e s m args below meth c s₁ B hml hv
  obtain ⟨rfl, hsz, hP, hK, hD0⟩ := hv
  have hx := B.exec
  have hb := B.bytes
  have hr := B.returns
  have hts := atoms_spec (ws := wsRX12_raise) B.pre
  have hown : s.vm.findClass RX12 = some m.cls := findClass_of_methodNamed B.named
  have hlocks := B.notSynchronized
  subst hsz
  have hD := hD0.self (sz := s.heap.size)
  generalize hAe : va_A (WR a k h0 vi vj vF vG) s.heap.size = A at hD ⊢
  have hA : ∀ q : Nat, s.heap.size ≤ q → A q := fun q h => by rw [← hAe]; exact Or.inr h
  have hS : va_S A s.heap s.heap [] := va_S.rf
  have hl := lv_entry ([.ref h0, .int (nI gn)]) (n := 4) (Nat.le_of_ble_eq_true rfl)
  rw [lg_entry_eq]
  generalize (lg_sl ([.ref h0, .int (nI gn)]) ++ List.replicate (4 - (lg_sl ([.ref h0, .int (nI gn)])).length) Slot.unset).toArray = ls at hl ⊢
  have hl : lv_has ls 4 [(0, .ref h0), (1, .int (nI gn))] := hl
  obtain ⟨N0, hN0⟩ := ends R (R + Gq) (C + 1) C gn (stS C (vF 6) (vF 4)) 200 (2 ^ 294) (t, D, rlF C R (vF 5), clF C (vF 4))
  refine lv_iconst (v := 0) hx hb dX12_raise_0 (by decide) ?_
  refine lv_istore_n hx hb dX12_raise_1 rfl hl (by decide) rfl (fun ls (hl : lv_has ls _ ([(2, .int 0), (0, .ref h0), (1, .int (nI gn))])) => ?_)
  have e9 : fT vi 11 (vi 11) = vi := by funext q9; by_cases h9_11 : q9 = 11; (subst h9_11; exact (fT_eq _ _ _).trans (Eq.trans (by first | with_reducible rfl | with_reducible assumption | (symm; with_reducible assumption) | rfl | assumption | (symm; assumption) | (subst_vars; rfl)) (Eq.refl _).symm)); exact (fT_ne _ _ h9_11).trans (Eq.refl _).symm
  have hP : va_P (dC, dI) vwCl (WR a k h0 (fT vi 11 (vi 11)) vj vF vG) s.heap := by rw [e9]; exact hP
  have hD : va_D A (WR a k h0 (fT vi 11 (vi 11)) vj vF vG) := by rw [e9]; exact hD
  clear e9
  have e9 : fT vj 12 (vj 12) = vj := by funext q9; by_cases h9_12 : q9 = 12; (subst h9_12; exact (fT_eq _ _ _).trans (Eq.trans (by first | with_reducible rfl | with_reducible assumption | (symm; with_reducible assumption) | rfl | assumption | (symm; assumption) | (subst_vars; rfl)) (Eq.refl _).symm)); exact (fT_ne _ _ h9_12).trans (Eq.refl _).symm
  have hP : va_P (dC, dI) vwCl (WR a k h0 (fT vi 11 (vi 11)) (fT vj 12 (vj 12)) vF vG) s.heap := by rw [e9]; exact hP
  have hD : va_D A (WR a k h0 (fT vi 11 (vi 11)) (fT vj 12 (vj 12)) vF vG) := by rw [e9]; exact hD
  clear e9
  have e9 : fT (fT (fT (fT (fT vF 0 (vF 0)) 2 (vF 2)) 3 (vF 3)) 4 (vF 4)) 5 (vF 5) = vF := by funext q9; by_cases h9_0 : q9 = 0; (subst h9_0; exact ((fT_ne _ _ (Nat.ne_of_beq_eq_false rfl)).trans ((fT_ne _ _ (Nat.ne_of_beq_eq_false rfl)).trans ((fT_ne _ _ (Nat.ne_of_beq_eq_false rfl)).trans ((fT_ne _ _ (Nat.ne_of_beq_eq_false rfl)).trans (fT_eq _ _ _))))).trans (Eq.trans (by first | with_reducible rfl | with_reducible assumption | (symm; with_reducible assumption) | rfl | assumption | (symm; assumption) | (subst_vars; rfl)) (Eq.refl _).symm)); by_cases h9_2 : q9 = 2; (subst h9_2; exact ((fT_ne _ _ (Nat.ne_of_beq_eq_false rfl)).trans ((fT_ne _ _ (Nat.ne_of_beq_eq_false rfl)).trans ((fT_ne _ _ (Nat.ne_of_beq_eq_false rfl)).trans (fT_eq _ _ _)))).trans (Eq.trans (by first | with_reducible rfl | with_reducible assumption | (symm; with_reducible assumption) | rfl | assumption | (symm; assumption) | (subst_vars; rfl)) (Eq.refl _).symm)); by_cases h9_3 : q9 = 3; (subst h9_3; exact ((fT_ne _ _ (Nat.ne_of_beq_eq_false rfl)).trans ((fT_ne _ _ (Nat.ne_of_beq_eq_false rfl)).trans (fT_eq _ _ _))).trans (Eq.trans (by first | with_reducible rfl | with_reducible assumption | (symm; with_reducible assumption) | rfl | assumption | (symm; assumption) | (subst_vars; rfl)) (Eq.refl _).symm)); by_cases h9_4 : q9 = 4; (subst h9_4; exact ((fT_ne _ _ (Nat.ne_of_beq_eq_false rfl)).trans (fT_eq _ _ _)).trans (Eq.trans (by first | with_reducible rfl | with_reducible assumption | (symm; with_reducible assumption) | rfl | assumption | (symm; assumption) | (subst_vars; rfl)) (Eq.refl _).symm)); by_cases h9_5 : q9 = 5; (subst h9_5; exact (fT_eq _ _ _).trans (Eq.trans (by first | with_reducible rfl | with_reducible assumption | (symm; with_reducible assumption) | rfl | assumption | (symm; assumption) | (subst_vars; rfl)) (Eq.refl _).symm)); exact ((fT_ne _ _ h9_5).trans ((fT_ne _ _ h9_4).trans ((fT_ne _ _ h9_3).trans ((fT_ne _ _ h9_2).trans (fT_ne _ _ h9_0))))).trans (Eq.refl _).symm
  have hP : va_P (dC, dI) vwCl (WR a k h0 (fT vi 11 (vi 11)) (fT vj 12 (vj 12)) (fT (fT (fT (fT (fT vF 0 (vF 0)) 2 (vF 2)) 3 (vF 3)) 4 (vF 4)) 5 (vF 5)) vG) s.heap := by rw [e9]; exact hP
  have hD : va_D A (WR a k h0 (fT vi 11 (vi 11)) (fT vj 12 (vj 12)) (fT (fT (fT (fT (fT vF 0 (vF 0)) 2 (vF 2)) 3 (vF 3)) 4 (vF 4)) 5 (vF 5)) vG) := by rw [e9]; exact hD
  clear e9
  have e9 : fT (fT (fT vG 1 (vG 1)) 7 (vG 7)) 8 (vG 8) = vG := by funext q9; by_cases h9_1 : q9 = 1; (subst h9_1; exact ((fT_ne _ _ (Nat.ne_of_beq_eq_false rfl)).trans ((fT_ne _ _ (Nat.ne_of_beq_eq_false rfl)).trans (fT_eq _ _ _))).trans (Eq.trans (by first | with_reducible rfl | with_reducible assumption | (symm; with_reducible assumption) | rfl | assumption | (symm; assumption) | (subst_vars; rfl)) (Eq.refl _).symm)); by_cases h9_7 : q9 = 7; (subst h9_7; exact ((fT_ne _ _ (Nat.ne_of_beq_eq_false rfl)).trans (fT_eq _ _ _)).trans (Eq.trans (by first | with_reducible rfl | with_reducible assumption | (symm; with_reducible assumption) | rfl | assumption | (symm; assumption) | (subst_vars; rfl)) (Eq.refl _).symm)); by_cases h9_8 : q9 = 8; (subst h9_8; exact (fT_eq _ _ _).trans (Eq.trans (by first | with_reducible rfl | with_reducible assumption | (symm; with_reducible assumption) | rfl | assumption | (symm; assumption) | (subst_vars; rfl)) (Eq.refl _).symm)); exact ((fT_ne _ _ h9_8).trans ((fT_ne _ _ h9_7).trans (fT_ne _ _ h9_1))).trans (Eq.refl _).symm
  have hP : va_P (dC, dI) vwCl (WR a k h0 (fT vi 11 (vi 11)) (fT vj 12 (vj 12)) (fT (fT (fT (fT (fT vF 0 (vF 0)) 2 (vF 2)) 3 (vF 3)) 4 (vF 4)) 5 (vF 5)) (fT (fT (fT vG 1 (vG 1)) 7 (vG 7)) 8 (vG 8))) s.heap := by rw [e9]; exact hP
  have hD : va_D A (WR a k h0 (fT vi 11 (vi 11)) (fT vj 12 (vj 12)) (fT (fT (fT (fT (fT vF 0 (vF 0)) 2 (vF 2)) 3 (vF 3)) 4 (vF 4)) 5 (vF 5)) (fT (fT (fT vG 1 (vG 1)) 7 (vG 7)) 8 (vG 8))) := by rw [e9]; exact hD
  clear e9
  have hl : lv_has _ _ ([(0, .ref h0), (1, .int (nI gn)), (2, .int 0)]) := lv_sub hl [1, 2, 0] rfl
  refine (fun (loop : ∀ (n9 : Nat) (cq : Int32) (t1 : Nat → Nat → Int) (D1 : Int) (g1 : Nat → Int32) (f21 : Nat → Int32) (f31 : Nat → Int32) (f41 : Nat → Int32) (f51 : Nat → Int32) (gs1 : Nat → Int64) (F1 : Nat → Int64) (L81 : Nat → Int64) (qk1 : Int32) (qd1 : Int64) (m1 : Nat → Int) (H : Heap) (locs : List Loc) (ls : Array Slot), (Bg g1 m1) → (Tab qk1 C (R + Gq) m1 F1 qd1 t1 D1) → (Sx C R (R + Gq) a_ t1 D1 f41 f51) → (∀ i, i < R → 0 ≤ t1 i C) → (∀ k, k < C → vF 6 k ≠ 0 → f41 k = vF 4 k) → (∀ q, (q < 20 ∨ (26 < q ∧ q < 30) ∨ 30 + (R + Gq) * (C + 1) ≤ q) → m1 q = mg q) →  (∃ N, Ends R (R + Gq) (C + 1) C gn (stS C (vF 6) (vF 4)) 200 (2 ^ 294) N (t1, D1, rlF C R f51, clF C f41) ∧ ((cq = -1 ∧ 0 < n9) ∨ N + 1 < n9)) → va_P (dC, dI) vwCl (WR a k h0 (fT vi 11 qk1) (fT vj 12 qd1) (fT (fT (fT (fT (fT vF 0 g1) 2 f21) 3 f31) 4 f41) 5 f51) (fT (fT (fT vG 1 gs1) 7 F1) 8 L81)) H → va_D A (WR a k h0 (fT vi 11 qk1) (fT vj 12 qd1) (fT (fT (fT (fT (fT vF 0 g1) 2 f21) 3 f31) 4 f41) 5 f51) (fT (fT (fT vG 1 gs1) 7 F1) 8 L81)) → va_S A s.heap H locs → lv_has ls 4 [(0, .ref h0), (1, .int (nI gn)), (2, .int cq)] → W p l e _ s m _ below meth c H locs 0 0 _ (F0 m 2 ls [])) => loop (N0 + 2) 0 t D (vF 0) (vF 2) (vF 3) (vF 4) (vF 5) (vG 1) (vG 7) (vG 8) (vi 11) (vj 12) mg _ _ _ (hBg) (hT) (hSx) (hG0) (fun k _ _ => rfl) (fun q _ => rfl) (⟨N0, hN0, Or.inr (by omega)⟩) hP hD hS hl) ?_
  intro n9
  induction n9 with
  | zero => intro cq t1 D1 g1 f21 f31 f41 f51 gs1 F1 L81 qk1 qd1 m1 H locs ls hB1 hT1 hS1 hG1 hst ho hf9; exact False.elim (by obtain ⟨N, h1, h2⟩ := hf9; omega)
  | succ n9 ih2 =>
    intro cq t1 D1 g1 f21 f31 f41 f51 gs1 F1 L81 qk1 qd1 m1 H locs ls hB1 hT1 hS1 hG1 hst ho hf2 hP hD hS hl
    obtain ⟨N, hE, hN⟩ := hf2
    refine lv_iload_n hx hb dX12_raise_2 rfl (lv_at hl 2 rfl) ?_
    refine lv_iconst (v := (-1)) hx hb dX12_raise_3 (by decide) ?_
    refine lv_icmp_eq (tgt := 95) hx hb dX12_raise_4 (by decide) (fun c_4 => ?_) (fun c_4 => ?_)
    · have t_4 : (cq).toInt = -1 := toI_eq c_4 rfl (by decide)
      refine lv_iconst (v := 0) hx hb dX12_raise_95 (by decide) ?_
      refine lv_istore_n hx hb dX12_raise_96 rfl hl (by decide) rfl (fun ls (hl : lv_has ls _ ([(3, .int 0), (0, .ref h0), (1, .int (nI gn)), (2, .int cq)])) => ?_)
      have e9 : fT (fT (fT (fT (fT (fT vF 0 g1) 2 f21) 3 f31) 4 f41) 5 f51) 6 (vF 6) = fT (fT (fT (fT (fT vF 0 g1) 2 f21) 3 f31) 4 f41) 5 f51 := by funext q9; by_cases h9_0 : q9 = 0; (subst h9_0; exact ((fT_ne _ _ (Nat.ne_of_beq_eq_false rfl)).trans ((fT_ne _ _ (Nat.ne_of_beq_eq_false rfl)).trans ((fT_ne _ _ (Nat.ne_of_beq_eq_false rfl)).trans ((fT_ne _ _ (Nat.ne_of_beq_eq_false rfl)).trans ((fT_ne _ _ (Nat.ne_of_beq_eq_false rfl)).trans (fT_eq _ _ _)))))).trans (Eq.trans (by first | with_reducible rfl | with_reducible assumption | (symm; with_reducible assumption) | rfl | assumption | (symm; assumption) | (subst_vars; rfl)) ((fT_ne _ _ (Nat.ne_of_beq_eq_false rfl)).trans ((fT_ne _ _ (Nat.ne_of_beq_eq_false rfl)).trans ((fT_ne _ _ (Nat.ne_of_beq_eq_false rfl)).trans ((fT_ne _ _ (Nat.ne_of_beq_eq_false rfl)).trans (fT_eq _ _ _))))).symm)); by_cases h9_2 : q9 = 2; (subst h9_2; exact ((fT_ne _ _ (Nat.ne_of_beq_eq_false rfl)).trans ((fT_ne _ _ (Nat.ne_of_beq_eq_false rfl)).trans ((fT_ne _ _ (Nat.ne_of_beq_eq_false rfl)).trans ((fT_ne _ _ (Nat.ne_of_beq_eq_false rfl)).trans (fT_eq _ _ _))))).trans (Eq.trans (by first | with_reducible rfl | with_reducible assumption | (symm; with_reducible assumption) | rfl | assumption | (symm; assumption) | (subst_vars; rfl)) ((fT_ne _ _ (Nat.ne_of_beq_eq_false rfl)).trans ((fT_ne _ _ (Nat.ne_of_beq_eq_false rfl)).trans ((fT_ne _ _ (Nat.ne_of_beq_eq_false rfl)).trans (fT_eq _ _ _)))).symm)); by_cases h9_3 : q9 = 3; (subst h9_3; exact ((fT_ne _ _ (Nat.ne_of_beq_eq_false rfl)).trans ((fT_ne _ _ (Nat.ne_of_beq_eq_false rfl)).trans ((fT_ne _ _ (Nat.ne_of_beq_eq_false rfl)).trans (fT_eq _ _ _)))).trans (Eq.trans (by first | with_reducible rfl | with_reducible assumption | (symm; with_reducible assumption) | rfl | assumption | (symm; assumption) | (subst_vars; rfl)) ((fT_ne _ _ (Nat.ne_of_beq_eq_false rfl)).trans ((fT_ne _ _ (Nat.ne_of_beq_eq_false rfl)).trans (fT_eq _ _ _))).symm)); by_cases h9_4 : q9 = 4; (subst h9_4; exact ((fT_ne _ _ (Nat.ne_of_beq_eq_false rfl)).trans ((fT_ne _ _ (Nat.ne_of_beq_eq_false rfl)).trans (fT_eq _ _ _))).trans (Eq.trans (by first | with_reducible rfl | with_reducible assumption | (symm; with_reducible assumption) | rfl | assumption | (symm; assumption) | (subst_vars; rfl)) ((fT_ne _ _ (Nat.ne_of_beq_eq_false rfl)).trans (fT_eq _ _ _)).symm)); by_cases h9_5 : q9 = 5; (subst h9_5; exact ((fT_ne _ _ (Nat.ne_of_beq_eq_false rfl)).trans (fT_eq _ _ _)).trans (Eq.trans (by first | with_reducible rfl | with_reducible assumption | (symm; with_reducible assumption) | rfl | assumption | (symm; assumption) | (subst_vars; rfl)) (fT_eq _ _ _).symm)); by_cases h9_6 : q9 = 6; (subst h9_6; exact (fT_eq _ _ _).trans (Eq.trans (by first | with_reducible rfl | with_reducible assumption | (symm; with_reducible assumption) | rfl | assumption | (symm; assumption) | (subst_vars; rfl)) ((fT_ne _ _ (Nat.ne_of_beq_eq_false rfl)).trans ((fT_ne _ _ (Nat.ne_of_beq_eq_false rfl)).trans ((fT_ne _ _ (Nat.ne_of_beq_eq_false rfl)).trans ((fT_ne _ _ (Nat.ne_of_beq_eq_false rfl)).trans (fT_ne _ _ (Nat.ne_of_beq_eq_false rfl)))))).symm)); exact ((fT_ne _ _ h9_6).trans ((fT_ne _ _ h9_5).trans ((fT_ne _ _ h9_4).trans ((fT_ne _ _ h9_3).trans ((fT_ne _ _ h9_2).trans (fT_ne _ _ h9_0)))))).trans ((fT_ne _ _ h9_5).trans ((fT_ne _ _ h9_4).trans ((fT_ne _ _ h9_3).trans ((fT_ne _ _ h9_2).trans (fT_ne _ _ h9_0))))).symm
      have hP : va_P (dC, dI) vwCl (WR a k h0 (fT vi 11 qk1) (fT vj 12 qd1) (fT (fT (fT (fT (fT (fT vF 0 g1) 2 f21) 3 f31) 4 f41) 5 f51) 6 (vF 6)) (fT (fT (fT vG 1 gs1) 7 F1) 8 L81)) H := by rw [e9]; exact hP
      have hD : va_D A (WR a k h0 (fT vi 11 qk1) (fT vj 12 qd1) (fT (fT (fT (fT (fT (fT vF 0 g1) 2 f21) 3 f31) 4 f41) 5 f51) 6 (vF 6)) (fT (fT (fT vG 1 gs1) 7 F1) 8 L81)) := by rw [e9]; exact hD
      clear e9
      have hl : lv_has _ _ ([(0, .ref h0), (1, .int (nI gn)), (3, .int (nI 0))]) := lv_sub hl [1, 2, 0] rfl
      refine (fun (loop : ∀ (n9 : Nat) (k6 : Nat) (f61 : Nat → Int32) (H : Heap) (locs : List Loc) (ls : Array Slot), (k6 ≤ C) →  (C < k6 + n9) → va_P (dC, dI) vwCl (WR a k h0 (fT vi 11 qk1) (fT vj 12 qd1) (fT (fT (fT (fT (fT (fT vF 0 g1) 2 f21) 3 f31) 4 f41) 5 f51) 6 f61) (fT (fT (fT vG 1 gs1) 7 F1) 8 L81)) H → va_D A (WR a k h0 (fT vi 11 qk1) (fT vj 12 qd1) (fT (fT (fT (fT (fT (fT vF 0 g1) 2 f21) 3 f31) 4 f41) 5 f51) 6 f61) (fT (fT (fT vG 1 gs1) 7 F1) 8 L81)) → va_S A s.heap H locs → lv_has ls 4 [(0, .ref h0), (1, .int (nI gn)), (3, .int (nI k6))] → W p l e _ s m _ below meth c H locs 0 0 _ (F0 m 97 ls [])) => loop (C + 1) 0 (vF 6) _ _ _ (by omega) (by omega) hP hD hS hl) ?_
      intro n9
      induction n9 with
      | zero => intro k6 f61 H locs ls hk6 hf9; exact False.elim (by omega)
      | succ n9 ih97_1 =>
        intro k6 f61 H locs ls hk6 hf97_1 hP hD hS hl
        refine lv_iload_n hx hb dX12_raise_97 rfl (lv_at hl 2 rfl) ?_
        refine lv_aload_n hx hb dX12_raise_98 rfl (lv_at hl 0 rfl) ?_
        refine va_get (D := (dC, dI)) (ci := 12) (v := .int (vi 5)) (C := RX12) (T := TX12) (N := 163) (fs := fM (vS a (fT vi 11 qk1) (fT vj 12 qd1))) hx hb hts iwsRX12_raise_in12 hown hK hP 0 rfl rfl 5 (by decide) (hts (.fieldLink RX12 396 "OptimaWorksModel" "columns" "I") (by decide +kernel)) (fun _ h9 => h9) rfl dX12_raise_99 ?_
        refine lv_topi (fun y1 hy1 => ?_)
        obtain rfl : (nI C) = y1 := (hy1.trans (hC)).symm
        refine lv_icmp_ge (tgt := 140) hx hb dX12_raise_102 (by decide) (fun c_102 => ?_) (fun c_102 => ?_)
        · have t_102 : ((k6 : Nat) : Int) ≥ ((C : Nat) : Int) := toI_ge c_102 (nI_toInt (by omega)) (nI_toInt (by omega))
          refine lv_iconst (v := 1) hx hb dX12_raise_140 (by decide) ?_
          refine W.widen (k := 0) (n := 0) (by decide +kernel) (by decide +kernel) ?_
          exact W.zret (v := 1) hx hb hr rfl (fun t9_ ht hW => ⟨⟨1, (g1, f21, f31, f41, f51, f61, gs1, F1, L81, qk1, qd1, m1, t1, D1), rfl, by (try dsimp only); exact ⟨hB1, hT1, hS1, hG1, ho, Or.inr rfl⟩, by rw [ht]; exact hP, hD⟩, hS.F ht⟩) hS.2.2 dX12_raise_141
        · have t_102 : ¬ ((k6 : Nat) : Int) ≥ ((C : Nat) : Int) := toI_nge c_102 (nI_toInt (by omega)) (nI_toInt (by omega))
          refine lv_aload_n hx hb dX12_raise_105 rfl (lv_at hl 0 rfl) ?_
          refine va_get (D := (dC, dI)) (ci := 12) (v := .ref (a 6)) (C := RX12) (T := TX12) (N := 163) (fs := fM (vS a (fT vi 11 qk1) (fT vj 12 qd1))) hx hb hts iwsRX12_raise_in12 hown hK hP 0 rfl rfl 10 (by decide) (hts (.fieldLink RX12 29 "OptimaWorksModel" "still" "[Z") (by decide +kernel)) (fun _ h9 => h9) rfl dX12_raise_106 ?_
          refine lv_iload_n hx hb dX12_raise_109 rfl (lv_at hl 2 rfl) ?_
          refine lv_aload_n hx hb dX12_raise_110 rfl (lv_at hl 0 rfl) ?_
          refine va_get (D := (dC, dI)) (ci := 12) (v := .ref (a 6)) (C := RX12) (T := TX12) (N := 163) (fs := fM (vS a (fT vi 11 qk1) (fT vj 12 qd1))) hx hb hts iwsRX12_raise_in12 hown hK hP 0 rfl rfl 10 (by decide) (hts (.fieldLink RX12 29 "OptimaWorksModel" "still" "[Z") (by decide +kernel)) (fun _ h9 => h9) rfl dX12_raise_111 ?_
          refine lv_iload_n hx hb dX12_raise_114 rfl (lv_at hl 2 rfl) ?_
          refine va_zald (cA := k 6) (n := 46) (f := f61) hx hb hK hP 7 6 (WR_get 6 (by decide)) (TR_get 6 (by decide)) (vp_in_nI (show k6 < 46 by omega) (by omega)) dX12_raise_115 ?_
          refine lv_topi (fun y2 hy2 => ?_)
          obtain rfl : (f61 k6) = y2 := (hy2.trans (by rw [nI_clamp (by omega)])).symm
          refine lv_if_ne (tgt := 128) hx hb dX12_raise_116 (by decide) (fun c_116 => ?_) (fun c_116 => ?_)
          · have t_116 : ((f61 k6)).toInt ≠ 0 := toI_ne c_116 rfl (by decide)
            refine lv_iconst (v := 1) hx hb dX12_raise_128 (by decide) ?_
            refine lv_goto (tgt := 133) hx hb dX12_raise_129 (by decide) ?_
            refine va_zast (cA := k 6) (n := 46) (f := f61) hx hb hK hP hD hS 7 6 (WR_get 6 (by decide)) (TR_get 6 (by decide)) (vp_in_nI (show k6 < 46 by omega) (by omega)) dX12_raise_133 (fun H locs hP hD hS => ?_)
            have e9 : fT (fT (fT (fT (fT (fT vF 0 g1) 2 f21) 3 f31) 4 f41) 5 f51) 6 (upd f61 ((nI k6)).toNatClampNeg (vp_nar FieldType.boolean 1)) = fT (fT (fT (fT (fT (fT (fT vF 0 g1) 2 f21) 3 f31) 4 f41) 5 f51) 6 f61) 6 (upd f61 ((nI k6)).toNatClampNeg (vp_nar FieldType.boolean 1)) := (fT_sm _ _ _ _).symm
            have hP : va_P (dC, dI) vwCl (WR a k h0 (fT vi 11 qk1) (fT vj 12 qd1) (fT (fT (fT (fT (fT (fT vF 0 g1) 2 f21) 3 f31) 4 f41) 5 f51) 6 (upd f61 ((nI k6)).toNatClampNeg (vp_nar FieldType.boolean 1))) (fT (fT (fT vG 1 gs1) 7 F1) 8 L81)) H := by rw [e9, ← WR_F 6 (by decide) _ rfl]; exact hP
            have hD : va_D A (WR a k h0 (fT vi 11 qk1) (fT vj 12 qd1) (fT (fT (fT (fT (fT (fT vF 0 g1) 2 f21) 3 f31) 4 f41) 5 f51) 6 (upd f61 ((nI k6)).toNatClampNeg (vp_nar FieldType.boolean 1))) (fT (fT (fT vG 1 gs1) 7 F1) 8 L81)) := by rw [e9, ← WR_F 6 (by decide) _ rfl]; exact hD
            clear e9
            refine lv_iinc (v := (nI (k6 + 1))) hx hb dX12_raise_134 hl (k := 2) rfl (nI_add k6 1) (by decide) rfl (fun ls (hl : lv_has ls _ ([(3, .int (nI (k6 + 1))), (0, .ref h0), (1, .int (nI gn))])) => ?_)
            refine lv_goto (tgt := 97) hx hb dX12_raise_137 (by decide) ?_
            have hl : lv_has _ _ ([(0, .ref h0), (1, .int (nI gn)), (3, .int (nI (k6 + 1)))]) := lv_sub hl [1, 2, 0] rfl
            exact ih97_1 (k6 + 1) (upd f61 ((nI k6)).toNatClampNeg (vp_nar FieldType.boolean 1)) _ _ _ (by omega) (by omega) hP hD hS hl
          · have t_116 : ((f61 k6)).toInt = 0 := toI_nne c_116 rfl (by decide)
            refine lv_aload_n hx hb dX12_raise_119 rfl (lv_at hl 0 rfl) ?_
            refine lv_iload_n hx hb dX12_raise_120 rfl (lv_at hl 1 rfl) ?_
            refine lv_iload_n hx hb dX12_raise_121 rfl (lv_at hl 2 rfl) ?_
            have hFc := allFree hD hS hA
            refine va_calli (va_runV (As := [.int (nI gn), .int (nI k6)]) (rest := [.int (nI k6), .ref (a 6)]) ⟨hx, hb, hml, hown, hts⟩ (r_X12_signAt l dC dI a k h0 (fT vi 11 qk1) (fT vj 12 qd1) (fT (fT (fT (fT (fT (fT vF 0 g1) 2 f21) 3 f31) 4 f41) 5 f51) 6 f61) (fT (fT (fT vG 1 gs1) 7 F1) 8 L81) gn k6 C (R + Gq) t1 D1 m1 hB1 (by first | with_reducible assumption | decide | omega | rfl | assumption) (hT1) (by first | with_reducible assumption | decide | omega | rfl | assumption) (by first | with_reducible assumption | decide | omega | rfl | assumption) (by first | with_reducible assumption | decide | omega | rfl | assumption) (by first | with_reducible assumption | decide | omega | rfl | assumption) (by first | with_reducible assumption | decide | omega | rfl | assumption) H.size) (cwV 2 hts gwsRX12_raise_0 rfl rfl rfl hd_yX12_signAt_RX12 (by decide +kernel)) (fz_pre (va_recv hK hP (ci := 12) (q0 := 0) rfl rfl) hP hK hD) rfl rfl hl.1 rfl (lv_room (Nat.le_of_ble_eq_true rfl)) dX12_raise_122 (by decide +kernel)) hS (fun q _ h => hFc q h) hFc (fun r122 u t9_ H locs ht hvm hw9 hB9 hz1 hk1 hS => ?_)
            have hP : va_P (dC, dI) vwCl (WR a k h0 (fT vi 11 qk1) (fT vj 12 qd1) (fT (fT (fT (fT (fT (fT vF 0 g1) 2 f21) 3 f31) 4 f41) 5 f51) 6 f61) (fT (fT (fT vG 1 gs1) 7 F1) 8 L81)) H := fz_P ht hB9.1
            have hD : va_D A (WR a k h0 (fT vi 11 qk1) (fT vj 12 qd1) (fT (fT (fT (fT (fT (fT vF 0 g1) 2 f21) 3 f31) 4 f41) 5 f51) 6 f61) (fT (fT (fT vG 1 gs1) 7 F1) 8 L81)) := hB9.2.weaken (fun _ q _ h => hFc q.1 h)
            have f122_0 := hw9
            try dsimp only at f122_0
            refine lv_if_le (tgt := 132) hx hb dX12_raise_125 (by decide) (fun c_125 => ?_) (fun c_125 => ?_)
            · have t_125 : (r122).toInt ≤ 0 := toI_le c_125 rfl (by decide)
              refine lv_iconst (v := 0) hx hb dX12_raise_132 (by decide) ?_
              refine va_zast (cA := k 6) (n := 46) (f := f61) hx hb hK hP hD hS 7 6 (WR_get 6 (by decide)) (TR_get 6 (by decide)) (vp_in_nI (show k6 < 46 by omega) (by omega)) dX12_raise_133 (fun H locs hP hD hS => ?_)
              have e9 : fT (fT (fT (fT (fT (fT vF 0 g1) 2 f21) 3 f31) 4 f41) 5 f51) 6 (upd f61 ((nI k6)).toNatClampNeg (vp_nar FieldType.boolean 0)) = fT (fT (fT (fT (fT (fT (fT vF 0 g1) 2 f21) 3 f31) 4 f41) 5 f51) 6 f61) 6 (upd f61 ((nI k6)).toNatClampNeg (vp_nar FieldType.boolean 0)) := (fT_sm _ _ _ _).symm
              have hP : va_P (dC, dI) vwCl (WR a k h0 (fT vi 11 qk1) (fT vj 12 qd1) (fT (fT (fT (fT (fT (fT vF 0 g1) 2 f21) 3 f31) 4 f41) 5 f51) 6 (upd f61 ((nI k6)).toNatClampNeg (vp_nar FieldType.boolean 0))) (fT (fT (fT vG 1 gs1) 7 F1) 8 L81)) H := by rw [e9, ← WR_F 6 (by decide) _ rfl]; exact hP
              have hD : va_D A (WR a k h0 (fT vi 11 qk1) (fT vj 12 qd1) (fT (fT (fT (fT (fT (fT vF 0 g1) 2 f21) 3 f31) 4 f41) 5 f51) 6 (upd f61 ((nI k6)).toNatClampNeg (vp_nar FieldType.boolean 0))) (fT (fT (fT vG 1 gs1) 7 F1) 8 L81)) := by rw [e9, ← WR_F 6 (by decide) _ rfl]; exact hD
              clear e9
              refine lv_iinc (v := (nI (k6 + 1))) hx hb dX12_raise_134 hl (k := 2) rfl (nI_add k6 1) (by decide) rfl (fun ls (hl : lv_has ls _ ([(3, .int (nI (k6 + 1))), (0, .ref h0), (1, .int (nI gn))])) => ?_)
              refine lv_goto (tgt := 97) hx hb dX12_raise_137 (by decide) ?_
              have hl : lv_has _ _ ([(0, .ref h0), (1, .int (nI gn)), (3, .int (nI (k6 + 1)))]) := lv_sub hl [1, 2, 0] rfl
              exact ih97_1 (k6 + 1) (upd f61 ((nI k6)).toNatClampNeg (vp_nar FieldType.boolean 0)) _ _ _ (by omega) (by omega) hP hD hS hl
            · have t_125 : ¬ (r122).toInt ≤ 0 := toI_nle c_125 rfl (by decide)
              refine lv_iconst (v := 1) hx hb dX12_raise_128 (by decide) ?_
              refine lv_goto (tgt := 133) hx hb dX12_raise_129 (by decide) ?_
              refine va_zast (cA := k 6) (n := 46) (f := f61) hx hb hK hP hD hS 7 6 (WR_get 6 (by decide)) (TR_get 6 (by decide)) (vp_in_nI (show k6 < 46 by omega) (by omega)) dX12_raise_133 (fun H locs hP hD hS => ?_)
              have e9 : fT (fT (fT (fT (fT (fT vF 0 g1) 2 f21) 3 f31) 4 f41) 5 f51) 6 (upd f61 ((nI k6)).toNatClampNeg (vp_nar FieldType.boolean 1)) = fT (fT (fT (fT (fT (fT (fT vF 0 g1) 2 f21) 3 f31) 4 f41) 5 f51) 6 f61) 6 (upd f61 ((nI k6)).toNatClampNeg (vp_nar FieldType.boolean 1)) := (fT_sm _ _ _ _).symm
              have hP : va_P (dC, dI) vwCl (WR a k h0 (fT vi 11 qk1) (fT vj 12 qd1) (fT (fT (fT (fT (fT (fT vF 0 g1) 2 f21) 3 f31) 4 f41) 5 f51) 6 (upd f61 ((nI k6)).toNatClampNeg (vp_nar FieldType.boolean 1))) (fT (fT (fT vG 1 gs1) 7 F1) 8 L81)) H := by rw [e9, ← WR_F 6 (by decide) _ rfl]; exact hP
              have hD : va_D A (WR a k h0 (fT vi 11 qk1) (fT vj 12 qd1) (fT (fT (fT (fT (fT (fT vF 0 g1) 2 f21) 3 f31) 4 f41) 5 f51) 6 (upd f61 ((nI k6)).toNatClampNeg (vp_nar FieldType.boolean 1))) (fT (fT (fT vG 1 gs1) 7 F1) 8 L81)) := by rw [e9, ← WR_F 6 (by decide) _ rfl]; exact hD
              clear e9
              refine lv_iinc (v := (nI (k6 + 1))) hx hb dX12_raise_134 hl (k := 2) rfl (nI_add k6 1) (by decide) rfl (fun ls (hl : lv_has ls _ ([(3, .int (nI (k6 + 1))), (0, .ref h0), (1, .int (nI gn))])) => ?_)
              refine lv_goto (tgt := 97) hx hb dX12_raise_137 (by decide) ?_
              have hl : lv_has _ _ ([(0, .ref h0), (1, .int (nI gn)), (3, .int (nI (k6 + 1)))]) := lv_sub hl [1, 2, 0] rfl
              exact ih97_1 (k6 + 1) (upd f61 ((nI k6)).toNatClampNeg (vp_nar FieldType.boolean 1)) _ _ _ (by omega) (by omega) hP hD hS hl
    · have t_4 : ¬ (cq).toInt = -1 := toI_neq c_4 rfl (by decide)
      refine lv_iconst (v := (-1)) hx hb dX12_raise_7 (by decide) ?_
      refine lv_istore_n hx hb dX12_raise_8 rfl hl (by decide) rfl (fun ls (hl : lv_has ls _ ([(2, .int (-1)), (0, .ref h0), (1, .int (nI gn))])) => ?_)
      refine lv_iconst (v := 0) hx hb dX12_raise_9 (by decide) ?_
      refine lv_istore_n hx hb dX12_raise_10 rfl hl (by decide) rfl (fun ls (hl : lv_has ls _ ([(3, .int 0), (2, .int (-1)), (0, .ref h0), (1, .int (nI gn))])) => ?_)
      have hl : lv_has _ _ ([(0, .ref h0), (1, .int (nI gn)), (2, .int (-1)), (3, .int (nI 0))]) := lv_sub hl [2, 3, 1, 0] rfl
      refine (fun (loop : ∀ (n9 : Nat) (k5 : Nat) (cq2 : Int32) (cb : Nat) (H : Heap) (locs : List Loc) (ls : Array Slot), (k5 ≤ C) → ((cq2 = -1 ∧ ∀ k2, k2 < k5 → vF 6 k2 = 0 → 0 ≤ t1 gn k2) ∨ (cq2 = nI cb ∧ cb < k5 ∧ vF 6 cb = 0 ∧ t1 gn cb < 0 ∧ ∀ k2, k2 < k5 → vF 6 k2 = 0 → t1 gn k2 < 0 → (f41 cb).toNatClampNeg ≤ (f41 k2).toNatClampNeg)) →  (C < k5 + n9) → va_P (dC, dI) vwCl (WR a k h0 (fT vi 11 qk1) (fT vj 12 qd1) (fT (fT (fT (fT (fT vF 0 g1) 2 f21) 3 f31) 4 f41) 5 f51) (fT (fT (fT vG 1 gs1) 7 F1) 8 L81)) H → va_D A (WR a k h0 (fT vi 11 qk1) (fT vj 12 qd1) (fT (fT (fT (fT (fT vF 0 g1) 2 f21) 3 f31) 4 f41) 5 f51) (fT (fT (fT vG 1 gs1) 7 F1) 8 L81)) → va_S A s.heap H locs → lv_has ls 4 [(0, .ref h0), (1, .int (nI gn)), (2, .int cq2), (3, .int (nI k5))] → W p l e _ s m _ below meth c H locs 0 0 _ (F0 m 11 ls [])) => loop (C + 1) 0 (-1) 0 _ _ _ (by omega) (Or.inl ⟨rfl, fun k2 h2 => absurd h2 (by omega)⟩) (by omega) hP hD hS hl) ?_
      intro n9
      induction n9 with
      | zero => intro k5 cq2 cb H locs ls hk5 hc hf9; exact False.elim (by omega)
      | succ n9 ih11_2 =>
        intro k5 cq2 cb H locs ls hk5 hc hf11_2 hP hD hS hl
        refine lv_iload_n hx hb dX12_raise_11 rfl (lv_at hl 3 rfl) ?_
        refine lv_aload_n hx hb dX12_raise_12 rfl (lv_at hl 0 rfl) ?_
        refine va_get (D := (dC, dI)) (ci := 12) (v := .int (vi 5)) (C := RX12) (T := TX12) (N := 163) (fs := fM (vS a (fT vi 11 qk1) (fT vj 12 qd1))) hx hb hts iwsRX12_raise_in12 hown hK hP 0 rfl rfl 5 (by decide) (hts (.fieldLink RX12 396 "OptimaWorksModel" "columns" "I") (by decide +kernel)) (fun _ h9 => h9) rfl dX12_raise_13 ?_
        refine lv_topi (fun y3 hy3 => ?_)
        obtain rfl : (nI C) = y3 := (hy3.trans (hC)).symm
        refine lv_icmp_ge (tgt := 65) hx hb dX12_raise_16 (by decide) (fun c_16 => ?_) (fun c_16 => ?_)
        · have t_16 : ((k5 : Nat) : Int) ≥ ((C : Nat) : Int) := toI_ge c_16 (nI_toInt (by omega)) (nI_toInt (by omega))
          refine lv_iload_n hx hb dX12_raise_65 rfl (lv_at hl 2 rfl) ?_
          refine lv_iconst (v := (-1)) hx hb dX12_raise_66 (by decide) ?_
          refine lv_icmp_ne (tgt := 73) hx hb dX12_raise_67 (by decide) (fun c_67 => ?_) (fun c_67 => ?_)
          · have t_67 : (cq2).toInt ≠ -1 := toI_ne c_67 rfl (by decide)
            have ek5 : k5 = C := by omega
            obtain ⟨h1c, h2c, h3c, h4c, h5c⟩ := hc.resolve_left (fun h => c_67 h.1)
            subst h1c
            refine lv_aload_n hx hb dX12_raise_73 rfl (lv_at hl 0 rfl) ?_
            refine lv_iload_n hx hb dX12_raise_74 rfl (lv_at hl 2 rfl) ?_
            have hFc := allFree hD hS hA
            refine va_calli (va_runV (As := [.int (nI cb)]) (rest := []) ⟨hx, hb, hml, hown, hts⟩ (r_X12_leaving l dC dI a k h0 (fT vi 11 qk1) (fT vj 12 qd1) (fT (fT (fT (fT (fT vF 0 g1) 2 f21) 3 f31) 4 f41) 5 f51) (fT (fT (fT vG 1 gs1) 7 F1) 8 L81) cb (fun i => (f51 i).toNatClampNeg) C R Gq t1 D1 m1 hB1 (by first | with_reducible assumption | decide | omega | rfl | assumption) (by first | with_reducible assumption | decide | omega | rfl | assumption) (by first | with_reducible assumption | decide | omega | rfl | assumption) (by first | with_reducible assumption | decide | omega | rfl | assumption) (by first | with_reducible assumption | decide | omega | rfl | assumption) (by first | with_reducible assumption | decide | omega | rfl | assumption) (hT1) (by first | with_reducible assumption | decide | omega | rfl | assumption) ((hsm _ _ _ _ hS1.1).2) (fun i hi => ⟨by have h9 := (hS1.r5 (by omega) (by omega) hi).2; show (f51 i).toNatClampNeg < 200; omega, (hS1.r5 (by omega) (by omega) hi).1⟩) H.size) (cwV 1 hts gwsRX12_raise_1 rfl rfl rfl hd_yX12_leaving_RX12 (by decide +kernel)) (fz_pre (va_recv hK hP (ci := 12) (q0 := 0) rfl rfl) hP hK hD) rfl rfl hl.1 rfl (lv_room (Nat.le_of_ble_eq_true rfl)) dX12_raise_75 (by decide +kernel)) hS (fun q _ h => hFc q h) hFc (fun r75 u t9_ H locs ht hvm hw9 hB9 hz1 hk1 hS => ?_)
            revert u
            refine fz_p4 ?_
            intro g75 gs75 m275 b75 hw9 hB9
            try dsimp only at hw9 hB9
            have hP : va_P (dC, dI) vwCl (WR a k h0 (fT vi 11 qk1) (fT vj 12 qd1) (fT (fT (fT (fT (fT (fT vF 0 g1) 2 f21) 3 f31) 4 f41) 5 f51) 0 g75) (fT (fT (fT (fT vG 1 gs1) 7 F1) 8 L81) 1 gs75)) H := fz_P ht hB9.1
            have hD : va_D A (WR a k h0 (fT vi 11 qk1) (fT vj 12 qd1) (fT (fT (fT (fT (fT (fT vF 0 g1) 2 f21) 3 f31) 4 f41) 5 f51) 0 g75) (fT (fT (fT (fT vG 1 gs1) 7 F1) 8 L81) 1 gs75)) := hB9.2.weaken (fun _ q _ h => hFc q.1 h)
            have e9 : fT (fT (fT (fT (fT vF 0 g75) 2 f21) 3 f31) 4 f41) 5 f51 = fT (fT (fT (fT (fT (fT vF 0 g1) 2 f21) 3 f31) 4 f41) 5 f51) 0 g75 := ((fT_sw _ _ _ (Nat.ne_of_beq_eq_false rfl)).trans (congrArg (fun g9 => fT g9 5 f51) ((fT_sw _ _ _ (Nat.ne_of_beq_eq_false rfl)).trans (congrArg (fun g9 => fT g9 4 f41) ((fT_sw _ _ _ (Nat.ne_of_beq_eq_false rfl)).trans (congrArg (fun g9 => fT g9 3 f31) ((fT_sw _ _ _ (Nat.ne_of_beq_eq_false rfl)).trans (congrArg (fun g9 => fT g9 2 f21) (fT_sm _ _ _ _))))))))).symm
            rw [← e9] at hP hD
            clear e9
            have e9 : fT (fT (fT vG 1 gs75) 7 F1) 8 L81 = fT (fT (fT (fT vG 1 gs1) 7 F1) 8 L81) 1 gs75 := ((fT_sw _ _ _ (Nat.ne_of_beq_eq_false rfl)).trans (congrArg (fun g9 => fT g9 8 L81) ((fT_sw _ _ _ (Nat.ne_of_beq_eq_false rfl)).trans (congrArg (fun g9 => fT g9 7 F1) (fT_sm _ _ _ _))))).symm
            rw [← e9] at hP hD
            clear e9
            have hP : va_P (dC, dI) vwCl (WR a k h0 (fT vi 11 qk1) (fT vj 12 qd1) (fT (fT (fT (fT (fT vF 0 g75) 2 f21) 3 f31) 4 f41) 5 f51) (fT (fT (fT vG 1 gs75) 7 F1) 8 L81)) H := hP
            have hD : va_D A (WR a k h0 (fT vi 11 qk1) (fT vj 12 qd1) (fT (fT (fT (fT (fT vF 0 g75) 2 f21) 3 f31) 4 f41) 5 f51) (fT (fT (fT vG 1 gs75) 7 F1) 8 L81)) := hD
            rcases hw9 with ⟨rfl, f75_0, f75_1, f75_2⟩ | ⟨rfl, f75_0, f75_1, f75_2, f75_3⟩
            · refine lv_istore_n hx hb dX12_raise_78 rfl hl (by decide) rfl (fun ls (hl : lv_has ls _ ([(3, .int (-1)), (0, .ref h0), (1, .int (nI gn)), (2, .int (nI cb))])) => ?_)
              refine lv_iload_n hx hb dX12_raise_79 rfl (lv_at hl 0 rfl) ?_
              refine lv_iconst (v := (-1)) hx hb dX12_raise_80 (by decide) ?_
              refine lv_icmp_ne (tgt := 86) hx hb dX12_raise_81 (by decide) (fun c9 => absurd c9 (by decide)) (fun _ => ?_)
              refine lv_iconst (v := 0) hx hb dX12_raise_84 (by decide) ?_
              refine W.widen (k := 0) (n := 0) (by decide +kernel) (by decide +kernel) ?_
              have e9 : fT (fT (fT (fT (fT (fT vF 0 g75) 2 f21) 3 f31) 4 f41) 5 f51) 6 (vF 6) = fT (fT (fT (fT (fT vF 0 g75) 2 f21) 3 f31) 4 f41) 5 f51 := fT_id _ _ ((fT_ne _ _ (Nat.ne_of_beq_eq_false rfl)).trans ((fT_ne _ _ (Nat.ne_of_beq_eq_false rfl)).trans ((fT_ne _ _ (Nat.ne_of_beq_eq_false rfl)).trans ((fT_ne _ _ (Nat.ne_of_beq_eq_false rfl)).trans (fT_ne _ _ (Nat.ne_of_beq_eq_false rfl))))))
              have hP : va_P (dC, dI) vwCl (WR a k h0 (fT vi 11 qk1) (fT vj 12 qd1) (fT (fT (fT (fT (fT (fT vF 0 g75) 2 f21) 3 f31) 4 f41) 5 f51) 6 (vF 6)) (fT (fT (fT vG 1 gs75) 7 F1) 8 L81)) H := by rw [e9]; exact hP
              have hD : va_D A (WR a k h0 (fT vi 11 qk1) (fT vj 12 qd1) (fT (fT (fT (fT (fT (fT vF 0 g75) 2 f21) 3 f31) 4 f41) 5 f51) 6 (vF 6)) (fT (fT (fT vG 1 gs75) 7 F1) 8 L81)) := by rw [e9]; exact hD
              clear e9
              exact W.zret (v := 0) hx hb hr rfl (fun t9_ ht hW => ⟨⟨0, (g75, f21, f31, f41, f51, (vF 6), gs75, F1, L81, qk1, qd1, m275, t1, D1), rfl, by (try dsimp only); exact ⟨f75_0, hT1.frame (fun p hp => f75_1 p (by omega) (by omega)), hS1, hG1, fun q hq => by (rw [f75_1 _ (by omega) (by omega)]); exact ho q hq, Or.inl rfl⟩, by rw [ht]; exact hP, hD⟩, hS.F ht⟩) hS.2.2 dX12_raise_85
            · refine lv_istore_n hx hb dX12_raise_78 rfl hl (by decide) rfl (fun ls (hl : lv_has ls _ ([(3, .int (nI b75)), (0, .ref h0), (1, .int (nI gn)), (2, .int (nI cb))])) => ?_)
              refine lv_iload_n hx hb dX12_raise_79 rfl (lv_at hl 0 rfl) ?_
              refine lv_iconst (v := (-1)) hx hb dX12_raise_80 (by decide) ?_
              refine lv_icmp_ne (tgt := 86) hx hb dX12_raise_81 (by decide) (fun c_81 => ?_) (fun c_81 => ?_)
              · have t_81 : ((b75 : Nat) : Int) ≠ -1 := toI_ne c_81 (nI_toInt (by omega)) (by decide)
                have hp9 : t1 b75 cb ≠ 0 := by have := (f75_3).1; omega
                refine lv_aload_n hx hb dX12_raise_86 rfl (lv_at hl 1 rfl) ?_
                refine lv_iload_n hx hb dX12_raise_87 rfl (lv_at hl 0 rfl) ?_
                refine lv_iload_n hx hb dX12_raise_88 rfl (lv_at hl 3 rfl) ?_
                have hFc := allFree hD hS hA
                refine va_callv (va_runV (As := [.int (nI b75), .int (nI cb)]) (rest := []) ⟨hx, hb, hml, hown, hts⟩ (r_X12_pivot l dC dI a k h0 (fT vi 11 qk1) (fT vj 12 qd1) (fT (fT (fT (fT (fT vF 0 g75) 2 f21) 3 f31) 4 f41) 5 f51) (fT (fT (fT vG 1 gs75) 7 F1) 8 L81) b75 cb C R Gq t1 D1 m275 f75_0 (by first | with_reducible assumption | decide | omega | rfl | assumption) (by first | with_reducible assumption | decide | omega | rfl | assumption) (by first | with_reducible assumption | decide | omega | rfl | assumption) (by first | with_reducible assumption | decide | omega | rfl | assumption) (by first | with_reducible assumption | decide | omega | rfl | assumption) (by first | with_reducible assumption | decide | omega | rfl | assumption) (hT1.frame (fun p hp => f75_1 p (by omega) (by omega))) (f75_2) (by first | with_reducible assumption | decide | omega | rfl | assumption) (hS1.1.2.1) (hp9) ((hsm _ _ _ _ hS1.1).2) H.size) (cwV 2 hts gwsRX12_raise_2 rfl rfl rfl hd_yX12_pivot_RX12 (by decide +kernel)) (fz_pre (va_recv hK hP (ci := 12) (q0 := 0) rfl rfl) hP hK hD) rfl rfl hl.1 rfl (lv_room (Nat.le_of_ble_eq_true rfl)) dX12_raise_89 (by decide +kernel)) hS (fun q _ h => hFc q h) hFc (fun u t9_ H locs ht hvm hw9 hB9 hz1 hk1 hS => ?_)
                revert u
                refine fz_p9 ?_
                intro g89 f2w89 f3w89 gs89 qk89 qd89 F89 L889 m289 hw9 hB9
                try dsimp only at hw9 hB9
                have hP : va_P (dC, dI) vwCl (WR a k h0 (fT (fT vi 11 qk1) 11 qk89) (fT (fT vj 12 qd1) 12 qd89) (fT (fT (fT (fT (fT (fT (fT (fT (fT (fT vF 0 g75) 2 f21) 3 f31) 4 f41) 5 f51) 0 g89) 2 f2w89) 3 f3w89) 4 (upd f41 (nI cb).toNatClampNeg (f51 b75))) 5 (upd f51 (nI b75).toNatClampNeg (f41 cb))) (fT (fT (fT (fT (fT (fT vG 1 gs75) 7 F1) 8 L81) 8 L889) 7 F89) 1 gs89)) H := fz_P ht hB9.1
                have hD : va_D A (WR a k h0 (fT (fT vi 11 qk1) 11 qk89) (fT (fT vj 12 qd1) 12 qd89) (fT (fT (fT (fT (fT (fT (fT (fT (fT (fT vF 0 g75) 2 f21) 3 f31) 4 f41) 5 f51) 0 g89) 2 f2w89) 3 f3w89) 4 (upd f41 (nI cb).toNatClampNeg (f51 b75))) 5 (upd f51 (nI b75).toNatClampNeg (f41 cb))) (fT (fT (fT (fT (fT (fT vG 1 gs75) 7 F1) 8 L81) 8 L889) 7 F89) 1 gs89)) := hB9.2.weaken (fun _ q _ h => hFc q.1 h)
                have e9 : fT vi 11 qk89 = fT (fT vi 11 qk1) 11 qk89 := (fT_sm _ _ _ _).symm
                rw [← e9] at hP hD
                clear e9
                have e9 : fT vj 12 qd89 = fT (fT vj 12 qd1) 12 qd89 := (fT_sm _ _ _ _).symm
                rw [← e9] at hP hD
                clear e9
                have e9 : fT (fT (fT (fT (fT vF 0 g89) 2 f2w89) 3 f3w89) 4 (upd f41 (nI cb).toNatClampNeg (f51 b75))) 5 (upd f51 (nI b75).toNatClampNeg (f41 cb)) = fT (fT (fT (fT (fT (fT (fT (fT (fT (fT vF 0 g75) 2 f21) 3 f31) 4 f41) 5 f51) 0 g89) 2 f2w89) 3 f3w89) 4 (upd f41 (nI cb).toNatClampNeg (f51 b75))) 5 (upd f51 (nI b75).toNatClampNeg (f41 cb)) := ((congrArg (fun g9 => fT (fT (fT (fT g9 2 f2w89) 3 f3w89) 4 (upd f41 (nI cb).toNatClampNeg (f51 b75))) 5 (upd f51 (nI b75).toNatClampNeg (f41 cb))) ((fT_sw _ _ _ (Nat.ne_of_beq_eq_false rfl)).trans (congrArg (fun g9 => fT g9 5 f51) ((fT_sw _ _ _ (Nat.ne_of_beq_eq_false rfl)).trans (congrArg (fun g9 => fT g9 4 f41) ((fT_sw _ _ _ (Nat.ne_of_beq_eq_false rfl)).trans (congrArg (fun g9 => fT g9 3 f31) ((fT_sw _ _ _ (Nat.ne_of_beq_eq_false rfl)).trans (congrArg (fun g9 => fT g9 2 f21) (fT_sm _ _ _ _)))))))))).trans ((congrArg (fun g9 => fT (fT (fT g9 3 f3w89) 4 (upd f41 (nI cb).toNatClampNeg (f51 b75))) 5 (upd f51 (nI b75).toNatClampNeg (f41 cb))) ((fT_sw _ _ _ (Nat.ne_of_beq_eq_false rfl)).trans (congrArg (fun g9 => fT g9 5 f51) ((fT_sw _ _ _ (Nat.ne_of_beq_eq_false rfl)).trans (congrArg (fun g9 => fT g9 4 f41) ((fT_sw _ _ _ (Nat.ne_of_beq_eq_false rfl)).trans (congrArg (fun g9 => fT g9 3 f31) (fT_sm _ _ _ _)))))))).trans ((congrArg (fun g9 => fT (fT g9 4 (upd f41 (nI cb).toNatClampNeg (f51 b75))) 5 (upd f51 (nI b75).toNatClampNeg (f41 cb))) ((fT_sw _ _ _ (Nat.ne_of_beq_eq_false rfl)).trans (congrArg (fun g9 => fT g9 5 f51) ((fT_sw _ _ _ (Nat.ne_of_beq_eq_false rfl)).trans (congrArg (fun g9 => fT g9 4 f41) (fT_sm _ _ _ _)))))).trans ((congrArg (fun g9 => fT g9 5 (upd f51 (nI b75).toNatClampNeg (f41 cb))) ((fT_sw _ _ _ (Nat.ne_of_beq_eq_false rfl)).trans (congrArg (fun g9 => fT g9 5 f51) (fT_sm _ _ _ _)))).trans (fT_sm _ _ _ _))))).symm
                rw [← e9] at hP hD
                clear e9
                have e9 : fT (fT (fT vG 1 gs89) 7 F89) 8 L889 = fT (fT (fT (fT (fT (fT vG 1 gs75) 7 F1) 8 L81) 8 L889) 7 F89) 1 gs89 := ((congrArg (fun g9 => fT (fT g9 7 F89) 1 gs89) (fT_sm _ _ _ _)).trans ((congrArg (fun g9 => fT g9 1 gs89) ((fT_sw _ _ _ (Nat.ne_of_beq_eq_false rfl)).trans (congrArg (fun g9 => fT g9 8 L889) (fT_sm _ _ _ _)))).trans ((fT_sw _ _ _ (Nat.ne_of_beq_eq_false rfl)).trans (congrArg (fun g9 => fT g9 8 L889) ((fT_sw _ _ _ (Nat.ne_of_beq_eq_false rfl)).trans (congrArg (fun g9 => fT g9 7 F89) (fT_sm _ _ _ _))))))).symm
                rw [← e9] at hP hD
                clear e9
                have hP : va_P (dC, dI) vwCl (WR a k h0 (fT vi 11 qk89) (fT vj 12 qd89) (fT (fT (fT (fT (fT vF 0 g89) 2 f2w89) 3 f3w89) 4 (upd f41 (nI cb).toNatClampNeg (f51 b75))) 5 (upd f51 (nI b75).toNatClampNeg (f41 cb))) (fT (fT (fT vG 1 gs89) 7 F89) 8 L889)) H := hP
                have hD : va_D A (WR a k h0 (fT vi 11 qk89) (fT vj 12 qd89) (fT (fT (fT (fT (fT vF 0 g89) 2 f2w89) 3 f3w89) 4 (upd f41 (nI cb).toNatClampNeg (f51 b75))) 5 (upd f51 (nI b75).toNatClampNeg (f41 cb))) (fT (fT (fT vG 1 gs89) 7 F89) 8 L889)) := hD
                revert hw9
                refine fz_a3 ?_
                intro f89_0 f89_1 f89_2
                obtain ⟨hS9, hG9, hst9, hE9⟩ := hS1.step hsm hRgn hgT (by omega) (by omega) hG1 hst (c := cb) (r := b75) (by omega) h3c h4c (fun k2 hk2 h6 hn => h5c k2 (by omega) h6 hn) f75_2 f75_3
                obtain ⟨N1, hN1, hE1⟩ := hE9 N hE
                have hN2 := hN.resolve_left (fun h => c_4 h.1)
                refine lv_goto (tgt := 2) hx hb dX12_raise_92 (by decide) ?_
                have hl : lv_has _ _ ([(0, .ref h0), (1, .int (nI gn)), (2, .int (nI cb))]) := lv_sub hl [1, 2, 3] rfl
                exact ih2 (nI cb) (nvT b75 cb (sgI (t1 b75 cb)) t1 D1) (sgI (t1 b75 cb) * t1 b75 cb) g89 f2w89 f3w89 (upd f41 (nI cb).toNatClampNeg (f51 b75)) (upd f51 (nI b75).toNatClampNeg (f41 cb)) gs89 F89 L889 qk89 qd89 m289 _ _ _ (f89_0) (f89_1) (hS9) (hG9) (hst9) (fun q hq => by (rw [f89_2 _ (by omega), f75_1 _ (by omega) (by omega)]); exact ho q hq) (⟨N1, hE1, Or.inr (by omega)⟩) hP hD hS hl
              · have t_81 : ((b75 : Nat) : Int) = -1 := toI_nne c_81 (nI_toInt (by omega)) (by decide)
                refine lv_iconst (v := 0) hx hb dX12_raise_84 (by decide) ?_
                refine W.widen (k := 0) (n := 0) (by decide +kernel) (by decide +kernel) ?_
                have e9 : fT (fT (fT (fT (fT (fT vF 0 g75) 2 f21) 3 f31) 4 f41) 5 f51) 6 (vF 6) = fT (fT (fT (fT (fT vF 0 g75) 2 f21) 3 f31) 4 f41) 5 f51 := fT_id _ _ ((fT_ne _ _ (Nat.ne_of_beq_eq_false rfl)).trans ((fT_ne _ _ (Nat.ne_of_beq_eq_false rfl)).trans ((fT_ne _ _ (Nat.ne_of_beq_eq_false rfl)).trans ((fT_ne _ _ (Nat.ne_of_beq_eq_false rfl)).trans (fT_ne _ _ (Nat.ne_of_beq_eq_false rfl))))))
                have hP : va_P (dC, dI) vwCl (WR a k h0 (fT vi 11 qk1) (fT vj 12 qd1) (fT (fT (fT (fT (fT (fT vF 0 g75) 2 f21) 3 f31) 4 f41) 5 f51) 6 (vF 6)) (fT (fT (fT vG 1 gs75) 7 F1) 8 L81)) H := by rw [e9]; exact hP
                have hD : va_D A (WR a k h0 (fT vi 11 qk1) (fT vj 12 qd1) (fT (fT (fT (fT (fT (fT vF 0 g75) 2 f21) 3 f31) 4 f41) 5 f51) 6 (vF 6)) (fT (fT (fT vG 1 gs75) 7 F1) 8 L81)) := by rw [e9]; exact hD
                clear e9
                exact W.zret (v := 0) hx hb hr rfl (fun t9_ ht hW => ⟨⟨0, (g75, f21, f31, f41, f51, (vF 6), gs75, F1, L81, qk1, qd1, m275, t1, D1), rfl, by (try dsimp only); exact ⟨f75_0, hT1.frame (fun p hp => f75_1 p (by omega) (by omega)), hS1, hG1, fun q hq => by (rw [f75_1 _ (by omega) (by omega)]); exact ho q hq, Or.inl rfl⟩, by rw [ht]; exact hP, hD⟩, hS.F ht⟩) hS.2.2 dX12_raise_85
          · have t_67 : (cq2).toInt = -1 := toI_nne c_67 rfl (by decide)
            have hN2 := hN.resolve_left (fun h => c_4 h.1)
            subst c_67
            refine lv_goto (tgt := 2) hx hb dX12_raise_70 (by decide) ?_
            have hl : lv_has _ _ ([(0, .ref h0), (1, .int (nI gn)), (2, .int (-1))]) := lv_sub hl [0, 1, 2] rfl
            exact ih2 (-1) t1 D1 g1 f21 f31 f41 f51 gs1 F1 L81 qk1 qd1 m1 _ _ _ (hB1) (hT1) (hS1) (hG1) (hst) (ho) (⟨N, hE, Or.inl ⟨rfl, by omega⟩⟩) hP hD hS hl
        · have t_16 : ¬ ((k5 : Nat) : Int) ≥ ((C : Nat) : Int) := toI_nge c_16 (nI_toInt (by omega)) (nI_toInt (by omega))
          refine lv_aload_n hx hb dX12_raise_19 rfl (lv_at hl 0 rfl) ?_
          refine va_get (D := (dC, dI)) (ci := 12) (v := .ref (a 6)) (C := RX12) (T := TX12) (N := 163) (fs := fM (vS a (fT vi 11 qk1) (fT vj 12 qd1))) hx hb hts iwsRX12_raise_in12 hown hK hP 0 rfl rfl 10 (by decide) (hts (.fieldLink RX12 29 "OptimaWorksModel" "still" "[Z") (by decide +kernel)) (fun _ h9 => h9) rfl dX12_raise_20 ?_
          refine lv_iload_n hx hb dX12_raise_23 rfl (lv_at hl 3 rfl) ?_
          refine va_zald (cA := k 6) (n := 46) (f := (vF 6)) hx hb hK hP 7 6 (WR_get 6 (by decide)) (TR_get 6 (by decide)) (vp_in_nI (show k5 < 46 by omega) (by omega)) dX12_raise_24 ?_
          refine lv_topi (fun y4 hy4 => ?_)
          obtain rfl : ((vF 6) k5) = y4 := (hy4.trans (by rw [nI_clamp (by omega)])).symm
          refine lv_if_ne (tgt := 59) hx hb dX12_raise_25 (by decide) (fun c_25 => ?_) (fun c_25 => ?_)
          · have t_25 : (((vF 6) k5)).toInt ≠ 0 := toI_ne c_25 rfl (by decide)
            refine lv_iinc (v := (nI (k5 + 1))) hx hb dX12_raise_59 hl (k := 3) rfl (nI_add k5 1) (by decide) rfl (fun ls (hl : lv_has ls _ ([(3, .int (nI (k5 + 1))), (0, .ref h0), (1, .int (nI gn)), (2, .int cq2)])) => ?_)
            refine lv_goto (tgt := 11) hx hb dX12_raise_62 (by decide) ?_
            have hl : lv_has _ _ ([(0, .ref h0), (1, .int (nI gn)), (2, .int cq2), (3, .int (nI (k5 + 1)))]) := lv_sub hl [1, 2, 3, 0] rfl
            exact ih11_2 (k5 + 1) cq2 cb _ _ _ (by omega) (by rcases hc with ⟨h1, h2⟩ | ⟨h1, h2, h3, h4, h5⟩; (exact Or.inl ⟨h1, fun k2 hk2 h6 => by by_cases e9 : k2 = k5; (exact absurd (by rw [← e9]; exact h6) c_25); (exact h2 k2 (by omega) h6)⟩); (exact Or.inr ⟨h1, by omega, h3, h4, fun k2 hk2 h6 hn => by by_cases e9 : k2 = k5; (exact absurd (by rw [← e9]; exact h6) c_25); (exact h5 k2 (by omega) h6 hn)⟩)) (by omega) hP hD hS hl
          · have t_25 : (((vF 6) k5)).toInt = 0 := toI_nne c_25 rfl (by decide)
            refine lv_aload_n hx hb dX12_raise_28 rfl (lv_at hl 0 rfl) ?_
            refine lv_iload_n hx hb dX12_raise_29 rfl (lv_at hl 1 rfl) ?_
            refine lv_iload_n hx hb dX12_raise_30 rfl (lv_at hl 3 rfl) ?_
            have hFc := allFree hD hS hA
            refine va_calli (va_runV (As := [.int (nI gn), .int (nI k5)]) (rest := []) ⟨hx, hb, hml, hown, hts⟩ (r_X12_signAt l dC dI a k h0 (fT vi 11 qk1) (fT vj 12 qd1) (fT (fT (fT (fT (fT vF 0 g1) 2 f21) 3 f31) 4 f41) 5 f51) (fT (fT (fT vG 1 gs1) 7 F1) 8 L81) gn k5 C (R + Gq) t1 D1 m1 hB1 (by first | with_reducible assumption | decide | omega | rfl | assumption) (hT1) (by first | with_reducible assumption | decide | omega | rfl | assumption) (by first | with_reducible assumption | decide | omega | rfl | assumption) (by first | with_reducible assumption | decide | omega | rfl | assumption) (by first | with_reducible assumption | decide | omega | rfl | assumption) (by first | with_reducible assumption | decide | omega | rfl | assumption) H.size) (cwV 2 hts gwsRX12_raise_0 rfl rfl rfl hd_yX12_signAt_RX12 (by decide +kernel)) (fz_pre (va_recv hK hP (ci := 12) (q0 := 0) rfl rfl) hP hK hD) rfl rfl hl.1 rfl (lv_room (Nat.le_of_ble_eq_true rfl)) dX12_raise_31 (by decide +kernel)) hS (fun q _ h => hFc q h) hFc (fun r31 u t9_ H locs ht hvm hw9 hB9 hz1 hk1 hS => ?_)
            have hP : va_P (dC, dI) vwCl (WR a k h0 (fT vi 11 qk1) (fT vj 12 qd1) (fT (fT (fT (fT (fT vF 0 g1) 2 f21) 3 f31) 4 f41) 5 f51) (fT (fT (fT vG 1 gs1) 7 F1) 8 L81)) H := fz_P ht hB9.1
            have hD : va_D A (WR a k h0 (fT vi 11 qk1) (fT vj 12 qd1) (fT (fT (fT (fT (fT vF 0 g1) 2 f21) 3 f31) 4 f41) 5 f51) (fT (fT (fT vG 1 gs1) 7 F1) 8 L81)) := hB9.2.weaken (fun _ q _ h => hFc q.1 h)
            have f31_0 := hw9
            try dsimp only at f31_0
            refine lv_if_ge (tgt := 59) hx hb dX12_raise_34 (by decide) (fun c_34 => ?_) (fun c_34 => ?_)
            · have t_34 : (r31).toInt ≥ 0 := toI_ge c_34 rfl (by decide)
              refine lv_iinc (v := (nI (k5 + 1))) hx hb dX12_raise_59 hl (k := 3) rfl (nI_add k5 1) (by decide) rfl (fun ls (hl : lv_has ls _ ([(3, .int (nI (k5 + 1))), (0, .ref h0), (1, .int (nI gn)), (2, .int cq2)])) => ?_)
              refine lv_goto (tgt := 11) hx hb dX12_raise_62 (by decide) ?_
              have hl : lv_has _ _ ([(0, .ref h0), (1, .int (nI gn)), (2, .int cq2), (3, .int (nI (k5 + 1)))]) := lv_sub hl [1, 2, 3, 0] rfl
              exact ih11_2 (k5 + 1) cq2 cb _ _ _ (by omega) (by rcases hc with ⟨h1, h2⟩ | ⟨h1, h2, h3, h4, h5⟩; (exact Or.inl ⟨h1, fun k2 hk2 h6 => by by_cases e9 : k2 = k5; (rw [e9]; omega); (exact h2 k2 (by omega) h6)⟩); (exact Or.inr ⟨h1, by omega, h3, h4, fun k2 hk2 h6 hn => by by_cases e9 : k2 = k5; (rw [e9] at hn; omega); (exact h5 k2 (by omega) h6 hn)⟩)) (by omega) hP hD hS hl
            · have t_34 : ¬ (r31).toInt ≥ 0 := toI_nge c_34 rfl (by decide)
              refine lv_iload_n hx hb dX12_raise_37 rfl (lv_at hl 2 rfl) ?_
              refine lv_iconst (v := (-1)) hx hb dX12_raise_38 (by decide) ?_
              refine lv_icmp_eq (tgt := 57) hx hb dX12_raise_39 (by decide) (fun c_39 => ?_) (fun c_39 => ?_)
              · have t_39 : (cq2).toInt = -1 := toI_eq c_39 rfl (by decide)
                refine lv_iload_n hx hb dX12_raise_57 rfl (lv_at hl 3 rfl) ?_
                refine lv_istore_n hx hb dX12_raise_58 rfl hl (by decide) rfl (fun ls (hl : lv_has ls _ ([(2, .int (nI k5)), (0, .ref h0), (1, .int (nI gn)), (3, .int (nI k5))])) => ?_)
                refine lv_iinc (v := (nI (k5 + 1))) hx hb dX12_raise_59 hl (k := 3) rfl (nI_add k5 1) (by decide) rfl (fun ls (hl : lv_has ls _ ([(3, .int (nI (k5 + 1))), (2, .int (nI k5)), (0, .ref h0), (1, .int (nI gn))])) => ?_)
                refine lv_goto (tgt := 11) hx hb dX12_raise_62 (by decide) ?_
                have hl : lv_has _ _ ([(0, .ref h0), (1, .int (nI gn)), (2, .int (nI k5)), (3, .int (nI (k5 + 1)))]) := lv_sub hl [2, 3, 1, 0] rfl
                exact ih11_2 (k5 + 1) (nI k5) k5 _ _ _ (by omega) (by (have h2 : ∀ k2, k2 < k5 → vF 6 k2 = 0 → 0 ≤ t1 gn k2 := by rcases hc with ⟨h1, h2⟩ | ⟨h1, h2, h3⟩; (exact h2); (exfalso; (have h9 := nI_toInt (n := cb) (by omega)); rw [← h1, c_39] at h9; (have h8 : ((-1 : Int32)).toInt = -1 := by decide); omega)); exact Or.inr ⟨rfl, by omega, c_25, by omega, fun k2 hk2 h6 hn => by by_cases e9 : k2 = k5; (rw [e9]; exact Nat.le_refl _); (have h9 := h2 k2 (by omega) h6; omega)⟩) (by omega) hP hD hS hl
              · have t_39 : ¬ (cq2).toInt = -1 := toI_neq c_39 rfl (by decide)
                obtain ⟨h1c, h2c, h3c, h4c, h5c⟩ := hc.resolve_left (fun h => c_39 h.1)
                subst h1c
                have lc1 := (hS1.c4 (by omega) (by omega) (show k5 < C by omega)).2
                have lc2 := (hS1.c4 (by omega) (by omega) (show cb < C by omega)).2
                refine lv_aload_n hx hb dX12_raise_42 rfl (lv_at hl 0 rfl) ?_
                refine va_get (D := (dC, dI)) (ci := 12) (v := .ref (a 4)) (C := RX12) (T := TX12) (N := 163) (fs := fM (vS a (fT vi 11 qk1) (fT vj 12 qd1))) hx hb hts iwsRX12_raise_in12 hown hK hP 0 rfl rfl 8 (by decide) (hts (.fieldLink RX12 23 "OptimaWorksModel" "columnOf" "[I") (by decide +kernel)) (fun _ h9 => h9) rfl dX12_raise_43 ?_
                refine lv_iload_n hx hb dX12_raise_46 rfl (lv_at hl 3 rfl) ?_
                refine va_iald (cA := k 4) (n := 46) (f := f41) hx hb hK hP 5 4 (WR_get 4 (by decide)) (TR_get 4 (by decide)) (vp_in_nI (show k5 < 46 by omega) (by omega)) dX12_raise_47 ?_
                refine lv_topi (fun y5 hy5 => ?_)
                obtain rfl : (f41 k5) = y5 := (hy5.trans (by rw [nI_clamp (by omega)])).symm
                refine lv_topi (fun y6 hy6 => ?_)
                obtain rfl : (nI ((f41 k5).toNatClampNeg)) = y6 := (hy6.trans ((hS1.c4 (by omega) (by omega) (by omega)).1)).symm
                refine lv_aload_n hx hb dX12_raise_48 rfl (lv_at hl 0 rfl) ?_
                refine va_get (D := (dC, dI)) (ci := 12) (v := .ref (a 4)) (C := RX12) (T := TX12) (N := 163) (fs := fM (vS a (fT vi 11 qk1) (fT vj 12 qd1))) hx hb hts iwsRX12_raise_in12 hown hK hP 0 rfl rfl 8 (by decide) (hts (.fieldLink RX12 23 "OptimaWorksModel" "columnOf" "[I") (by decide +kernel)) (fun _ h9 => h9) rfl dX12_raise_49 ?_
                refine lv_iload_n hx hb dX12_raise_52 rfl (lv_at hl 2 rfl) ?_
                refine va_iald (cA := k 4) (n := 46) (f := f41) hx hb hK hP 5 4 (WR_get 4 (by decide)) (TR_get 4 (by decide)) (vp_in_nI (show cb < 46 by omega) (by omega)) dX12_raise_53 ?_
                refine lv_topi (fun y7 hy7 => ?_)
                obtain rfl : (f41 cb) = y7 := (hy7.trans (by rw [nI_clamp (by omega)])).symm
                refine lv_topi (fun y8 hy8 => ?_)
                obtain rfl : (nI ((f41 cb).toNatClampNeg)) = y8 := (hy8.trans ((hS1.c4 (by omega) (by omega) (by omega)).1)).symm
                refine lv_icmp_ge (tgt := 59) hx hb dX12_raise_54 (by decide) (fun c_54 => ?_) (fun c_54 => ?_)
                · have t_54 : ((((f41 k5).toNatClampNeg) : Nat) : Int) ≥ ((((f41 cb).toNatClampNeg) : Nat) : Int) := toI_ge c_54 (nI_toInt (by omega)) (nI_toInt (by omega))
                  refine lv_iinc (v := (nI (k5 + 1))) hx hb dX12_raise_59 hl (k := 3) rfl (nI_add k5 1) (by decide) rfl (fun ls (hl : lv_has ls _ ([(3, .int (nI (k5 + 1))), (0, .ref h0), (1, .int (nI gn)), (2, .int (nI cb))])) => ?_)
                  refine lv_goto (tgt := 11) hx hb dX12_raise_62 (by decide) ?_
                  have hl : lv_has _ _ ([(0, .ref h0), (1, .int (nI gn)), (2, .int (nI cb)), (3, .int (nI (k5 + 1)))]) := lv_sub hl [1, 2, 3, 0] rfl
                  exact ih11_2 (k5 + 1) (nI cb) cb _ _ _ (by omega) (Or.inr ⟨rfl, by omega, h3c, h4c, fun k2 hk2 h6 hn => by by_cases e9 : k2 = k5; (rw [e9]; omega); (exact h5c k2 (by omega) h6 hn)⟩) (by omega) hP hD hS hl
                · have t_54 : ¬ ((((f41 k5).toNatClampNeg) : Nat) : Int) ≥ ((((f41 cb).toNatClampNeg) : Nat) : Int) := toI_nge c_54 (nI_toInt (by omega)) (nI_toInt (by omega))
                  refine lv_iload_n hx hb dX12_raise_57 rfl (lv_at hl 3 rfl) ?_
                  refine lv_istore_n hx hb dX12_raise_58 rfl hl (by decide) rfl (fun ls (hl : lv_has ls _ ([(2, .int (nI k5)), (0, .ref h0), (1, .int (nI gn)), (3, .int (nI k5))])) => ?_)
                  refine lv_iinc (v := (nI (k5 + 1))) hx hb dX12_raise_59 hl (k := 3) rfl (nI_add k5 1) (by decide) rfl (fun ls (hl : lv_has ls _ ([(3, .int (nI (k5 + 1))), (2, .int (nI k5)), (0, .ref h0), (1, .int (nI gn))])) => ?_)
                  refine lv_goto (tgt := 11) hx hb dX12_raise_62 (by decide) ?_
                  have hl : lv_has _ _ ([(0, .ref h0), (1, .int (nI gn)), (2, .int (nI k5)), (3, .int (nI (k5 + 1)))]) := lv_sub hl [2, 3, 1, 0] rfl
                  exact ih11_2 (k5 + 1) (nI k5) k5 _ _ _ (by omega) (Or.inr ⟨rfl, by omega, c_25, by omega, fun k2 hk2 h6 hn => by by_cases e9 : k2 = k5; (rw [e9]; exact Nat.le_refl _); (have h9 := h5c k2 (by omega) h6 hn; omega)⟩) (by omega) hP hD hS hl
end
section
theorem SxF.start {C R T : Nat} {a : Nat → Nat → Int} {rl cl : Nat → Nat} (hr : ∀ i, i < T → rl i = C + 1 + i) (hc : ∀ j, j ≤ C → cl j = j) : SxF C R T a a 1 rl cl := by
  have hB : (List.range T).map rl = List.range' (C + 1) T := by
    rw [List.range'_eq_map_range]; exact List.map_congr_left (fun i hi => hr i (List.mem_range.mp hi))
  refine ⟨⟨1, ?_⟩, by decide, ⟨fun i k hi hk h => ?_, fun j k hj hk h => ?_, fun i j hi hj h => ?_⟩, fun x hx i hi => ?_, fun i _ hi => hr i hi, hc C (Nat.le_refl _), fun i hi => ?_, fun j hj => ?_⟩
  · rw [hB]
    obtain ⟨h1, h2, h3, h4⟩ := Rep.init T (C + 1) a
    exact ⟨h1, h2, h3, fun i hi j hj => by rw [hc j (by omega)]; exact h4 i hi j hj⟩
  · have h : rl i = rl k := h
    rw [hr i hi, hr k hk] at h; omega
  · have h : cl j = cl k := h
    rw [hc j (by omega), hc k (by omega)] at h; exact h
  · have h : rl i = cl j := h
    rw [hr i hi, hc j (by omega)] at h; omega
  · have h1 := hx i hi
    have h1 : (1 : Int) * x (rl i) + iS (C + 1) (fun j => a i j * x (cl j)) = 0 := h1
    rw [hr i hi] at h1
    show (1 : Int) * x (C + 1 + i) + iS (C + 1) (fun j => a i j * x j) = 0
    rw [iS_congr (g := fun j => a i j * x (cl j)) (fun j hj => by rw [hc j (by omega)])]; exact h1
  · rw [hr i hi]; omega
  · rw [hc j hj]; omega
theorem Sx.start {C R T : Nat} {a : Nat → Nat → Int} {f4 f5 : Nat → Int32} (hRT : R ≤ T) (hC : C ≤ 45) (hT : T < 60) (h4 : ∀ j, j < C → f4 j = nI j) (h5 : ∀ i, i < R → f5 i = nI (C + i)) : Sx C R T a a 1 f4 f5 := by
  refine ⟨SxF.start (fun i hi => ?_) (fun j hj => ?_), fun j hj => ⟨j, by omega, h4 j hj⟩, fun i hi => ⟨C + i, by omega, h5 i hi⟩⟩
  · unfold rlF; split
    · rename_i h; rw [h5 i h, nI_clamp (by omega)]; unfold gl; rw [if_neg (by omega)]; omega
    · rfl
  · unfold clF; split
    · rename_i h; rw [h4 j h, nI_clamp (by omega)]; unfold gl; rw [if_pos h]
    · omega
/-- the first exchange, for the help: no number is below nought behind it -/
theorem first_ex {C R lb : Nat} {a : Nat → Nat → Int} (hC : 0 < C) (hlb : lb < R) (ha : ∀ i, i < R → a i (C - 1) = -1) (hn : a lb C < 0) (hl : ∀ i, i < R → a lb C ≤ a i C) : ∀ i, i < R → 0 ≤ nvT lb (C - 1) (sgI (a lb (C - 1))) a 1 i C := by
  intro i hi
  have hg : sgI (a lb (C - 1)) = -1 := sgI_n (by rw [ha lb hlb]; decide)
  unfold nvT
  rw [hg]
  by_cases e : i = lb
  · rw [if_pos e, if_neg (by omega)]; omega
  · rw [if_neg e, if_neg (by omega), ha lb hlb, ha i hi, Int.tdiv_one]
    have := hl i hi; omega
theorem Sx.help0 {C R T : Nat} {a t : Nat → Nat → Int} {D : Int} {f4 f5 : Nat → Int32} (h : Sx C R T a t D f4 f5) (hC : 0 < C) (hC45 : C ≤ 45) (hRT : R < T) (ha : ∀ j, j ≤ C → a R j = if j = C - 1 then 1 else 0) {i : Nat} (hi : i < R) (hf : f5 i = nI (C - 1)) (hG : ∀ i, i < R → 0 ≤ t i C) (hR : 0 ≤ t R C) : t i C = 0 ∧ t R C = 0 := by
  have hl : rlF C R f5 i = C - 1 := by unfold rlF; rw [if_pos hi, hf, nI_clamp (by omega)]; unfold gl; rw [if_pos (by omega)]
  have h1 := help_row h.1 hC hRT ha (by omega) hl
  have h2 := hG i hi
  omega
/-- an exchange in a row whose number is nought leaves the signs of the numbers -/
theorem Sx.flat {C R T : Nat} {a t : Nat → Nat → Int} {D : Int} {f4 f5 : Nat → Int32} (h : Sx C R T a t D f4 f5) {r c : Nat} (hr : r < R) (hRT : R ≤ T) (hc : c < C) (hp : t r c ≠ 0) (h0 : t r C = 0) {i : Nat} (hi : i < T) (hG : 0 ≤ t i C) : 0 ≤ nvT r c (sgI (t r c)) t D i C := by
  have hD := h.1.2.1
  by_cases e : i = r
  · subst e; rw [nv_row _ _ _ _ _ (by omega), h0, Int.mul_zero]; exact Int.le_refl _
  · obtain ⟨q, hq⟩ := h.1.exact (show r < T by omega) (show c ≤ C by omega) hi (Nat.le_refl C) e
    have e1 : D * nvT r c (sgI (t r c)) t D i C = sgI (t r c) * (t i C * t r c - t i c * t r C) := by
      unfold nvT; rw [if_neg e, if_neg (by omega)]; exact nv_exact (by omega) hq _
    rw [h0, Int.mul_zero, Int.sub_zero, Int.mul_left_comm] at e1
    have h2 : 0 ≤ t i C * (sgI (t r c) * t r c) := Int.mul_nonneg hG (Int.le_of_lt (sgI_pos hp))
    rw [← e1] at h2
    exact Int.nonneg_of_mul_nonneg_right h2 hD
end
section
theorem hd_yX12_hasten_RX12 : yX12_hasten.cls = RX12 ∧ yX12_hasten.cls ≠ "java/lang/invoke/MethodHandle" ∧ yX12_hasten.cls ≠ "java/lang/invoke/VarHandle" ∧ (parseMethodDescriptor yX12_hasten.desc).map (fun d => d.parameters.length) = some 0 := by decide +kernel
theorem hd_yX12_raise_RX12 : yX12_raise.cls = RX12 ∧ yX12_raise.cls ≠ "java/lang/invoke/MethodHandle" ∧ yX12_raise.cls ≠ "java/lang/invoke/VarHandle" ∧ (parseMethodDescriptor yX12_raise.desc).map (fun d => d.parameters.length) = some 1 := by decide +kernel
theorem dX12_canKeep_0 : decode cX12_canKeep 0 = .ok (.aload_n 0, 1) := dk_42 (by decide +kernel)
theorem dX12_canKeep_1 : decode cX12_canKeep 1 = .ok (.getfield 396, 3) := dk_180 (by decide +kernel)
theorem dX12_canKeep_4 : decode cX12_canKeep 4 = .ok (.iconst 1, 1) := dk_4 (by decide +kernel)
theorem dX12_canKeep_5 : decode cX12_canKeep 5 = .ok (.isub, 1) := dk_100 (by decide +kernel)
theorem dX12_canKeep_6 : decode cX12_canKeep 6 = .ok (.istore_n 1, 1) := dk_60 (by decide +kernel)
theorem dX12_canKeep_7 : decode cX12_canKeep 7 = .ok (.iconst (-1), 1) := dk_2 (by decide +kernel)
theorem dX12_canKeep_8 : decode cX12_canKeep 8 = .ok (.istore_n 2, 1) := dk_61 (by decide +kernel)
theorem dX12_canKeep_9 : decode cX12_canKeep 9 = .ok (.iconst 0, 1) := dk_3 (by decide +kernel)
theorem dX12_canKeep_10 : decode cX12_canKeep 10 = .ok (.istore_n 3, 1) := dk_62 (by decide +kernel)
theorem dX12_canKeep_11 : decode cX12_canKeep 11 = .ok (.iload_n 3, 1) := dk_29 (by decide +kernel)
theorem dX12_canKeep_12 : decode cX12_canKeep 12 = .ok (.aload_n 0, 1) := dk_42 (by decide +kernel)
theorem dX12_canKeep_13 : decode cX12_canKeep 13 = .ok (.getfield 399, 3) := dk_180 (by decide +kernel)
theorem dX12_canKeep_16 : decode cX12_canKeep 16 = .ok (.if_icmp .ge 57, 3) := dk_162 (by decide +kernel)
theorem dX12_canKeep_19 : decode cX12_canKeep 19 = .ok (.aload_n 0, 1) := dk_42 (by decide +kernel)
theorem dX12_canKeep_20 : decode cX12_canKeep 20 = .ok (.aload_n 0, 1) := dk_42 (by decide +kernel)
theorem dX12_canKeep_21 : decode cX12_canKeep 21 = .ok (.iload_n 3, 1) := dk_29 (by decide +kernel)
theorem dX12_canKeep_22 : decode cX12_canKeep 22 = .ok (.aload_n 0, 1) := dk_42 (by decide +kernel)
theorem dX12_canKeep_23 : decode cX12_canKeep 23 = .ok (.getfield 396, 3) := dk_180 (by decide +kernel)
theorem dX12_canKeep_26 : decode cX12_canKeep 26 = .ok (.invokevirtual 405, 3) := dk_182 (by decide +kernel)
theorem dX12_canKeep_29 : decode cX12_canKeep 29 = .ok (.invokevirtual 353, 3) := dk_182 (by decide +kernel)
theorem dX12_canKeep_32 : decode cX12_canKeep 32 = .ok (.ifCond .ge 35, 3) := dk_156 (by decide +kernel)
theorem dX12_canKeep_35 : decode cX12_canKeep 35 = .ok (.iload_n 2, 1) := dk_28 (by decide +kernel)
theorem dX12_canKeep_36 : decode cX12_canKeep 36 = .ok (.iconst (-1), 1) := dk_2 (by decide +kernel)
theorem dX12_canKeep_37 : decode cX12_canKeep 37 = .ok (.if_icmp .eq 28, 3) := dk_159 (by decide +kernel)
theorem dX12_canKeep_40 : decode cX12_canKeep 40 = .ok (.aload_n 0, 1) := dk_42 (by decide +kernel)
theorem dX12_canKeep_41 : decode cX12_canKeep 41 = .ok (.aload_n 0, 1) := dk_42 (by decide +kernel)
theorem dX12_canKeep_42 : decode cX12_canKeep 42 = .ok (.iload_n 3, 1) := dk_29 (by decide +kernel)
theorem dX12_canKeep_43 : decode cX12_canKeep 43 = .ok (.aload_n 0, 1) := dk_42 (by decide +kernel)
theorem dX12_canKeep_44 : decode cX12_canKeep 44 = .ok (.getfield 396, 3) := dk_180 (by decide +kernel)
theorem dX12_canKeep_47 : decode cX12_canKeep 47 = .ok (.invokevirtual 405, 3) := dk_182 (by decide +kernel)
theorem dX12_canKeep_50 : decode cX12_canKeep 50 = .ok (.aload_n 0, 1) := dk_42 (by decide +kernel)
theorem dX12_canKeep_51 : decode cX12_canKeep 51 = .ok (.iload_n 2, 1) := dk_28 (by decide +kernel)
theorem dX12_canKeep_52 : decode cX12_canKeep 52 = .ok (.aload_n 0, 1) := dk_42 (by decide +kernel)
theorem dX12_canKeep_53 : decode cX12_canKeep 53 = .ok (.getfield 396, 3) := dk_180 (by decide +kernel)
theorem dX12_canKeep_56 : decode cX12_canKeep 56 = .ok (.invokevirtual 405, 3) := dk_182 (by decide +kernel)
theorem dX12_canKeep_59 : decode cX12_canKeep 59 = .ok (.invokevirtual 393, 3) := dk_182 (by decide +kernel)
theorem dX12_canKeep_62 : decode cX12_canKeep 62 = .ok (.ifCond .ge 5, 3) := dk_156 (by decide +kernel)
theorem dX12_canKeep_65 : decode cX12_canKeep 65 = .ok (.iload_n 3, 1) := dk_29 (by decide +kernel)
theorem dX12_canKeep_66 : decode cX12_canKeep 66 = .ok (.istore_n 2, 1) := dk_61 (by decide +kernel)
theorem dX12_canKeep_67 : decode cX12_canKeep 67 = .ok (.iinc 3 1, 3) := dk_132 (by decide +kernel)
theorem dX12_canKeep_70 : decode cX12_canKeep 70 = .ok (.goto (-59), 3) := dk_167 (by decide +kernel)
theorem dX12_canKeep_73 : decode cX12_canKeep 73 = .ok (.aload_n 0, 1) := dk_42 (by decide +kernel)
theorem dX12_canKeep_74 : decode cX12_canKeep 74 = .ok (.invokevirtual 462, 3) := dk_182 (by decide +kernel)
theorem dX12_canKeep_77 : decode cX12_canKeep 77 = .ok (.iload_n 2, 1) := dk_28 (by decide +kernel)
theorem dX12_canKeep_78 : decode cX12_canKeep 78 = .ok (.iconst (-1), 1) := dk_2 (by decide +kernel)
theorem dX12_canKeep_79 : decode cX12_canKeep 79 = .ok (.if_icmp .ne 12, 3) := dk_160 (by decide +kernel)
theorem dX12_canKeep_82 : decode cX12_canKeep 82 = .ok (.aload_n 0, 1) := dk_42 (by decide +kernel)
theorem dX12_canKeep_83 : decode cX12_canKeep 83 = .ok (.getfield 29, 3) := dk_180 (by decide +kernel)
theorem dX12_canKeep_86 : decode cX12_canKeep 86 = .ok (.iload_n 1, 1) := dk_27 (by decide +kernel)
theorem dX12_canKeep_87 : decode cX12_canKeep 87 = .ok (.iconst 1, 1) := dk_4 (by decide +kernel)
theorem dX12_canKeep_88 : decode cX12_canKeep 88 = .ok (.bastore, 1) := dk_84 (by decide +kernel)
theorem dX12_canKeep_89 : decode cX12_canKeep 89 = .ok (.iconst 1, 1) := dk_4 (by decide +kernel)
theorem dX12_canKeep_90 : decode cX12_canKeep 90 = .ok (.ireturn, 1) := dk_172 (by decide +kernel)
theorem dX12_canKeep_91 : decode cX12_canKeep 91 = .ok (.aload_n 0, 1) := dk_42 (by decide +kernel)
theorem dX12_canKeep_92 : decode cX12_canKeep 92 = .ok (.iload_n 2, 1) := dk_28 (by decide +kernel)
theorem dX12_canKeep_93 : decode cX12_canKeep 93 = .ok (.iload_n 1, 1) := dk_27 (by decide +kernel)
theorem dX12_canKeep_94 : decode cX12_canKeep 94 = .ok (.invokevirtual 456, 3) := dk_182 (by decide +kernel)
theorem dX12_canKeep_97 : decode cX12_canKeep 97 = .ok (.aload_n 0, 1) := dk_42 (by decide +kernel)
theorem dX12_canKeep_98 : decode cX12_canKeep 98 = .ok (.aload_n 0, 1) := dk_42 (by decide +kernel)
theorem dX12_canKeep_99 : decode cX12_canKeep 99 = .ok (.getfield 399, 3) := dk_180 (by decide +kernel)
theorem dX12_canKeep_102 : decode cX12_canKeep 102 = .ok (.invokevirtual 465, 3) := dk_182 (by decide +kernel)
theorem dX12_canKeep_105 : decode cX12_canKeep 105 = .ok (.pop, 1) := dk_87 (by decide +kernel)
theorem dX12_canKeep_106 : decode cX12_canKeep 106 = .ok (.aload_n 0, 1) := dk_42 (by decide +kernel)
theorem dX12_canKeep_107 : decode cX12_canKeep 107 = .ok (.aload_n 0, 1) := dk_42 (by decide +kernel)
theorem dX12_canKeep_108 : decode cX12_canKeep 108 = .ok (.getfield 399, 3) := dk_180 (by decide +kernel)
theorem dX12_canKeep_111 : decode cX12_canKeep 111 = .ok (.aload_n 0, 1) := dk_42 (by decide +kernel)
theorem dX12_canKeep_112 : decode cX12_canKeep 112 = .ok (.getfield 396, 3) := dk_180 (by decide +kernel)
theorem dX12_canKeep_115 : decode cX12_canKeep 115 = .ok (.invokevirtual 446, 3) := dk_182 (by decide +kernel)
theorem dX12_canKeep_118 : decode cX12_canKeep 118 = .ok (.ifCond .ge 5, 3) := dk_156 (by decide +kernel)
theorem dX12_canKeep_121 : decode cX12_canKeep 121 = .ok (.iconst 0, 1) := dk_3 (by decide +kernel)
theorem dX12_canKeep_122 : decode cX12_canKeep 122 = .ok (.ireturn, 1) := dk_172 (by decide +kernel)
theorem dX12_canKeep_123 : decode cX12_canKeep 123 = .ok (.iconst 0, 1) := dk_3 (by decide +kernel)
theorem dX12_canKeep_124 : decode cX12_canKeep 124 = .ok (.istore_n 3, 1) := dk_62 (by decide +kernel)
theorem dX12_canKeep_125 : decode cX12_canKeep 125 = .ok (.iload_n 3, 1) := dk_29 (by decide +kernel)
theorem dX12_canKeep_126 : decode cX12_canKeep 126 = .ok (.aload_n 0, 1) := dk_42 (by decide +kernel)
theorem dX12_canKeep_127 : decode cX12_canKeep 127 = .ok (.getfield 399, 3) := dk_180 (by decide +kernel)
theorem dX12_canKeep_130 : decode cX12_canKeep 130 = .ok (.if_icmp .ge 66, 3) := dk_162 (by decide +kernel)
theorem dX12_canKeep_133 : decode cX12_canKeep 133 = .ok (.aload_n 0, 1) := dk_42 (by decide +kernel)
theorem dX12_canKeep_134 : decode cX12_canKeep 134 = .ok (.getfield 26, 3) := dk_180 (by decide +kernel)
theorem dX12_canKeep_137 : decode cX12_canKeep 137 = .ok (.iload_n 3, 1) := dk_29 (by decide +kernel)
theorem dX12_canKeep_138 : decode cX12_canKeep 138 = .ok (.iaload, 1) := dk_46 (by decide +kernel)
theorem dX12_canKeep_139 : decode cX12_canKeep 139 = .ok (.iload_n 1, 1) := dk_27 (by decide +kernel)
theorem dX12_canKeep_140 : decode cX12_canKeep 140 = .ok (.if_icmp .eq 6, 3) := dk_159 (by decide +kernel)
theorem dX12_canKeep_143 : decode cX12_canKeep 143 = .ok (.goto 47, 3) := dk_167 (by decide +kernel)
theorem dX12_canKeep_146 : decode cX12_canKeep 146 = .ok (.iconst 0, 1) := dk_3 (by decide +kernel)
theorem dX12_canKeep_147 : decode cX12_canKeep 147 = .ok (.istore 4, 2) := dk_54 (by decide +kernel)
theorem dX12_canKeep_149 : decode cX12_canKeep 149 = .ok (.iload 4, 2) := dk_21 (by decide +kernel)
theorem dX12_canKeep_151 : decode cX12_canKeep 151 = .ok (.aload_n 0, 1) := dk_42 (by decide +kernel)
theorem dX12_canKeep_152 : decode cX12_canKeep 152 = .ok (.getfield 396, 3) := dk_180 (by decide +kernel)
theorem dX12_canKeep_155 : decode cX12_canKeep 155 = .ok (.if_icmp .ge 19, 3) := dk_162 (by decide +kernel)
theorem dX12_canKeep_158 : decode cX12_canKeep 158 = .ok (.aload_n 0, 1) := dk_42 (by decide +kernel)
theorem dX12_canKeep_159 : decode cX12_canKeep 159 = .ok (.iload_n 3, 1) := dk_29 (by decide +kernel)
theorem dX12_canKeep_160 : decode cX12_canKeep 160 = .ok (.iload 4, 2) := dk_21 (by decide +kernel)
theorem dX12_canKeep_162 : decode cX12_canKeep 162 = .ok (.invokevirtual 446, 3) := dk_182 (by decide +kernel)
theorem dX12_canKeep_165 : decode cX12_canKeep 165 = .ok (.ifCond .ne 9, 3) := dk_154 (by decide +kernel)
theorem dX12_canKeep_168 : decode cX12_canKeep 168 = .ok (.iinc 4 1, 3) := dk_132 (by decide +kernel)
theorem dX12_canKeep_171 : decode cX12_canKeep 171 = .ok (.goto (-22), 3) := dk_167 (by decide +kernel)
theorem dX12_canKeep_174 : decode cX12_canKeep 174 = .ok (.iload 4, 2) := dk_21 (by decide +kernel)
theorem dX12_canKeep_176 : decode cX12_canKeep 176 = .ok (.aload_n 0, 1) := dk_42 (by decide +kernel)
theorem dX12_canKeep_177 : decode cX12_canKeep 177 = .ok (.getfield 396, 3) := dk_180 (by decide +kernel)
theorem dX12_canKeep_180 : decode cX12_canKeep 180 = .ok (.if_icmp .ge 10, 3) := dk_162 (by decide +kernel)
theorem dX12_canKeep_183 : decode cX12_canKeep 183 = .ok (.aload_n 0, 1) := dk_42 (by decide +kernel)
theorem dX12_canKeep_184 : decode cX12_canKeep 184 = .ok (.iload_n 3, 1) := dk_29 (by decide +kernel)
theorem dX12_canKeep_185 : decode cX12_canKeep 185 = .ok (.iload 4, 2) := dk_21 (by decide +kernel)
theorem dX12_canKeep_187 : decode cX12_canKeep 187 = .ok (.invokevirtual 456, 3) := dk_182 (by decide +kernel)
theorem dX12_canKeep_190 : decode cX12_canKeep 190 = .ok (.iinc 3 1, 3) := dk_132 (by decide +kernel)
theorem dX12_canKeep_193 : decode cX12_canKeep 193 = .ok (.goto (-68), 3) := dk_167 (by decide +kernel)
theorem dX12_canKeep_196 : decode cX12_canKeep 196 = .ok (.iconst 0, 1) := dk_3 (by decide +kernel)
theorem dX12_canKeep_197 : decode cX12_canKeep 197 = .ok (.istore_n 3, 1) := dk_62 (by decide +kernel)
theorem dX12_canKeep_198 : decode cX12_canKeep 198 = .ok (.iload_n 3, 1) := dk_29 (by decide +kernel)
theorem dX12_canKeep_199 : decode cX12_canKeep 199 = .ok (.aload_n 0, 1) := dk_42 (by decide +kernel)
theorem dX12_canKeep_200 : decode cX12_canKeep 200 = .ok (.getfield 396, 3) := dk_180 (by decide +kernel)
theorem dX12_canKeep_203 : decode cX12_canKeep 203 = .ok (.if_icmp .ge 39, 3) := dk_162 (by decide +kernel)
theorem dX12_canKeep_206 : decode cX12_canKeep 206 = .ok (.aload_n 0, 1) := dk_42 (by decide +kernel)
theorem dX12_canKeep_207 : decode cX12_canKeep 207 = .ok (.getfield 29, 3) := dk_180 (by decide +kernel)
theorem dX12_canKeep_210 : decode cX12_canKeep 210 = .ok (.iload_n 3, 1) := dk_29 (by decide +kernel)
theorem dX12_canKeep_211 : decode cX12_canKeep 211 = .ok (.aload_n 0, 1) := dk_42 (by decide +kernel)
theorem dX12_canKeep_212 : decode cX12_canKeep 212 = .ok (.getfield 29, 3) := dk_180 (by decide +kernel)
theorem dX12_canKeep_215 : decode cX12_canKeep 215 = .ok (.iload_n 3, 1) := dk_29 (by decide +kernel)
theorem dX12_canKeep_216 : decode cX12_canKeep 216 = .ok (.baload, 1) := dk_51 (by decide +kernel)
theorem dX12_canKeep_217 : decode cX12_canKeep 217 = .ok (.ifCond .ne 13, 3) := dk_154 (by decide +kernel)
theorem dX12_canKeep_220 : decode cX12_canKeep 220 = .ok (.aload_n 0, 1) := dk_42 (by decide +kernel)
theorem dX12_canKeep_221 : decode cX12_canKeep 221 = .ok (.getfield 23, 3) := dk_180 (by decide +kernel)
theorem dX12_canKeep_224 : decode cX12_canKeep 224 = .ok (.iload_n 3, 1) := dk_29 (by decide +kernel)
theorem dX12_canKeep_225 : decode cX12_canKeep 225 = .ok (.iaload, 1) := dk_46 (by decide +kernel)
theorem dX12_canKeep_226 : decode cX12_canKeep 226 = .ok (.iload_n 1, 1) := dk_27 (by decide +kernel)
theorem dX12_canKeep_227 : decode cX12_canKeep 227 = .ok (.if_icmp .ne 7, 3) := dk_160 (by decide +kernel)
theorem dX12_canKeep_230 : decode cX12_canKeep 230 = .ok (.iconst 1, 1) := dk_4 (by decide +kernel)
theorem dX12_canKeep_231 : decode cX12_canKeep 231 = .ok (.goto 4, 3) := dk_167 (by decide +kernel)
theorem dX12_canKeep_234 : decode cX12_canKeep 234 = .ok (.iconst 0, 1) := dk_3 (by decide +kernel)
theorem dX12_canKeep_235 : decode cX12_canKeep 235 = .ok (.bastore, 1) := dk_84 (by decide +kernel)
theorem dX12_canKeep_236 : decode cX12_canKeep 236 = .ok (.iinc 3 1, 3) := dk_132 (by decide +kernel)
theorem dX12_canKeep_239 : decode cX12_canKeep 239 = .ok (.goto (-41), 3) := dk_167 (by decide +kernel)
theorem dX12_canKeep_242 : decode cX12_canKeep 242 = .ok (.iconst 1, 1) := dk_4 (by decide +kernel)
theorem dX12_canKeep_243 : decode cX12_canKeep 243 = .ok (.ireturn, 1) := dk_172 (by decide +kernel)
def wsRX12_canKeep : List Cond := .code yX12_canKeep cX12_canKeep 5 (some .boolean) :: ([.fieldLink RX12 396 "OptimaWorksModel" "columns" "I", .fieldLink RX12 399 "OptimaWorksModel" "rows" "I", .fieldLink RX12 29 "OptimaWorksModel" "still" "[Z", .fieldLink RX12 23 "OptimaWorksModel" "columnOf" "[I", .fieldLink RX12 26 "OptimaWorksModel" "rowOf" "[I"] ++ wsX120 ++ (wsV RX12 462 RX12 yX12_hasten wsRX12_hasten) ++ (wsV RX12 456 RX12 yX12_pivot wsRX12_pivot) ++ (wsV RX12 465 RX12 yX12_raise wsRX12_raise) ++ (wsV RX12 446 RX12 yX12_signAt wsRX12_signAt) ++ (wsV RX12 405 RX12 yX12_at wsRX12_at) ++ (wsV RX12 353 RX12 yX12_sign wsRX12_sign) ++ (wsV RX12 393 RX12 yX12_compare wsRX12_compare))
theorem iwsRX12_canKeep_in12 : ∀ w ∈ wsX120, w ∈ wsRX12_canKeep := fun _ h => List.mem_cons_of_mem _ (List.mem_append_left _ (List.mem_append_left _ (List.mem_append_left _ (List.mem_append_left _ (List.mem_append_left _ (List.mem_append_left _ (List.mem_append_left _ (List.mem_append_right _ h))))))))
theorem gwsRX12_canKeep_0 : GoodIn wsRX12_canKeep (wsV RX12 462 RX12 yX12_hasten wsRX12_hasten) := goodIn_sub (fun _ h => List.mem_cons_of_mem _ (List.mem_append_left _ (List.mem_append_left _ (List.mem_append_left _ (List.mem_append_left _ (List.mem_append_left _ (List.mem_append_left _ (List.mem_append_right _ h)))))))) (gdV (by decide +kernel) gdwsRX12_hasten)
theorem gwsRX12_canKeep_1 : GoodIn wsRX12_canKeep (wsV RX12 456 RX12 yX12_pivot wsRX12_pivot) := goodIn_sub (fun _ h => List.mem_cons_of_mem _ (List.mem_append_left _ (List.mem_append_left _ (List.mem_append_left _ (List.mem_append_left _ (List.mem_append_left _ (List.mem_append_right _ h))))))) (gdV (by decide +kernel) gdwsRX12_pivot)
theorem gwsRX12_canKeep_2 : GoodIn wsRX12_canKeep (wsV RX12 465 RX12 yX12_raise wsRX12_raise) := goodIn_sub (fun _ h => List.mem_cons_of_mem _ (List.mem_append_left _ (List.mem_append_left _ (List.mem_append_left _ (List.mem_append_left _ (List.mem_append_right _ h)))))) (gdV (by decide +kernel) gdwsRX12_raise)
theorem gwsRX12_canKeep_3 : GoodIn wsRX12_canKeep (wsV RX12 446 RX12 yX12_signAt wsRX12_signAt) := goodIn_sub (fun _ h => List.mem_cons_of_mem _ (List.mem_append_left _ (List.mem_append_left _ (List.mem_append_left _ (List.mem_append_right _ h))))) (gdV (by decide +kernel) gdwsRX12_signAt)
theorem gwsRX12_canKeep_4 : GoodIn wsRX12_canKeep (wsV RX12 405 RX12 yX12_at wsRX12_at) := goodIn_sub (fun _ h => List.mem_cons_of_mem _ (List.mem_append_left _ (List.mem_append_left _ (List.mem_append_right _ h)))) (gdV (by decide +kernel) gdwsRX12_at)
theorem gwsRX12_canKeep_5 : GoodIn wsRX12_canKeep (wsV RX12 353 RX12 yX12_sign wsRX12_sign) := goodIn_sub (fun _ h => List.mem_cons_of_mem _ (List.mem_append_left _ (List.mem_append_right _ h))) (gdV (by decide +kernel) gdwsRX12_sign)
theorem gwsRX12_canKeep_6 : GoodIn wsRX12_canKeep (wsV RX12 393 RX12 yX12_compare wsRX12_compare) := goodIn_sub (fun _ h => List.mem_cons_of_mem _ (List.mem_append_right _ h)) (gdV (by decide +kernel) gdwsRX12_compare)
theorem gdwsRX12_canKeep : wsRX12_canKeep.all goodWord = true := gdC rfl (gdA (gdA (gdA (gdA (gdA (gdA (gdA (gdA (by decide +kernel : ([.fieldLink RX12 396 "OptimaWorksModel" "columns" "I", .fieldLink RX12 399 "OptimaWorksModel" "rows" "I", .fieldLink RX12 29 "OptimaWorksModel" "still" "[Z", .fieldLink RX12 23 "OptimaWorksModel" "columnOf" "[I", .fieldLink RX12 26 "OptimaWorksModel" "rowOf" "[I"] : List Cond).all goodWord = true) gdwsX120) (gdV (by decide +kernel) gdwsRX12_hasten)) (gdV (by decide +kernel) gdwsRX12_pivot)) (gdV (by decide +kernel) gdwsRX12_raise)) (gdV (by decide +kernel) gdwsRX12_signAt)) (gdV (by decide +kernel) gdwsRX12_at)) (gdV (by decide +kernel) gdwsRX12_sign)) (gdV (by decide +kernel) gdwsRX12_compare))
set_option maxHeartbeats 4000000 in
set_option maxRecDepth 100000 in
/-- canKeep() -/
theorem r_X12_canKeep (l : Launch) (dC : Nat → ClassId) (dI : Nat → Nat → Nat) (a : Nat → Nat) (k : Nat → ClassId) (h0 : Nat) (vi : Nat → Int32) (vj : Nat → Int64) (vF : Nat → Nat → Int32) (vG : Nat → Nat → Int64) (C : Nat) (R : Nat) (Gq : Nat) (a_ : Nat → Nat → Int) (mg : Nat → Int) (hBg : Bg (vF 0) mg) (hC : vi 5 = nI C) (hR : vi 6 = nI R) (hG : vi 7 = nI Gq) (hC45 : 0 < C ∧ C ≤ 45) (hT60 : R + Gq < 60) (hsz : (R + Gq) * (C + 1) ≤ 970) (hN : TabN C (R + Gq) mg a_ 1) (h4 : ∀ j, j < C → vF 4 j = nI j) (h5 : ∀ i, i < R → vF 5 i = nI (C + i)) (ha1 : ∀ i, i < R → a_ i (C - 1) = -1) (haR : ∀ j, j ≤ C → a_ R j = if j = C - 1 then 1 else 0) (hGq : 0 < Gq) (hsm : Small C R (R + Gq) a_) (sz : Nat) : Met l yX12_canKeep wsRX12_canKeep ({ frames := 5, cells := 0, slots := 0, locals := 133 }) (va_Pc [.ref h0] (fun U => U.heap.size = sz ∧ va_P (dC, dI) vwCl (WR a k h0 vi vj vF vG) U.heap ∧ va_K (dC, dI) vwCl (tX12 k) U ∧ va_D (fun _ => True) (WR a k h0 vi vj vF vG))) (va_Qi (fun (r : Int32) (u : (Nat → Int32) × (Nat → Int32) × (Nat → Int32) × (Nat → Int32) × (Nat → Int32) × (Nat → Int32) × (Nat → Int64) × (Nat → Int64) × (Nat → Int64) × (Int32) × (Int64) × (Nat → Int) × (Nat → Nat → Int) × (Int)) => (r = 0 ∧ (Bg (u.1) (u.2.2.2.2.2.2.2.2.2.2.2.1)) ∧ (Tab (u.2.2.2.2.2.2.2.2.2.1) C (R + Gq) (u.2.2.2.2.2.2.2.2.2.2.2.1) (u.2.2.2.2.2.2.2.1) (u.2.2.2.2.2.2.2.2.2.2.1) (u.2.2.2.2.2.2.2.2.2.2.2.2.1) (u.2.2.2.2.2.2.2.2.2.2.2.2.2)) ∧ (Sx C R (R + Gq) a_ (u.2.2.2.2.2.2.2.2.2.2.2.2.1) (u.2.2.2.2.2.2.2.2.2.2.2.2.2) (u.2.2.2.1) (u.2.2.2.2.1)) ∧ (∀ i, i < R → 0 ≤ (u.2.2.2.2.2.2.2.2.2.2.2.2.1) i C) ∧ (∀ q, (q < 20 ∨ (26 < q ∧ q < 30) ∨ 30 + (R + Gq) * (C + 1) ≤ q) → (u.2.2.2.2.2.2.2.2.2.2.2.1) q = mg q)) ∨ (r = 1 ∧ (Bg (u.1) (u.2.2.2.2.2.2.2.2.2.2.2.1)) ∧ (Tab (u.2.2.2.2.2.2.2.2.2.1) C (R + Gq) (u.2.2.2.2.2.2.2.2.2.2.2.1) (u.2.2.2.2.2.2.2.1) (u.2.2.2.2.2.2.2.2.2.2.1) (u.2.2.2.2.2.2.2.2.2.2.2.2.1) (u.2.2.2.2.2.2.2.2.2.2.2.2.2)) ∧ (Sx C R (R + Gq) a_ (u.2.2.2.2.2.2.2.2.2.2.2.2.1) (u.2.2.2.2.2.2.2.2.2.2.2.2.2) (u.2.2.2.1) (u.2.2.2.2.1)) ∧ (∀ i, i < R → 0 ≤ (u.2.2.2.2.2.2.2.2.2.2.2.2.1) i C) ∧ (∀ q, (q < 20 ∨ (26 < q ∧ q < 30) ∨ 30 + (R + Gq) * (C + 1) ≤ q) → (u.2.2.2.2.2.2.2.2.2.2.2.1) q = mg q))) (fun (u : (Nat → Int32) × (Nat → Int32) × (Nat → Int32) × (Nat → Int32) × (Nat → Int32) × (Nat → Int32) × (Nat → Int64) × (Nat → Int64) × (Nat → Int64) × (Int32) × (Int64) × (Nat → Int) × (Nat → Nat → Int) × (Int)) t => va_P (dC, dI) vwCl (WR a k h0 (fT vi 11 (u.2.2.2.2.2.2.2.2.2.1)) (fT vj 12 (u.2.2.2.2.2.2.2.2.2.2.1)) (fT (fT (fT (fT (fT (fT vF 0 (u.1)) 2 (u.2.1)) 3 (u.2.2.1)) 4 (u.2.2.2.1)) 5 (u.2.2.2.2.1)) 6 (u.2.2.2.2.2.1)) (fT (fT (fT vG 7 (u.2.2.2.2.2.2.2.1)) 1 (u.2.2.2.2.2.2.1)) 8 (u.2.2.2.2.2.2.2.2.1))) t.heap ∧ va_D (va_A (WR a k h0 vi vj vF vG) sz) (WR a k h0 (fT vi 11 (u.2.2.2.2.2.2.2.2.2.1)) (fT vj 12 (u.2.2.2.2.2.2.2.2.2.2.1)) (fT (fT (fT (fT (fT (fT vF 0 (u.1)) 2 (u.2.1)) 3 (u.2.2.1)) 4 (u.2.2.2.1)) 5 (u.2.2.2.2.1)) 6 (u.2.2.2.2.2.1)) (fT (fT (fT vG 7 (u.2.2.2.2.2.2.2.1)) 1 (u.2.2.2.2.2.2.1)) 8 (u.2.2.2.2.2.2.2.2.1)))) (va_A (WR a k h0 vi vj vF vG) sz)) 0 0 (va_A (WR a k h0 vi vj vF vG) sz) := by
  refine Met.ofW (cc := cX12_canKeep) (maxL := 5) (ret := (some .boolean)) (by decide) rfl ?_
  intro p e s m args below meth c s₁ B hml hv
  obtain ⟨rfl, hsz, hP, hK, hD0⟩ := hv
  have hx := B.exec
  have hb := B.bytes
  have hr := B.returns
  have hts := atoms_spec (ws := wsRX12_canKeep) B.pre
  have hown : s.vm.findClass RX12 = some m.cls := findClass_of_methodNamed B.named
  have hlocks := B.notSynchronized
  subst hsz
  have hD := hD0.self (sz := s.heap.size)
  generalize hAe : va_A (WR a k h0 vi vj vF vG) s.heap.size = A at hD ⊢
  have hA : ∀ q : Nat, s.heap.size ≤ q → A q := fun q h => by rw [← hAe]; exact Or.inr h
  have hS : va_S A s.heap s.heap [] := va_S.rf
  have hl := lv_entry ([.ref h0]) (n := 5) (Nat.le_of_ble_eq_true rfl)
  rw [lg_entry_eq]
  generalize (lg_sl ([.ref h0]) ++ List.replicate (5 - (lg_sl ([.ref h0])).length) Slot.unset).toArray = ls at hl ⊢
  have hl : lv_has ls 5 [(0, .ref h0)] := hl
  have hS0 := Sx.start (a := a_) (R := R) (T := R + Gq) (f4 := vF 4) (f5 := vF 5) (by omega) (by omega) (by omega) h4 h5
  refine lv_aload_n hx hb dX12_canKeep_0 rfl (lv_at hl 0 rfl) ?_
  refine va_get (D := (dC, dI)) (ci := 12) (v := .int (vi 5)) (C := RX12) (T := TX12) (N := 163) (fs := fM (vS a vi vj)) hx hb hts iwsRX12_canKeep_in12 hown hK hP 0 rfl rfl 5 (by decide) (hts (.fieldLink RX12 396 "OptimaWorksModel" "columns" "I") (by decide +kernel)) (fun _ h9 => h9) rfl dX12_canKeep_1 ?_
  refine lv_topi (fun y1 hy1 => ?_)
  obtain rfl : (nI C) = y1 := (hy1.trans (hC)).symm
  refine lv_iconst (v := 1) hx hb dX12_canKeep_4 (by decide) ?_
  refine lv_isub hx hb dX12_canKeep_5 ?_
  refine lv_topi (fun y2 hy2 => ?_)
  obtain rfl : (nI (C - 1)) = y2 := (hy2.trans (pk_sub (a := C) (b := 1) (by omega))).symm
  refine lv_istore_n hx hb dX12_canKeep_6 rfl hl (by decide) rfl (fun ls (hl : lv_has ls _ ([(1, .int (nI (C - 1))), (0, .ref h0)])) => ?_)
  refine lv_iconst (v := (-1)) hx hb dX12_canKeep_7 (by decide) ?_
  refine lv_istore_n hx hb dX12_canKeep_8 rfl hl (by decide) rfl (fun ls (hl : lv_has ls _ ([(2, .int (-1)), (1, .int (nI (C - 1))), (0, .ref h0)])) => ?_)
  refine lv_iconst (v := 0) hx hb dX12_canKeep_9 (by decide) ?_
  refine lv_istore_n hx hb dX12_canKeep_10 rfl hl (by decide) rfl (fun ls (hl : lv_has ls _ ([(3, .int 0), (2, .int (-1)), (1, .int (nI (C - 1))), (0, .ref h0)])) => ?_)
  have hl : lv_has _ _ ([(0, .ref h0), (1, .int (nI (C - 1))), (2, .int (-1)), (3, .int (nI 0))]) := lv_sub hl [3, 2, 1, 0] rfl
  refine (fun (loop : ∀ (n9 : Nat) (i : Nat) (lq : Int32) (lb : Nat) (H : Heap) (locs : List Loc) (ls : Array Slot), (i ≤ R) → ((lq = -1 ∧ ∀ i2, i2 < i → 0 ≤ a_ i2 C) ∨ (lq = nI lb ∧ lb < i ∧ a_ lb C < 0 ∧ ∀ i2, i2 < i → a_ lb C ≤ a_ i2 C)) →  (R < i + n9) → va_P (dC, dI) vwCl (WR a k h0 vi vj vF vG) H → va_D A (WR a k h0 vi vj vF vG) → va_S A s.heap H locs → lv_has ls 5 [(0, .ref h0), (1, .int (nI (C - 1))), (2, .int lq), (3, .int (nI i))] → W p l e _ s m _ below meth c H locs 0 0 _ (F0 m 11 ls [])) => loop (R + 1) 0 (-1) 0 _ _ _ (by omega) (Or.inl ⟨rfl, fun i2 h2 => absurd h2 (by omega)⟩) (by omega) hP hD hS hl) ?_
  intro n9
  induction n9 with
  | zero => intro i lq lb H locs ls hi hlq hf9; exact False.elim (by omega)
  | succ n9 ih11 =>
    intro i lq lb H locs ls hi hlq hf11 hP hD hS hl
    refine lv_iload_n hx hb dX12_canKeep_11 rfl (lv_at hl 3 rfl) ?_
    refine lv_aload_n hx hb dX12_canKeep_12 rfl (lv_at hl 0 rfl) ?_
    refine va_get (D := (dC, dI)) (ci := 12) (v := .int (vi 6)) (C := RX12) (T := TX12) (N := 163) (fs := fM (vS a vi vj)) hx hb hts iwsRX12_canKeep_in12 hown hK hP 0 rfl rfl 6 (by decide) (hts (.fieldLink RX12 399 "OptimaWorksModel" "rows" "I") (by decide +kernel)) (fun _ h9 => h9) rfl dX12_canKeep_13 ?_
    refine lv_topi (fun y3 hy3 => ?_)
    obtain rfl : (nI R) = y3 := (hy3.trans (hR)).symm
    refine lv_icmp_ge (tgt := 73) hx hb dX12_canKeep_16 (by decide) (fun c_16 => ?_) (fun c_16 => ?_)
    · have t_16 : ((i : Nat) : Int) ≥ ((R : Nat) : Int) := toI_ge c_16 (nI_toInt (by omega)) (nI_toInt (by omega))
      refine lv_aload_n hx hb dX12_canKeep_73 rfl (lv_at hl 0 rfl) ?_
      have hFc := allFree hD hS hA
      refine va_callv (va_runV (As := []) (rest := []) ⟨hx, hb, hml, hown, hts⟩ (r_X12_hasten l dC dI a k h0 vi vj vF vG C R Gq a_ mg hBg (by first | with_reducible assumption | decide | omega | rfl | assumption) (by first | with_reducible assumption | decide | omega | rfl | assumption) (by first | with_reducible assumption | decide | omega | rfl | assumption) (by first | with_reducible assumption | decide | omega | rfl | assumption) (by first | with_reducible assumption | decide | omega | rfl | assumption) (by first | with_reducible assumption | decide | omega | rfl | assumption) (by first | with_reducible assumption | decide | omega | rfl | assumption) H.size) (cwV 0 hts gwsRX12_canKeep_0 rfl rfl rfl hd_yX12_hasten_RX12 (by decide +kernel)) (fz_pre (va_recv hK hP (ci := 12) (q0 := 0) rfl rfl) hP hK hD) rfl rfl hl.1 rfl (lv_room (Nat.le_of_ble_eq_true rfl)) dX12_canKeep_74 (by decide +kernel)) hS (fun q _ h => hFc q h) hFc (fun u t9_ H locs ht hvm hw9 hB9 hz1 hk1 hS => ?_)
      revert u
      refine fz_p2 ?_
      intro qk74 F74 hw9 hB9
      try dsimp only at hw9 hB9
      have hP : va_P (dC, dI) vwCl (WR a k h0 (fT vi 11 qk74) (fT vj 12 1) vF (fT vG 7 F74)) H := fz_P ht hB9.1
      have hD : va_D A (WR a k h0 (fT vi 11 qk74) (fT vj 12 1) vF (fT vG 7 F74)) := hB9.2.weaken (fun _ q _ h => hFc q.1 h)
      have f74_0 := hw9
      try dsimp only at f74_0
      refine lv_iload_n hx hb dX12_canKeep_77 rfl (lv_at hl 2 rfl) ?_
      refine lv_iconst (v := (-1)) hx hb dX12_canKeep_78 (by decide) ?_
      refine lv_icmp_ne (tgt := 91) hx hb dX12_canKeep_79 (by decide) (fun c_79 => ?_) (fun c_79 => ?_)
      · have t_79 : (lq).toInt ≠ -1 := toI_ne c_79 rfl (by decide)
        refine W.cut (pc := 106) (fun H locs ls stk => ∃ (tA : Nat → Nat → Int) (DA : Int) (gA : Nat → Int32) (f2A : Nat → Int32) (f3A : Nat → Int32) (f4A : Nat → Int32) (f5A : Nat → Int32) (f6A : Nat → Int32) (gsA : Nat → Int64) (FA : Nat → Int64) (L8A : Nat → Int64) (qkA : Int32) (qdA : Int64) (mA : Nat → Int), (Bg gA mA) ∧ (Tab qkA C (R + Gq) mA FA qdA tA DA) ∧ (Sx C R (R + Gq) a_ tA DA f4A f5A) ∧ (∀ i, i < R → 0 ≤ tA i C) ∧ (∀ q, (q < 20 ∨ (26 < q ∧ q < 30) ∨ 30 + (R + Gq) * (C + 1) ≤ q) → mA q = mg q) ∧  stk = [] ∧ va_P (dC, dI) vwCl (WR a k h0 (fT vi 11 qkA) (fT vj 12 qdA) (fT (fT (fT (fT (fT (fT vF 0 gA) 2 f2A) 3 f3A) 4 f4A) 5 f5A) 6 f6A) (fT (fT (fT vG 7 FA) 1 gsA) 8 L8A)) H ∧ va_D A (WR a k h0 (fT vi 11 qkA) (fT vj 12 qdA) (fT (fT (fT (fT (fT (fT vF 0 gA) 2 f2A) 3 f3A) 4 f4A) 5 f5A) 6 f6A) (fT (fT (fT vG 7 FA) 1 gsA) 8 L8A)) ∧ va_S A s.heap H locs ∧ lv_has ls 5 [(0, .ref h0), (1, .int (nI (C - 1)))]) (fun join1 => ?_) ?_
        · obtain ⟨h1d, h2d, h3d, h4d⟩ := hlq.resolve_left (fun h => c_79 h.1)
          subst h1d
          have hp9 : a_ lb (C - 1) = -1 := ha1 lb (by omega)
          obtain ⟨hSa, hPa⟩ := hS0.next (r := lb) (c := C - 1) (by omega) (by omega) (by omega) (by omega) (by omega) (sgI_or _) (sgI_pos (by omega))
          have hGa := first_ex (C := C) (R := R) (lb := lb) (by omega) (by omega) ha1 h3d (fun i2 hi2 => h4d i2 (by omega))
          refine lv_aload_n hx hb dX12_canKeep_91 rfl (lv_at hl 0 rfl) ?_
          refine lv_iload_n hx hb dX12_canKeep_92 rfl (lv_at hl 2 rfl) ?_
          refine lv_iload_n hx hb dX12_canKeep_93 rfl (lv_at hl 1 rfl) ?_
          have hFc := allFree hD hS hA
          refine va_callv (va_runV (As := [.int (nI lb), .int (nI (C - 1))]) (rest := []) ⟨hx, hb, hml, hown, hts⟩ (r_X12_pivot l dC dI a k h0 (fT vi 11 qk74) (fT vj 12 1) vF (fT vG 7 F74) lb (C - 1) C R Gq a_ 1 mg hBg (by first | with_reducible assumption | decide | omega | rfl | assumption) (by first | with_reducible assumption | decide | omega | rfl | assumption) (by first | with_reducible assumption | decide | omega | rfl | assumption) (by first | with_reducible assumption | decide | omega | rfl | assumption) (by first | with_reducible assumption | decide | omega | rfl | assumption) (by first | with_reducible assumption | decide | omega | rfl | assumption) (f74_0) (by omega) (by first | with_reducible assumption | decide | omega | rfl | assumption) (by decide) (by omega) ((hsm _ _ _ _ hS0.1).2) H.size) (cwV 2 hts gwsRX12_canKeep_1 rfl rfl rfl hd_yX12_pivot_RX12 (by decide +kernel)) (fz_pre (va_recv hK hP (ci := 12) (q0 := 0) rfl rfl) hP hK hD) rfl rfl hl.1 rfl (lv_room (Nat.le_of_ble_eq_true rfl)) dX12_canKeep_94 (by decide +kernel)) hS (fun q _ h => hFc q h) hFc (fun u t9_ H locs ht hvm hw9 hB9 hz1 hk1 hS => ?_)
          revert u
          refine fz_p9 ?_
          intro g94 f2w94 f3w94 gs94 qk94 qd94 F94 L894 m294 hw9 hB9
          try dsimp only at hw9 hB9
          have hP : va_P (dC, dI) vwCl (WR a k h0 (fT (fT vi 11 qk74) 11 qk94) (fT (fT vj 12 1) 12 qd94) (fT (fT (fT (fT (fT vF 0 g94) 2 f2w94) 3 f3w94) 4 (upd (vF 4) (nI (C - 1)).toNatClampNeg ((vF 5) lb))) 5 (upd (vF 5) (nI lb).toNatClampNeg ((vF 4) (C - 1)))) (fT (fT (fT (fT vG 7 F74) 8 L894) 7 F94) 1 gs94)) H := fz_P ht hB9.1
          have hD : va_D A (WR a k h0 (fT (fT vi 11 qk74) 11 qk94) (fT (fT vj 12 1) 12 qd94) (fT (fT (fT (fT (fT vF 0 g94) 2 f2w94) 3 f3w94) 4 (upd (vF 4) (nI (C - 1)).toNatClampNeg ((vF 5) lb))) 5 (upd (vF 5) (nI lb).toNatClampNeg ((vF 4) (C - 1)))) (fT (fT (fT (fT vG 7 F74) 8 L894) 7 F94) 1 gs94)) := hB9.2.weaken (fun _ q _ h => hFc q.1 h)
          have e9 : fT vi 11 qk94 = fT (fT vi 11 qk74) 11 qk94 := (fT_sm _ _ _ _).symm
          rw [← e9] at hP hD
          clear e9
          have e9 : fT vj 12 qd94 = fT (fT vj 12 1) 12 qd94 := (fT_sm _ _ _ _).symm
          rw [← e9] at hP hD
          clear e9
          have e9 : fT (fT (fT vG 7 F94) 8 L894) 1 gs94 = fT (fT (fT (fT vG 7 F74) 8 L894) 7 F94) 1 gs94 := (congrArg (fun g9 => fT g9 1 gs94) ((fT_sw _ _ _ (Nat.ne_of_beq_eq_false rfl)).trans (congrArg (fun g9 => fT g9 8 L894) (fT_sm _ _ _ _)))).symm
          rw [← e9] at hP hD
          clear e9
          have hP : va_P (dC, dI) vwCl (WR a k h0 (fT vi 11 qk94) (fT vj 12 qd94) (fT (fT (fT (fT (fT vF 0 g94) 2 f2w94) 3 f3w94) 4 (upd (vF 4) (nI (C - 1)).toNatClampNeg ((vF 5) lb))) 5 (upd (vF 5) (nI lb).toNatClampNeg ((vF 4) (C - 1)))) (fT (fT (fT vG 7 F94) 8 L894) 1 gs94)) H := hP
          have hD : va_D A (WR a k h0 (fT vi 11 qk94) (fT vj 12 qd94) (fT (fT (fT (fT (fT vF 0 g94) 2 f2w94) 3 f3w94) 4 (upd (vF 4) (nI (C - 1)).toNatClampNeg ((vF 5) lb))) 5 (upd (vF 5) (nI lb).toNatClampNeg ((vF 4) (C - 1)))) (fT (fT (fT vG 7 F94) 8 L894) 1 gs94)) := hD
          revert hw9
          refine fz_a3 ?_
          intro f94_0 f94_1 f94_2
          refine lv_aload_n hx hb dX12_canKeep_97 rfl (lv_at hl 0 rfl) ?_
          refine lv_aload_n hx hb dX12_canKeep_98 rfl (lv_at hl 0 rfl) ?_
          refine va_get (D := (dC, dI)) (ci := 12) (v := .int (vi 6)) (C := RX12) (T := TX12) (N := 163) (fs := fM (vS a (fT vi 11 qk94) (fT vj 12 qd94))) hx hb hts iwsRX12_canKeep_in12 hown hK hP 0 rfl rfl 6 (by decide) (hts (.fieldLink RX12 399 "OptimaWorksModel" "rows" "I") (by decide +kernel)) (fun _ h9 => h9) rfl dX12_canKeep_99 ?_
          refine lv_topi (fun y4 hy4 => ?_)
          obtain rfl : (nI R) = y4 := (hy4.trans (hR)).symm
          have hFc := allFree hD hS hA
          refine va_calli (va_runV (As := [.int (nI R)]) (rest := []) ⟨hx, hb, hml, hown, hts⟩ (r_X12_raise l dC dI a k h0 (fT vi 11 qk94) (fT vj 12 qd94) (fT (fT (fT (fT (fT vF 0 g94) 2 f2w94) 3 f3w94) 4 (upd (vF 4) (nI (C - 1)).toNatClampNeg ((vF 5) lb))) 5 (upd (vF 5) (nI lb).toNatClampNeg ((vF 4) (C - 1)))) (fT (fT (fT vG 7 F94) 8 L894) 1 gs94) R a_ C R Gq (nvT lb (C - 1) (sgI (a_ lb (C - 1))) a_ 1) (sgI (a_ lb (C - 1)) * a_ lb (C - 1)) m294 f94_0 (by first | with_reducible assumption | decide | omega | rfl | assumption) (by first | with_reducible assumption | decide | omega | rfl | assumption) (by first | with_reducible assumption | decide | omega | rfl | assumption) (by first | with_reducible assumption | decide | omega | rfl | assumption) (by first | with_reducible assumption | decide | omega | rfl | assumption) (by first | with_reducible assumption | decide | omega | rfl | assumption) (f94_1) (hSa) (by first | with_reducible assumption | decide | omega | rfl | assumption) (hGa) (by first | with_reducible assumption | decide | omega | rfl | assumption) (by first | with_reducible assumption | decide | omega | rfl | assumption) H.size) (cwV 1 hts gwsRX12_canKeep_2 rfl rfl rfl hd_yX12_raise_RX12 (by decide +kernel)) (fz_pre (va_recv hK hP (ci := 12) (q0 := 0) rfl rfl) hP hK hD) rfl rfl hl.1 rfl (lv_room (Nat.le_of_ble_eq_true rfl)) dX12_canKeep_102 (by decide +kernel)) hS (fun q _ h => hFc q h) hFc (fun r102 u t9_ H locs ht hvm hw9 hB9 hz1 hk1 hS => ?_)
          revert u
          refine fz_p14 ?_
          intro g102 f2w102 f3w102 f4102 f5102 f6102 gs102 F102 L8102 qk102 qd102 m2102 t2102 D2102 hw9 hB9
          try dsimp only at hw9 hB9
          have hP : va_P (dC, dI) vwCl (WR a k h0 (fT (fT vi 11 qk94) 11 qk102) (fT (fT vj 12 qd94) 12 qd102) (fT (fT (fT (fT (fT (fT (fT (fT (fT (fT (fT vF 0 g94) 2 f2w94) 3 f3w94) 4 (upd (vF 4) (nI (C - 1)).toNatClampNeg ((vF 5) lb))) 5 (upd (vF 5) (nI lb).toNatClampNeg ((vF 4) (C - 1)))) 0 g102) 2 f2w102) 3 f3w102) 4 f4102) 5 f5102) 6 f6102) (fT (fT (fT (fT (fT (fT vG 7 F94) 8 L894) 1 gs94) 1 gs102) 7 F102) 8 L8102)) H := fz_P ht hB9.1
          have hD : va_D A (WR a k h0 (fT (fT vi 11 qk94) 11 qk102) (fT (fT vj 12 qd94) 12 qd102) (fT (fT (fT (fT (fT (fT (fT (fT (fT (fT (fT vF 0 g94) 2 f2w94) 3 f3w94) 4 (upd (vF 4) (nI (C - 1)).toNatClampNeg ((vF 5) lb))) 5 (upd (vF 5) (nI lb).toNatClampNeg ((vF 4) (C - 1)))) 0 g102) 2 f2w102) 3 f3w102) 4 f4102) 5 f5102) 6 f6102) (fT (fT (fT (fT (fT (fT vG 7 F94) 8 L894) 1 gs94) 1 gs102) 7 F102) 8 L8102)) := hB9.2.weaken (fun _ q _ h => hFc q.1 h)
          have e9 : fT vi 11 qk102 = fT (fT vi 11 qk94) 11 qk102 := (fT_sm _ _ _ _).symm
          rw [← e9] at hP hD
          clear e9
          have e9 : fT vj 12 qd102 = fT (fT vj 12 qd94) 12 qd102 := (fT_sm _ _ _ _).symm
          rw [← e9] at hP hD
          clear e9
          have e9 : fT (fT (fT (fT (fT (fT vF 0 g102) 2 f2w102) 3 f3w102) 4 f4102) 5 f5102) 6 f6102 = fT (fT (fT (fT (fT (fT (fT (fT (fT (fT (fT vF 0 g94) 2 f2w94) 3 f3w94) 4 (upd (vF 4) (nI (C - 1)).toNatClampNeg ((vF 5) lb))) 5 (upd (vF 5) (nI lb).toNatClampNeg ((vF 4) (C - 1)))) 0 g102) 2 f2w102) 3 f3w102) 4 f4102) 5 f5102) 6 f6102 := ((congrArg (fun g9 => fT (fT (fT (fT (fT g9 2 f2w102) 3 f3w102) 4 f4102) 5 f5102) 6 f6102) ((fT_sw _ _ _ (Nat.ne_of_beq_eq_false rfl)).trans (congrArg (fun g9 => fT g9 5 (upd (vF 5) (nI lb).toNatClampNeg ((vF 4) (C - 1)))) ((fT_sw _ _ _ (Nat.ne_of_beq_eq_false rfl)).trans (congrArg (fun g9 => fT g9 4 (upd (vF 4) (nI (C - 1)).toNatClampNeg ((vF 5) lb))) ((fT_sw _ _ _ (Nat.ne_of_beq_eq_false rfl)).trans (congrArg (fun g9 => fT g9 3 f3w94) ((fT_sw _ _ _ (Nat.ne_of_beq_eq_false rfl)).trans (congrArg (fun g9 => fT g9 2 f2w94) (fT_sm _ _ _ _)))))))))).trans ((congrArg (fun g9 => fT (fT (fT (fT g9 3 f3w102) 4 f4102) 5 f5102) 6 f6102) ((fT_sw _ _ _ (Nat.ne_of_beq_eq_false rfl)).trans (congrArg (fun g9 => fT g9 5 (upd (vF 5) (nI lb).toNatClampNeg ((vF 4) (C - 1)))) ((fT_sw _ _ _ (Nat.ne_of_beq_eq_false rfl)).trans (congrArg (fun g9 => fT g9 4 (upd (vF 4) (nI (C - 1)).toNatClampNeg ((vF 5) lb))) ((fT_sw _ _ _ (Nat.ne_of_beq_eq_false rfl)).trans (congrArg (fun g9 => fT g9 3 f3w94) (fT_sm _ _ _ _)))))))).trans ((congrArg (fun g9 => fT (fT (fT g9 4 f4102) 5 f5102) 6 f6102) ((fT_sw _ _ _ (Nat.ne_of_beq_eq_false rfl)).trans (congrArg (fun g9 => fT g9 5 (upd (vF 5) (nI lb).toNatClampNeg ((vF 4) (C - 1)))) ((fT_sw _ _ _ (Nat.ne_of_beq_eq_false rfl)).trans (congrArg (fun g9 => fT g9 4 (upd (vF 4) (nI (C - 1)).toNatClampNeg ((vF 5) lb))) (fT_sm _ _ _ _)))))).trans ((congrArg (fun g9 => fT (fT g9 5 f5102) 6 f6102) ((fT_sw _ _ _ (Nat.ne_of_beq_eq_false rfl)).trans (congrArg (fun g9 => fT g9 5 (upd (vF 5) (nI lb).toNatClampNeg ((vF 4) (C - 1)))) (fT_sm _ _ _ _)))).trans (congrArg (fun g9 => fT g9 6 f6102) (fT_sm _ _ _ _)))))).symm
          rw [← e9] at hP hD
          clear e9
          have e9 : fT (fT (fT vG 7 F102) 8 L8102) 1 gs102 = fT (fT (fT (fT (fT (fT vG 7 F94) 8 L894) 1 gs94) 1 gs102) 7 F102) 8 L8102 := ((congrArg (fun g9 => fT (fT g9 7 F102) 8 L8102) (fT_sm _ _ _ _)).trans ((congrArg (fun g9 => fT g9 8 L8102) ((fT_sw _ _ _ (Nat.ne_of_beq_eq_false rfl)).trans (congrArg (fun g9 => fT g9 1 gs102) ((fT_sw _ _ _ (Nat.ne_of_beq_eq_false rfl)).trans (congrArg (fun g9 => fT g9 8 L894) (fT_sm _ _ _ _)))))).trans ((fT_sw _ _ _ (Nat.ne_of_beq_eq_false rfl)).trans (congrArg (fun g9 => fT g9 1 gs102) (fT_sm _ _ _ _))))).symm
          rw [← e9] at hP hD
          clear e9
          have hP : va_P (dC, dI) vwCl (WR a k h0 (fT vi 11 qk102) (fT vj 12 qd102) (fT (fT (fT (fT (fT (fT vF 0 g102) 2 f2w102) 3 f3w102) 4 f4102) 5 f5102) 6 f6102) (fT (fT (fT vG 7 F102) 8 L8102) 1 gs102)) H := hP
          have hD : va_D A (WR a k h0 (fT vi 11 qk102) (fT vj 12 qd102) (fT (fT (fT (fT (fT (fT vF 0 g102) 2 f2w102) 3 f3w102) 4 f4102) 5 f5102) 6 f6102) (fT (fT (fT vG 7 F102) 8 L8102) 1 gs102)) := hD
          revert hw9
          refine fz_a6 ?_
          intro f102_0 f102_1 f102_2 f102_3 f102_4 f102_5
          refine lv_pop hx hb dX12_canKeep_105 rfl ?_
          have e9 : fT (fT (fT vG 7 F102) 1 gs102) 8 L8102 = fT (fT (fT vG 7 F102) 8 L8102) 1 gs102 := by funext q9; by_cases h9_7 : q9 = 7; (subst h9_7; exact ((fT_ne _ _ (Nat.ne_of_beq_eq_false rfl)).trans ((fT_ne _ _ (Nat.ne_of_beq_eq_false rfl)).trans (fT_eq _ _ _))).trans (Eq.trans (by first | with_reducible rfl | with_reducible assumption | (symm; with_reducible assumption) | rfl | assumption | (symm; assumption) | (subst_vars; rfl)) ((fT_ne _ _ (Nat.ne_of_beq_eq_false rfl)).trans ((fT_ne _ _ (Nat.ne_of_beq_eq_false rfl)).trans (fT_eq _ _ _))).symm)); by_cases h9_1 : q9 = 1; (subst h9_1; exact ((fT_ne _ _ (Nat.ne_of_beq_eq_false rfl)).trans (fT_eq _ _ _)).trans (Eq.trans (by first | with_reducible rfl | with_reducible assumption | (symm; with_reducible assumption) | rfl | assumption | (symm; assumption) | (subst_vars; rfl)) (fT_eq _ _ _).symm)); by_cases h9_8 : q9 = 8; (subst h9_8; exact (fT_eq _ _ _).trans (Eq.trans (by first | with_reducible rfl | with_reducible assumption | (symm; with_reducible assumption) | rfl | assumption | (symm; assumption) | (subst_vars; rfl)) ((fT_ne _ _ (Nat.ne_of_beq_eq_false rfl)).trans (fT_eq _ _ _)).symm)); exact ((fT_ne _ _ h9_8).trans ((fT_ne _ _ h9_1).trans (fT_ne _ _ h9_7))).trans ((fT_ne _ _ h9_1).trans ((fT_ne _ _ h9_8).trans (fT_ne _ _ h9_7))).symm
          have hP : va_P (dC, dI) vwCl (WR a k h0 (fT vi 11 qk102) (fT vj 12 qd102) (fT (fT (fT (fT (fT (fT vF 0 g102) 2 f2w102) 3 f3w102) 4 f4102) 5 f5102) 6 f6102) (fT (fT (fT vG 7 F102) 1 gs102) 8 L8102)) H := by rw [e9]; exact hP
          have hD : va_D A (WR a k h0 (fT vi 11 qk102) (fT vj 12 qd102) (fT (fT (fT (fT (fT (fT vF 0 g102) 2 f2w102) 3 f3w102) 4 f4102) 5 f5102) 6 f6102) (fT (fT (fT vG 7 F102) 1 gs102) 8 L8102)) := by rw [e9]; exact hD
          clear e9
          have hl : lv_has _ _ ([(0, .ref h0), (1, .int (nI (C - 1)))]) := lv_sub hl [0, 1] rfl
          exact join1 _ _ _ _ ⟨t2102, D2102, g102, f2w102, f3w102, f4102, f5102, f6102, gs102, F102, L8102, qk102, qd102, m2102, f102_0, f102_1, f102_2, f102_3, fun q hq => by (rw [f102_4 _ (by omega), f94_2 _ (by omega)]), rfl, hP, hD, hS, hl⟩
        · rintro H locs ls stk ⟨tA, DA, gA, f2A, f3A, f4A, f5A, f6A, gsA, FA, L8A, qkA, qdA, mA, hBA, hTA, hSA, hGA, hoA, rfl, hP, hD, hS, hl⟩
          refine lv_aload_n hx hb dX12_canKeep_106 rfl (lv_at hl 0 rfl) ?_
          refine lv_aload_n hx hb dX12_canKeep_107 rfl (lv_at hl 0 rfl) ?_
          refine va_get (D := (dC, dI)) (ci := 12) (v := .int (vi 6)) (C := RX12) (T := TX12) (N := 163) (fs := fM (vS a (fT vi 11 qkA) (fT vj 12 qdA))) hx hb hts iwsRX12_canKeep_in12 hown hK hP 0 rfl rfl 6 (by decide) (hts (.fieldLink RX12 399 "OptimaWorksModel" "rows" "I") (by decide +kernel)) (fun _ h9 => h9) rfl dX12_canKeep_108 ?_
          refine lv_topi (fun y5 hy5 => ?_)
          obtain rfl : (nI R) = y5 := (hy5.trans (hR)).symm
          refine lv_aload_n hx hb dX12_canKeep_111 rfl (lv_at hl 0 rfl) ?_
          refine va_get (D := (dC, dI)) (ci := 12) (v := .int (vi 5)) (C := RX12) (T := TX12) (N := 163) (fs := fM (vS a (fT vi 11 qkA) (fT vj 12 qdA))) hx hb hts iwsRX12_canKeep_in12 hown hK hP 0 rfl rfl 5 (by decide) (hts (.fieldLink RX12 396 "OptimaWorksModel" "columns" "I") (by decide +kernel)) (fun _ h9 => h9) rfl dX12_canKeep_112 ?_
          refine lv_topi (fun y6 hy6 => ?_)
          obtain rfl : (nI C) = y6 := (hy6.trans (hC)).symm
          have hFc := allFree hD hS hA
          refine va_calli (va_runV (As := [.int (nI R), .int (nI C)]) (rest := []) ⟨hx, hb, hml, hown, hts⟩ (r_X12_signAt l dC dI a k h0 (fT vi 11 qkA) (fT vj 12 qdA) (fT (fT (fT (fT (fT (fT vF 0 gA) 2 f2A) 3 f3A) 4 f4A) 5 f5A) 6 f6A) (fT (fT (fT vG 7 FA) 1 gsA) 8 L8A) R C C (R + Gq) tA DA mA hBA (by first | with_reducible assumption | decide | omega | rfl | assumption) (hTA) (by first | with_reducible assumption | decide | omega | rfl | assumption) (by first | with_reducible assumption | decide | omega | rfl | assumption) (by first | with_reducible assumption | decide | omega | rfl | assumption) (by first | with_reducible assumption | decide | omega | rfl | assumption) (by first | with_reducible assumption | decide | omega | rfl | assumption) H.size) (cwV 2 hts gwsRX12_canKeep_3 rfl rfl rfl hd_yX12_signAt_RX12 (by decide +kernel)) (fz_pre (va_recv hK hP (ci := 12) (q0 := 0) rfl rfl) hP hK hD) rfl rfl hl.1 rfl (lv_room (Nat.le_of_ble_eq_true rfl)) dX12_canKeep_115 (by decide +kernel)) hS (fun q _ h => hFc q h) hFc (fun r115 u t9_ H locs ht hvm hw9 hB9 hz1 hk1 hS => ?_)
          have hP : va_P (dC, dI) vwCl (WR a k h0 (fT vi 11 qkA) (fT vj 12 qdA) (fT (fT (fT (fT (fT (fT vF 0 gA) 2 f2A) 3 f3A) 4 f4A) 5 f5A) 6 f6A) (fT (fT (fT vG 7 FA) 1 gsA) 8 L8A)) H := fz_P ht hB9.1
          have hD : va_D A (WR a k h0 (fT vi 11 qkA) (fT vj 12 qdA) (fT (fT (fT (fT (fT (fT vF 0 gA) 2 f2A) 3 f3A) 4 f4A) 5 f5A) 6 f6A) (fT (fT (fT vG 7 FA) 1 gsA) 8 L8A)) := hB9.2.weaken (fun _ q _ h => hFc q.1 h)
          have f115_0 := hw9
          try dsimp only at f115_0
          refine lv_if_ge (tgt := 123) hx hb dX12_canKeep_118 (by decide) (fun c_118 => ?_) (fun c_118 => ?_)
          · have t_118 : (r115).toInt ≥ 0 := toI_ge c_118 rfl (by decide)
            refine lv_iconst (v := 0) hx hb dX12_canKeep_123 (by decide) ?_
            refine lv_istore_n hx hb dX12_canKeep_124 rfl hl (by decide) rfl (fun ls (hl : lv_has ls _ ([(3, .int 0), (0, .ref h0), (1, .int (nI (C - 1)))])) => ?_)
            have hl : lv_has _ _ ([(0, .ref h0), (1, .int (nI (C - 1))), (3, .int (nI 0))]) := lv_sub hl [1, 2, 0] rfl
            refine (fun (loop : ∀ (n9 : Nat) (i : Nat) (t1 : Nat → Nat → Int) (D1 : Int) (g1 : Nat → Int32) (f21 : Nat → Int32) (f31 : Nat → Int32) (f41 : Nat → Int32) (f51 : Nat → Int32) (gs1 : Nat → Int64) (F1 : Nat → Int64) (L81 : Nat → Int64) (qk1 : Int32) (qd1 : Int64) (m1 : Nat → Int) (H : Heap) (locs : List Loc) (ls : Array Slot), (Bg g1 m1) → (i ≤ R) → (Tab qk1 C (R + Gq) m1 F1 qd1 t1 D1) → (Sx C R (R + Gq) a_ t1 D1 f41 f51) → (∀ i, i < R → 0 ≤ t1 i C) → (0 ≤ t1 R C) → (∀ q, (q < 20 ∨ (26 < q ∧ q < 30) ∨ 30 + (R + Gq) * (C + 1) ≤ q) → m1 q = mg q) →  (R < i + n9) → va_P (dC, dI) vwCl (WR a k h0 (fT vi 11 qk1) (fT vj 12 qd1) (fT (fT (fT (fT (fT (fT vF 0 g1) 2 f21) 3 f31) 4 f41) 5 f51) 6 f6A) (fT (fT (fT vG 7 F1) 1 gs1) 8 L81)) H → va_D A (WR a k h0 (fT vi 11 qk1) (fT vj 12 qd1) (fT (fT (fT (fT (fT (fT vF 0 g1) 2 f21) 3 f31) 4 f41) 5 f51) 6 f6A) (fT (fT (fT vG 7 F1) 1 gs1) 8 L81)) → va_S A s.heap H locs → lv_has ls 5 [(0, .ref h0), (1, .int (nI (C - 1))), (3, .int (nI i))] → W p l e _ s m _ below meth c H locs 0 0 _ (F0 m 125 ls [])) => loop (R + 1) 0 tA DA gA f2A f3A f4A f5A gsA FA L8A qkA qdA mA _ _ _ (hBA) (by omega) (hTA) (hSA) (hGA) (by (have f9 := f115_0); omega) (hoA) (by omega) hP hD hS hl) ?_
            intro n9
            induction n9 with
            | zero => intro i t1 D1 g1 f21 f31 f41 f51 gs1 F1 L81 qk1 qd1 m1 H locs ls hB1 hi9 hT1 hS1 hG1 hRC ho hf9; exact False.elim (by omega)
            | succ n9 ih125_1 =>
              intro i t1 D1 g1 f21 f31 f41 f51 gs1 F1 L81 qk1 qd1 m1 H locs ls hB1 hi9 hT1 hS1 hG1 hRC ho hf125_1 hP hD hS hl
              refine lv_iload_n hx hb dX12_canKeep_125 rfl (lv_at hl 2 rfl) ?_
              refine lv_aload_n hx hb dX12_canKeep_126 rfl (lv_at hl 0 rfl) ?_
              refine va_get (D := (dC, dI)) (ci := 12) (v := .int (vi 6)) (C := RX12) (T := TX12) (N := 163) (fs := fM (vS a (fT vi 11 qk1) (fT vj 12 qd1))) hx hb hts iwsRX12_canKeep_in12 hown hK hP 0 rfl rfl 6 (by decide) (hts (.fieldLink RX12 399 "OptimaWorksModel" "rows" "I") (by decide +kernel)) (fun _ h9 => h9) rfl dX12_canKeep_127 ?_
              refine lv_topi (fun y7 hy7 => ?_)
              obtain rfl : (nI R) = y7 := (hy7.trans (hR)).symm
              refine lv_icmp_ge (tgt := 196) hx hb dX12_canKeep_130 (by decide) (fun c_130 => ?_) (fun c_130 => ?_)
              · have t_130 : ((i : Nat) : Int) ≥ ((R : Nat) : Int) := toI_ge c_130 (nI_toInt (by omega)) (nI_toInt (by omega))
                refine lv_iconst (v := 0) hx hb dX12_canKeep_196 (by decide) ?_
                refine lv_istore_n hx hb dX12_canKeep_197 rfl hl (by decide) rfl (fun ls (hl : lv_has ls _ ([(3, .int 0), (0, .ref h0), (1, .int (nI (C - 1)))])) => ?_)
                have hl : lv_has _ _ ([(0, .ref h0), (1, .int (nI (C - 1))), (3, .int (nI 0))]) := lv_sub hl [1, 2, 0] rfl
                refine (fun (loop : ∀ (n9 : Nat) (k6 : Nat) (f61 : Nat → Int32) (H : Heap) (locs : List Loc) (ls : Array Slot), (k6 ≤ C) →  (C < k6 + n9) → va_P (dC, dI) vwCl (WR a k h0 (fT vi 11 qk1) (fT vj 12 qd1) (fT (fT (fT (fT (fT (fT vF 0 g1) 2 f21) 3 f31) 4 f41) 5 f51) 6 f61) (fT (fT (fT vG 7 F1) 1 gs1) 8 L81)) H → va_D A (WR a k h0 (fT vi 11 qk1) (fT vj 12 qd1) (fT (fT (fT (fT (fT (fT vF 0 g1) 2 f21) 3 f31) 4 f41) 5 f51) 6 f61) (fT (fT (fT vG 7 F1) 1 gs1) 8 L81)) → va_S A s.heap H locs → lv_has ls 5 [(0, .ref h0), (1, .int (nI (C - 1))), (3, .int (nI k6))] → W p l e _ s m _ below meth c H locs 0 0 _ (F0 m 198 ls [])) => loop (C + 1) 0 f6A _ _ _ (by omega) (by omega) hP hD hS hl) ?_
                intro n9
                induction n9 with
                | zero => intro k6 f61 H locs ls hk6 hf9; exact False.elim (by omega)
                | succ n9 ih198_2 =>
                  intro k6 f61 H locs ls hk6 hf198_2 hP hD hS hl
                  refine lv_iload_n hx hb dX12_canKeep_198 rfl (lv_at hl 2 rfl) ?_
                  refine lv_aload_n hx hb dX12_canKeep_199 rfl (lv_at hl 0 rfl) ?_
                  refine va_get (D := (dC, dI)) (ci := 12) (v := .int (vi 5)) (C := RX12) (T := TX12) (N := 163) (fs := fM (vS a (fT vi 11 qk1) (fT vj 12 qd1))) hx hb hts iwsRX12_canKeep_in12 hown hK hP 0 rfl rfl 5 (by decide) (hts (.fieldLink RX12 396 "OptimaWorksModel" "columns" "I") (by decide +kernel)) (fun _ h9 => h9) rfl dX12_canKeep_200 ?_
                  refine lv_topi (fun y8 hy8 => ?_)
                  obtain rfl : (nI C) = y8 := (hy8.trans (hC)).symm
                  refine lv_icmp_ge (tgt := 242) hx hb dX12_canKeep_203 (by decide) (fun c_203 => ?_) (fun c_203 => ?_)
                  · have t_203 : ((k6 : Nat) : Int) ≥ ((C : Nat) : Int) := toI_ge c_203 (nI_toInt (by omega)) (nI_toInt (by omega))
                    refine lv_iconst (v := 1) hx hb dX12_canKeep_242 (by decide) ?_
                    refine W.widen (k := 0) (n := 0) (by decide +kernel) (by decide +kernel) ?_
                    exact W.zret (v := 1) hx hb hr rfl (fun t9_ ht hW => ⟨⟨1, (g1, f21, f31, f41, f51, f61, gs1, F1, L81, qk1, qd1, m1, t1, D1), rfl, by (try dsimp only); exact Or.inr ⟨rfl, hB1, hT1, hS1, hG1, ho⟩, by rw [ht]; exact hP, hD⟩, hS.F ht⟩) hS.2.2 dX12_canKeep_243
                  · have t_203 : ¬ ((k6 : Nat) : Int) ≥ ((C : Nat) : Int) := toI_nge c_203 (nI_toInt (by omega)) (nI_toInt (by omega))
                    refine lv_aload_n hx hb dX12_canKeep_206 rfl (lv_at hl 0 rfl) ?_
                    refine va_get (D := (dC, dI)) (ci := 12) (v := .ref (a 6)) (C := RX12) (T := TX12) (N := 163) (fs := fM (vS a (fT vi 11 qk1) (fT vj 12 qd1))) hx hb hts iwsRX12_canKeep_in12 hown hK hP 0 rfl rfl 10 (by decide) (hts (.fieldLink RX12 29 "OptimaWorksModel" "still" "[Z") (by decide +kernel)) (fun _ h9 => h9) rfl dX12_canKeep_207 ?_
                    refine lv_iload_n hx hb dX12_canKeep_210 rfl (lv_at hl 2 rfl) ?_
                    refine lv_aload_n hx hb dX12_canKeep_211 rfl (lv_at hl 0 rfl) ?_
                    refine va_get (D := (dC, dI)) (ci := 12) (v := .ref (a 6)) (C := RX12) (T := TX12) (N := 163) (fs := fM (vS a (fT vi 11 qk1) (fT vj 12 qd1))) hx hb hts iwsRX12_canKeep_in12 hown hK hP 0 rfl rfl 10 (by decide) (hts (.fieldLink RX12 29 "OptimaWorksModel" "still" "[Z") (by decide +kernel)) (fun _ h9 => h9) rfl dX12_canKeep_212 ?_
                    refine lv_iload_n hx hb dX12_canKeep_215 rfl (lv_at hl 2 rfl) ?_
                    refine va_zald (cA := k 6) (n := 46) (f := f61) hx hb hK hP 7 6 (WR_get 6 (by decide)) (TR_get 6 (by decide)) (vp_in_nI (show k6 < 46 by omega) (by omega)) dX12_canKeep_216 ?_
                    refine lv_topi (fun y9 hy9 => ?_)
                    obtain rfl : (f61 k6) = y9 := (hy9.trans (by rw [nI_clamp (by omega)])).symm
                    refine lv_if_ne (tgt := 230) hx hb dX12_canKeep_217 (by decide) (fun c_217 => ?_) (fun c_217 => ?_)
                    · have t_217 : ((f61 k6)).toInt ≠ 0 := toI_ne c_217 rfl (by decide)
                      refine lv_iconst (v := 1) hx hb dX12_canKeep_230 (by decide) ?_
                      refine lv_goto (tgt := 235) hx hb dX12_canKeep_231 (by decide) ?_
                      refine va_zast (cA := k 6) (n := 46) (f := f61) hx hb hK hP hD hS 7 6 (WR_get 6 (by decide)) (TR_get 6 (by decide)) (vp_in_nI (show k6 < 46 by omega) (by omega)) dX12_canKeep_235 (fun H locs hP hD hS => ?_)
                      have e9 : fT (fT (fT (fT (fT (fT vF 0 g1) 2 f21) 3 f31) 4 f41) 5 f51) 6 (upd f61 ((nI k6)).toNatClampNeg (vp_nar FieldType.boolean 1)) = fT (fT (fT (fT (fT (fT (fT vF 0 g1) 2 f21) 3 f31) 4 f41) 5 f51) 6 f61) 6 (upd f61 ((nI k6)).toNatClampNeg (vp_nar FieldType.boolean 1)) := (fT_sm _ _ _ _).symm
                      have hP : va_P (dC, dI) vwCl (WR a k h0 (fT vi 11 qk1) (fT vj 12 qd1) (fT (fT (fT (fT (fT (fT vF 0 g1) 2 f21) 3 f31) 4 f41) 5 f51) 6 (upd f61 ((nI k6)).toNatClampNeg (vp_nar FieldType.boolean 1))) (fT (fT (fT vG 7 F1) 1 gs1) 8 L81)) H := by rw [e9, ← WR_F 6 (by decide) _ rfl]; exact hP
                      have hD : va_D A (WR a k h0 (fT vi 11 qk1) (fT vj 12 qd1) (fT (fT (fT (fT (fT (fT vF 0 g1) 2 f21) 3 f31) 4 f41) 5 f51) 6 (upd f61 ((nI k6)).toNatClampNeg (vp_nar FieldType.boolean 1))) (fT (fT (fT vG 7 F1) 1 gs1) 8 L81)) := by rw [e9, ← WR_F 6 (by decide) _ rfl]; exact hD
                      clear e9
                      refine lv_iinc (v := (nI (k6 + 1))) hx hb dX12_canKeep_236 hl (k := 2) rfl (nI_add k6 1) (by decide) rfl (fun ls (hl : lv_has ls _ ([(3, .int (nI (k6 + 1))), (0, .ref h0), (1, .int (nI (C - 1)))])) => ?_)
                      refine lv_goto (tgt := 198) hx hb dX12_canKeep_239 (by decide) ?_
                      have hl : lv_has _ _ ([(0, .ref h0), (1, .int (nI (C - 1))), (3, .int (nI (k6 + 1)))]) := lv_sub hl [1, 2, 0] rfl
                      exact ih198_2 (k6 + 1) (upd f61 ((nI k6)).toNatClampNeg (vp_nar FieldType.boolean 1)) _ _ _ (by omega) (by omega) hP hD hS hl
                    · have t_217 : ((f61 k6)).toInt = 0 := toI_nne c_217 rfl (by decide)
                      refine lv_aload_n hx hb dX12_canKeep_220 rfl (lv_at hl 0 rfl) ?_
                      refine va_get (D := (dC, dI)) (ci := 12) (v := .ref (a 4)) (C := RX12) (T := TX12) (N := 163) (fs := fM (vS a (fT vi 11 qk1) (fT vj 12 qd1))) hx hb hts iwsRX12_canKeep_in12 hown hK hP 0 rfl rfl 8 (by decide) (hts (.fieldLink RX12 23 "OptimaWorksModel" "columnOf" "[I") (by decide +kernel)) (fun _ h9 => h9) rfl dX12_canKeep_221 ?_
                      refine lv_iload_n hx hb dX12_canKeep_224 rfl (lv_at hl 2 rfl) ?_
                      refine va_iald (cA := k 4) (n := 46) (f := f41) hx hb hK hP 5 4 (WR_get 4 (by decide)) (TR_get 4 (by decide)) (vp_in_nI (show k6 < 46 by omega) (by omega)) dX12_canKeep_225 ?_
                      refine lv_topi (fun y10 hy10 => ?_)
                      obtain rfl : (f41 k6) = y10 := (hy10.trans (by rw [nI_clamp (by omega)])).symm
                      refine lv_iload_n hx hb dX12_canKeep_226 rfl (lv_at hl 1 rfl) ?_
                      refine lv_icmp_ne (tgt := 234) hx hb dX12_canKeep_227 (by decide) (fun c_227 => ?_) (fun c_227 => ?_)
                      · have t_227 : ((f41 k6)).toInt ≠ (((C - 1) : Nat) : Int) := toI_ne c_227 rfl (nI_toInt (by omega))
                        refine lv_iconst (v := 0) hx hb dX12_canKeep_234 (by decide) ?_
                        refine va_zast (cA := k 6) (n := 46) (f := f61) hx hb hK hP hD hS 7 6 (WR_get 6 (by decide)) (TR_get 6 (by decide)) (vp_in_nI (show k6 < 46 by omega) (by omega)) dX12_canKeep_235 (fun H locs hP hD hS => ?_)
                        have e9 : fT (fT (fT (fT (fT (fT vF 0 g1) 2 f21) 3 f31) 4 f41) 5 f51) 6 (upd f61 ((nI k6)).toNatClampNeg (vp_nar FieldType.boolean 0)) = fT (fT (fT (fT (fT (fT (fT vF 0 g1) 2 f21) 3 f31) 4 f41) 5 f51) 6 f61) 6 (upd f61 ((nI k6)).toNatClampNeg (vp_nar FieldType.boolean 0)) := (fT_sm _ _ _ _).symm
                        have hP : va_P (dC, dI) vwCl (WR a k h0 (fT vi 11 qk1) (fT vj 12 qd1) (fT (fT (fT (fT (fT (fT vF 0 g1) 2 f21) 3 f31) 4 f41) 5 f51) 6 (upd f61 ((nI k6)).toNatClampNeg (vp_nar FieldType.boolean 0))) (fT (fT (fT vG 7 F1) 1 gs1) 8 L81)) H := by rw [e9, ← WR_F 6 (by decide) _ rfl]; exact hP
                        have hD : va_D A (WR a k h0 (fT vi 11 qk1) (fT vj 12 qd1) (fT (fT (fT (fT (fT (fT vF 0 g1) 2 f21) 3 f31) 4 f41) 5 f51) 6 (upd f61 ((nI k6)).toNatClampNeg (vp_nar FieldType.boolean 0))) (fT (fT (fT vG 7 F1) 1 gs1) 8 L81)) := by rw [e9, ← WR_F 6 (by decide) _ rfl]; exact hD
                        clear e9
                        refine lv_iinc (v := (nI (k6 + 1))) hx hb dX12_canKeep_236 hl (k := 2) rfl (nI_add k6 1) (by decide) rfl (fun ls (hl : lv_has ls _ ([(3, .int (nI (k6 + 1))), (0, .ref h0), (1, .int (nI (C - 1)))])) => ?_)
                        refine lv_goto (tgt := 198) hx hb dX12_canKeep_239 (by decide) ?_
                        have hl : lv_has _ _ ([(0, .ref h0), (1, .int (nI (C - 1))), (3, .int (nI (k6 + 1)))]) := lv_sub hl [1, 2, 0] rfl
                        exact ih198_2 (k6 + 1) (upd f61 ((nI k6)).toNatClampNeg (vp_nar FieldType.boolean 0)) _ _ _ (by omega) (by omega) hP hD hS hl
                      · have t_227 : ((f41 k6)).toInt = (((C - 1) : Nat) : Int) := toI_nne c_227 rfl (nI_toInt (by omega))
                        refine lv_iconst (v := 1) hx hb dX12_canKeep_230 (by decide) ?_
                        refine lv_goto (tgt := 235) hx hb dX12_canKeep_231 (by decide) ?_
                        refine va_zast (cA := k 6) (n := 46) (f := f61) hx hb hK hP hD hS 7 6 (WR_get 6 (by decide)) (TR_get 6 (by decide)) (vp_in_nI (show k6 < 46 by omega) (by omega)) dX12_canKeep_235 (fun H locs hP hD hS => ?_)
                        have e9 : fT (fT (fT (fT (fT (fT vF 0 g1) 2 f21) 3 f31) 4 f41) 5 f51) 6 (upd f61 ((nI k6)).toNatClampNeg (vp_nar FieldType.boolean 1)) = fT (fT (fT (fT (fT (fT (fT vF 0 g1) 2 f21) 3 f31) 4 f41) 5 f51) 6 f61) 6 (upd f61 ((nI k6)).toNatClampNeg (vp_nar FieldType.boolean 1)) := (fT_sm _ _ _ _).symm
                        have hP : va_P (dC, dI) vwCl (WR a k h0 (fT vi 11 qk1) (fT vj 12 qd1) (fT (fT (fT (fT (fT (fT vF 0 g1) 2 f21) 3 f31) 4 f41) 5 f51) 6 (upd f61 ((nI k6)).toNatClampNeg (vp_nar FieldType.boolean 1))) (fT (fT (fT vG 7 F1) 1 gs1) 8 L81)) H := by rw [e9, ← WR_F 6 (by decide) _ rfl]; exact hP
                        have hD : va_D A (WR a k h0 (fT vi 11 qk1) (fT vj 12 qd1) (fT (fT (fT (fT (fT (fT vF 0 g1) 2 f21) 3 f31) 4 f41) 5 f51) 6 (upd f61 ((nI k6)).toNatClampNeg (vp_nar FieldType.boolean 1))) (fT (fT (fT vG 7 F1) 1 gs1) 8 L81)) := by rw [e9, ← WR_F 6 (by decide) _ rfl]; exact hD
                        clear e9
                        refine lv_iinc (v := (nI (k6 + 1))) hx hb dX12_canKeep_236 hl (k := 2) rfl (nI_add k6 1) (by decide) rfl (fun ls (hl : lv_has ls _ ([(3, .int (nI (k6 + 1))), (0, .ref h0), (1, .int (nI (C - 1)))])) => ?_)
                        refine lv_goto (tgt := 198) hx hb dX12_canKeep_239 (by decide) ?_
                        have hl : lv_has _ _ ([(0, .ref h0), (1, .int (nI (C - 1))), (3, .int (nI (k6 + 1)))]) := lv_sub hl [1, 2, 0] rfl
                        exact ih198_2 (k6 + 1) (upd f61 ((nI k6)).toNatClampNeg (vp_nar FieldType.boolean 1)) _ _ _ (by omega) (by omega) hP hD hS hl
              · have t_130 : ¬ ((i : Nat) : Int) ≥ ((R : Nat) : Int) := toI_nge c_130 (nI_toInt (by omega)) (nI_toInt (by omega))
                refine lv_aload_n hx hb dX12_canKeep_133 rfl (lv_at hl 0 rfl) ?_
                refine va_get (D := (dC, dI)) (ci := 12) (v := .ref (a 5)) (C := RX12) (T := TX12) (N := 163) (fs := fM (vS a (fT vi 11 qk1) (fT vj 12 qd1))) hx hb hts iwsRX12_canKeep_in12 hown hK hP 0 rfl rfl 9 (by decide) (hts (.fieldLink RX12 26 "OptimaWorksModel" "rowOf" "[I") (by decide +kernel)) (fun _ h9 => h9) rfl dX12_canKeep_134 ?_
                refine lv_iload_n hx hb dX12_canKeep_137 rfl (lv_at hl 2 rfl) ?_
                refine va_iald (cA := k 5) (n := 60) (f := f51) hx hb hK hP 6 5 (WR_get 5 (by decide)) (TR_get 5 (by decide)) (vp_in_nI (show i < 60 by omega) (by omega)) dX12_canKeep_138 ?_
                refine lv_topi (fun y11 hy11 => ?_)
                obtain rfl : (f51 i) = y11 := (hy11.trans (by rw [nI_clamp (by omega)])).symm
                refine lv_iload_n hx hb dX12_canKeep_139 rfl (lv_at hl 1 rfl) ?_
                refine lv_icmp_eq (tgt := 146) hx hb dX12_canKeep_140 (by decide) (fun c_140 => ?_) (fun c_140 => ?_)
                · have t_140 : ((f51 i)).toInt = (((C - 1) : Nat) : Int) := toI_eq c_140 rfl (nI_toInt (by omega))
                  refine lv_iconst (v := 0) hx hb dX12_canKeep_146 (by decide) ?_
                  refine lv_istore hx hb dX12_canKeep_147 hl (by decide) rfl (fun ls (hl : lv_has ls _ ([(4, .int 0), (0, .ref h0), (1, .int (nI (C - 1))), (3, .int (nI i))])) => ?_)
                  have hl : lv_has _ _ ([(0, .ref h0), (1, .int (nI (C - 1))), (3, .int (nI i)), (4, .int (nI 0))]) := lv_sub hl [1, 2, 3, 0] rfl
                  refine (fun (loop : ∀ (n9 : Nat) (cc : Nat) (H : Heap) (locs : List Loc) (ls : Array Slot), (cc ≤ C) →  (C < cc + n9) → va_P (dC, dI) vwCl (WR a k h0 (fT vi 11 qk1) (fT vj 12 qd1) (fT (fT (fT (fT (fT (fT vF 0 g1) 2 f21) 3 f31) 4 f41) 5 f51) 6 f6A) (fT (fT (fT vG 7 F1) 1 gs1) 8 L81)) H → va_D A (WR a k h0 (fT vi 11 qk1) (fT vj 12 qd1) (fT (fT (fT (fT (fT (fT vF 0 g1) 2 f21) 3 f31) 4 f41) 5 f51) 6 f6A) (fT (fT (fT vG 7 F1) 1 gs1) 8 L81)) → va_S A s.heap H locs → lv_has ls 5 [(0, .ref h0), (1, .int (nI (C - 1))), (3, .int (nI i)), (4, .int (nI cc))] → W p l e _ s m _ below meth c H locs 0 0 _ (F0 m 149 ls [])) => loop (C + 1) 0 _ _ _ (by omega) (by omega) hP hD hS hl) ?_
                  intro n9
                  induction n9 with
                  | zero => intro cc H locs ls hcc hf9; exact False.elim (by omega)
                  | succ n9 ih149_3 =>
                    intro cc H locs ls hcc hf149_3 hP hD hS hl
                    refine lv_iload hx hb dX12_canKeep_149 (lv_at hl 3 rfl) ?_
                    refine lv_aload_n hx hb dX12_canKeep_151 rfl (lv_at hl 0 rfl) ?_
                    refine va_get (D := (dC, dI)) (ci := 12) (v := .int (vi 5)) (C := RX12) (T := TX12) (N := 163) (fs := fM (vS a (fT vi 11 qk1) (fT vj 12 qd1))) hx hb hts iwsRX12_canKeep_in12 hown hK hP 0 rfl rfl 5 (by decide) (hts (.fieldLink RX12 396 "OptimaWorksModel" "columns" "I") (by decide +kernel)) (fun _ h9 => h9) rfl dX12_canKeep_152 ?_
                    refine lv_topi (fun y12 hy12 => ?_)
                    obtain rfl : (nI C) = y12 := (hy12.trans (hC)).symm
                    refine lv_icmp_ge (tgt := 174) hx hb dX12_canKeep_155 (by decide) (fun c_155 => ?_) (fun c_155 => ?_)
                    · have t_155 : ((cc : Nat) : Int) ≥ ((C : Nat) : Int) := toI_ge c_155 (nI_toInt (by omega)) (nI_toInt (by omega))
                      refine lv_iload hx hb dX12_canKeep_174 (lv_at hl 3 rfl) ?_
                      refine lv_aload_n hx hb dX12_canKeep_176 rfl (lv_at hl 0 rfl) ?_
                      refine va_get (D := (dC, dI)) (ci := 12) (v := .int (vi 5)) (C := RX12) (T := TX12) (N := 163) (fs := fM (vS a (fT vi 11 qk1) (fT vj 12 qd1))) hx hb hts iwsRX12_canKeep_in12 hown hK hP 0 rfl rfl 5 (by decide) (hts (.fieldLink RX12 396 "OptimaWorksModel" "columns" "I") (by decide +kernel)) (fun _ h9 => h9) rfl dX12_canKeep_177 ?_
                      refine lv_topi (fun y13 hy13 => ?_)
                      obtain rfl : (nI C) = y13 := (hy13.trans (hC)).symm
                      refine lv_icmp_ge (tgt := 190) hx hb dX12_canKeep_180 (by decide) (fun c_180 => ?_) (fun c9 => False.elim (by have t9 : ¬ ((cc : Nat) : Int) ≥ ((C : Nat) : Int) := toI_nge c9 (nI_toInt (by omega)) (nI_toInt (by omega)); omega))
                      have t_180 : ((cc : Nat) : Int) ≥ ((C : Nat) : Int) := toI_ge c_180 (nI_toInt (by omega)) (nI_toInt (by omega))
                      refine lv_iinc (v := (nI (i + 1))) hx hb dX12_canKeep_190 hl (k := 2) rfl (nI_add i 1) (by decide) rfl (fun ls (hl : lv_has ls _ ([(3, .int (nI (i + 1))), (0, .ref h0), (1, .int (nI (C - 1))), (4, .int (nI cc))])) => ?_)
                      refine lv_goto (tgt := 125) hx hb dX12_canKeep_193 (by decide) ?_
                      have hl : lv_has _ _ ([(0, .ref h0), (1, .int (nI (C - 1))), (3, .int (nI (i + 1)))]) := lv_sub hl [1, 2, 0] rfl
                      exact ih125_1 (i + 1) t1 D1 g1 f21 f31 f41 f51 gs1 F1 L81 qk1 qd1 m1 _ _ _ (hB1) (by omega) (hT1) (hS1) (hG1) (hRC) (ho) (by omega) hP hD hS hl
                    · have t_155 : ¬ ((cc : Nat) : Int) ≥ ((C : Nat) : Int) := toI_nge c_155 (nI_toInt (by omega)) (nI_toInt (by omega))
                      refine lv_aload_n hx hb dX12_canKeep_158 rfl (lv_at hl 0 rfl) ?_
                      refine lv_iload_n hx hb dX12_canKeep_159 rfl (lv_at hl 2 rfl) ?_
                      refine lv_iload hx hb dX12_canKeep_160 (lv_at hl 3 rfl) ?_
                      have hFc := allFree hD hS hA
                      refine va_calli (va_runV (As := [.int (nI i), .int (nI cc)]) (rest := []) ⟨hx, hb, hml, hown, hts⟩ (r_X12_signAt l dC dI a k h0 (fT vi 11 qk1) (fT vj 12 qd1) (fT (fT (fT (fT (fT (fT vF 0 g1) 2 f21) 3 f31) 4 f41) 5 f51) 6 f6A) (fT (fT (fT vG 7 F1) 1 gs1) 8 L81) i cc C (R + Gq) t1 D1 m1 hB1 (by first | with_reducible assumption | decide | omega | rfl | assumption) (hT1) (by first | with_reducible assumption | decide | omega | rfl | assumption) (by first | with_reducible assumption | decide | omega | rfl | assumption) (by first | with_reducible assumption | decide | omega | rfl | assumption) (by first | with_reducible assumption | decide | omega | rfl | assumption) (by first | with_reducible assumption | decide | omega | rfl | assumption) H.size) (cwV 2 hts gwsRX12_canKeep_3 rfl rfl rfl hd_yX12_signAt_RX12 (by decide +kernel)) (fz_pre (va_recv hK hP (ci := 12) (q0 := 0) rfl rfl) hP hK hD) rfl rfl hl.1 rfl (lv_room (Nat.le_of_ble_eq_true rfl)) dX12_canKeep_162 (by decide +kernel)) hS (fun q _ h => hFc q h) hFc (fun r162 u t9_ H locs ht hvm hw9 hB9 hz1 hk1 hS => ?_)
                      have hP : va_P (dC, dI) vwCl (WR a k h0 (fT vi 11 qk1) (fT vj 12 qd1) (fT (fT (fT (fT (fT (fT vF 0 g1) 2 f21) 3 f31) 4 f41) 5 f51) 6 f6A) (fT (fT (fT vG 7 F1) 1 gs1) 8 L81)) H := fz_P ht hB9.1
                      have hD : va_D A (WR a k h0 (fT vi 11 qk1) (fT vj 12 qd1) (fT (fT (fT (fT (fT (fT vF 0 g1) 2 f21) 3 f31) 4 f41) 5 f51) 6 f6A) (fT (fT (fT vG 7 F1) 1 gs1) 8 L81)) := hB9.2.weaken (fun _ q _ h => hFc q.1 h)
                      have f162_0 := hw9
                      try dsimp only at f162_0
                      refine lv_if_ne (tgt := 174) hx hb dX12_canKeep_165 (by decide) (fun c_165 => ?_) (fun c_165 => ?_)
                      · have t_165 : (r162).toInt ≠ 0 := toI_ne c_165 rfl (by decide)
                        refine lv_iload hx hb dX12_canKeep_174 (lv_at hl 3 rfl) ?_
                        refine lv_aload_n hx hb dX12_canKeep_176 rfl (lv_at hl 0 rfl) ?_
                        refine va_get (D := (dC, dI)) (ci := 12) (v := .int (vi 5)) (C := RX12) (T := TX12) (N := 163) (fs := fM (vS a (fT vi 11 qk1) (fT vj 12 qd1))) hx hb hts iwsRX12_canKeep_in12 hown hK hP 0 rfl rfl 5 (by decide) (hts (.fieldLink RX12 396 "OptimaWorksModel" "columns" "I") (by decide +kernel)) (fun _ h9 => h9) rfl dX12_canKeep_177 ?_
                        refine lv_topi (fun y14 hy14 => ?_)
                        obtain rfl : (nI C) = y14 := (hy14.trans (hC)).symm
                        refine lv_icmp_ge (tgt := 190) hx hb dX12_canKeep_180 (by decide) (fun c9 => False.elim (by have t9 : ((cc : Nat) : Int) ≥ ((C : Nat) : Int) := toI_ge c9 (nI_toInt (by omega)) (nI_toInt (by omega)); omega)) (fun c_180 => ?_)
                        have t_180 : ¬ ((cc : Nat) : Int) ≥ ((C : Nat) : Int) := toI_nge c_180 (nI_toInt (by omega)) (nI_toInt (by omega))
                        have hp8 : t1 i cc ≠ 0 := by (have f9 := f162_0); omega
                        have hz8 := hS1.help0 (by omega) (by omega) (by omega) haR (by omega) c_140 hG1 hRC
                        refine lv_aload_n hx hb dX12_canKeep_183 rfl (lv_at hl 0 rfl) ?_
                        refine lv_iload_n hx hb dX12_canKeep_184 rfl (lv_at hl 2 rfl) ?_
                        refine lv_iload hx hb dX12_canKeep_185 (lv_at hl 3 rfl) ?_
                        have hFc := allFree hD hS hA
                        refine va_callv (va_runV (As := [.int (nI i), .int (nI cc)]) (rest := []) ⟨hx, hb, hml, hown, hts⟩ (r_X12_pivot l dC dI a k h0 (fT vi 11 qk1) (fT vj 12 qd1) (fT (fT (fT (fT (fT (fT vF 0 g1) 2 f21) 3 f31) 4 f41) 5 f51) 6 f6A) (fT (fT (fT vG 7 F1) 1 gs1) 8 L81) i cc C R Gq t1 D1 m1 hB1 (by first | with_reducible assumption | decide | omega | rfl | assumption) (by first | with_reducible assumption | decide | omega | rfl | assumption) (by first | with_reducible assumption | decide | omega | rfl | assumption) (by first | with_reducible assumption | decide | omega | rfl | assumption) (by first | with_reducible assumption | decide | omega | rfl | assumption) (by first | with_reducible assumption | decide | omega | rfl | assumption) (hT1) (by first | with_reducible assumption | decide | omega | rfl | assumption) (by first | with_reducible assumption | decide | omega | rfl | assumption) (hS1.1.2.1) (hp8) ((hsm _ _ _ _ hS1.1).2) H.size) (cwV 2 hts gwsRX12_canKeep_1 rfl rfl rfl hd_yX12_pivot_RX12 (by decide +kernel)) (fz_pre (va_recv hK hP (ci := 12) (q0 := 0) rfl rfl) hP hK hD) rfl rfl hl.1 rfl (lv_room (Nat.le_of_ble_eq_true rfl)) dX12_canKeep_187 (by decide +kernel)) hS (fun q _ h => hFc q h) hFc (fun u t9_ H locs ht hvm hw9 hB9 hz1 hk1 hS => ?_)
                        revert u
                        refine fz_p9 ?_
                        intro g187 f2w187 f3w187 gs187 qk187 qd187 F187 L8187 m2187 hw9 hB9
                        try dsimp only at hw9 hB9
                        have hP : va_P (dC, dI) vwCl (WR a k h0 (fT (fT vi 11 qk1) 11 qk187) (fT (fT vj 12 qd1) 12 qd187) (fT (fT (fT (fT (fT (fT (fT (fT (fT (fT (fT vF 0 g1) 2 f21) 3 f31) 4 f41) 5 f51) 6 f6A) 0 g187) 2 f2w187) 3 f3w187) 4 (upd f41 (nI cc).toNatClampNeg (f51 i))) 5 (upd f51 (nI i).toNatClampNeg (f41 cc))) (fT (fT (fT (fT (fT (fT vG 7 F1) 1 gs1) 8 L81) 8 L8187) 7 F187) 1 gs187)) H := fz_P ht hB9.1
                        have hD : va_D A (WR a k h0 (fT (fT vi 11 qk1) 11 qk187) (fT (fT vj 12 qd1) 12 qd187) (fT (fT (fT (fT (fT (fT (fT (fT (fT (fT (fT vF 0 g1) 2 f21) 3 f31) 4 f41) 5 f51) 6 f6A) 0 g187) 2 f2w187) 3 f3w187) 4 (upd f41 (nI cc).toNatClampNeg (f51 i))) 5 (upd f51 (nI i).toNatClampNeg (f41 cc))) (fT (fT (fT (fT (fT (fT vG 7 F1) 1 gs1) 8 L81) 8 L8187) 7 F187) 1 gs187)) := hB9.2.weaken (fun _ q _ h => hFc q.1 h)
                        have e9 : fT vi 11 qk187 = fT (fT vi 11 qk1) 11 qk187 := (fT_sm _ _ _ _).symm
                        rw [← e9] at hP hD
                        clear e9
                        have e9 : fT vj 12 qd187 = fT (fT vj 12 qd1) 12 qd187 := (fT_sm _ _ _ _).symm
                        rw [← e9] at hP hD
                        clear e9
                        have e9 : fT (fT (fT (fT (fT (fT vF 0 g187) 2 f2w187) 3 f3w187) 4 (upd f41 (nI cc).toNatClampNeg (f51 i))) 5 (upd f51 (nI i).toNatClampNeg (f41 cc))) 6 f6A = fT (fT (fT (fT (fT (fT (fT (fT (fT (fT (fT vF 0 g1) 2 f21) 3 f31) 4 f41) 5 f51) 6 f6A) 0 g187) 2 f2w187) 3 f3w187) 4 (upd f41 (nI cc).toNatClampNeg (f51 i))) 5 (upd f51 (nI i).toNatClampNeg (f41 cc)) := ((congrArg (fun g9 => fT (fT (fT (fT g9 2 f2w187) 3 f3w187) 4 (upd f41 (nI cc).toNatClampNeg (f51 i))) 5 (upd f51 (nI i).toNatClampNeg (f41 cc))) ((fT_sw _ _ _ (Nat.ne_of_beq_eq_false rfl)).trans (congrArg (fun g9 => fT g9 6 f6A) ((fT_sw _ _ _ (Nat.ne_of_beq_eq_false rfl)).trans (congrArg (fun g9 => fT g9 5 f51) ((fT_sw _ _ _ (Nat.ne_of_beq_eq_false rfl)).trans (congrArg (fun g9 => fT g9 4 f41) ((fT_sw _ _ _ (Nat.ne_of_beq_eq_false rfl)).trans (congrArg (fun g9 => fT g9 3 f31) ((fT_sw _ _ _ (Nat.ne_of_beq_eq_false rfl)).trans (congrArg (fun g9 => fT g9 2 f21) (fT_sm _ _ _ _)))))))))))).trans ((congrArg (fun g9 => fT (fT (fT g9 3 f3w187) 4 (upd f41 (nI cc).toNatClampNeg (f51 i))) 5 (upd f51 (nI i).toNatClampNeg (f41 cc))) ((fT_sw _ _ _ (Nat.ne_of_beq_eq_false rfl)).trans (congrArg (fun g9 => fT g9 6 f6A) ((fT_sw _ _ _ (Nat.ne_of_beq_eq_false rfl)).trans (congrArg (fun g9 => fT g9 5 f51) ((fT_sw _ _ _ (Nat.ne_of_beq_eq_false rfl)).trans (congrArg (fun g9 => fT g9 4 f41) ((fT_sw _ _ _ (Nat.ne_of_beq_eq_false rfl)).trans (congrArg (fun g9 => fT g9 3 f31) (fT_sm _ _ _ _)))))))))).trans ((congrArg (fun g9 => fT (fT g9 4 (upd f41 (nI cc).toNatClampNeg (f51 i))) 5 (upd f51 (nI i).toNatClampNeg (f41 cc))) ((fT_sw _ _ _ (Nat.ne_of_beq_eq_false rfl)).trans (congrArg (fun g9 => fT g9 6 f6A) ((fT_sw _ _ _ (Nat.ne_of_beq_eq_false rfl)).trans (congrArg (fun g9 => fT g9 5 f51) ((fT_sw _ _ _ (Nat.ne_of_beq_eq_false rfl)).trans (congrArg (fun g9 => fT g9 4 f41) (fT_sm _ _ _ _)))))))).trans ((congrArg (fun g9 => fT g9 5 (upd f51 (nI i).toNatClampNeg (f41 cc))) ((fT_sw _ _ _ (Nat.ne_of_beq_eq_false rfl)).trans (congrArg (fun g9 => fT g9 6 f6A) ((fT_sw _ _ _ (Nat.ne_of_beq_eq_false rfl)).trans (congrArg (fun g9 => fT g9 5 f51) (fT_sm _ _ _ _)))))).trans ((fT_sw _ _ _ (Nat.ne_of_beq_eq_false rfl)).trans (congrArg (fun g9 => fT g9 6 f6A) (fT_sm _ _ _ _))))))).symm
                        rw [← e9] at hP hD
                        clear e9
                        have e9 : fT (fT (fT vG 7 F187) 1 gs187) 8 L8187 = fT (fT (fT (fT (fT (fT vG 7 F1) 1 gs1) 8 L81) 8 L8187) 7 F187) 1 gs187 := ((congrArg (fun g9 => fT (fT g9 7 F187) 1 gs187) (fT_sm _ _ _ _)).trans ((congrArg (fun g9 => fT g9 1 gs187) ((fT_sw _ _ _ (Nat.ne_of_beq_eq_false rfl)).trans (congrArg (fun g9 => fT g9 8 L8187) ((fT_sw _ _ _ (Nat.ne_of_beq_eq_false rfl)).trans (congrArg (fun g9 => fT g9 1 gs1) (fT_sm _ _ _ _)))))).trans ((fT_sw _ _ _ (Nat.ne_of_beq_eq_false rfl)).trans (congrArg (fun g9 => fT g9 8 L8187) (fT_sm _ _ _ _))))).symm
                        rw [← e9] at hP hD
                        clear e9
                        have hP : va_P (dC, dI) vwCl (WR a k h0 (fT vi 11 qk187) (fT vj 12 qd187) (fT (fT (fT (fT (fT (fT vF 0 g187) 2 f2w187) 3 f3w187) 4 (upd f41 (nI cc).toNatClampNeg (f51 i))) 5 (upd f51 (nI i).toNatClampNeg (f41 cc))) 6 f6A) (fT (fT (fT vG 7 F187) 1 gs187) 8 L8187)) H := hP
                        have hD : va_D A (WR a k h0 (fT vi 11 qk187) (fT vj 12 qd187) (fT (fT (fT (fT (fT (fT vF 0 g187) 2 f2w187) 3 f3w187) 4 (upd f41 (nI cc).toNatClampNeg (f51 i))) 5 (upd f51 (nI i).toNatClampNeg (f41 cc))) 6 f6A) (fT (fT (fT vG 7 F187) 1 gs187) 8 L8187)) := hD
                        revert hw9
                        refine fz_a3 ?_
                        intro f187_0 f187_1 f187_2
                        obtain ⟨hS9, -⟩ := hS1.next (r := i) (c := cc) (by omega) (by omega) (by omega) (by omega) (by omega) (sgI_or _) (sgI_pos hp8)
                        have hG9 : ∀ k, k < R → 0 ≤ nvT i cc (sgI (t1 i cc)) t1 D1 k C := fun k hk => hS1.flat (by omega) (by omega) (by omega) hp8 hz8.1 (by omega) (hG1 k hk)
                        have hRC9 := hS1.flat (i := R) (show i < R by omega) (by omega) (show cc < C by omega) hp8 hz8.1 (by omega) hRC
                        refine lv_iinc (v := (nI (i + 1))) hx hb dX12_canKeep_190 hl (k := 2) rfl (nI_add i 1) (by decide) rfl (fun ls (hl : lv_has ls _ ([(3, .int (nI (i + 1))), (0, .ref h0), (1, .int (nI (C - 1))), (4, .int (nI cc))])) => ?_)
                        refine lv_goto (tgt := 125) hx hb dX12_canKeep_193 (by decide) ?_
                        have hl : lv_has _ _ ([(0, .ref h0), (1, .int (nI (C - 1))), (3, .int (nI (i + 1)))]) := lv_sub hl [1, 2, 0] rfl
                        exact ih125_1 (i + 1) (nvT i cc (sgI (t1 i cc)) t1 D1) (sgI (t1 i cc) * t1 i cc) g187 f2w187 f3w187 (upd f41 (nI cc).toNatClampNeg (f51 i)) (upd f51 (nI i).toNatClampNeg (f41 cc)) gs187 F187 L8187 qk187 qd187 m2187 _ _ _ (f187_0) (by omega) (f187_1) (hS9) (hG9) (hRC9) (fun q hq => by (rw [f187_2 _ (by omega)]); exact ho q hq) (by omega) hP hD hS hl
                      · have t_165 : (r162).toInt = 0 := toI_nne c_165 rfl (by decide)
                        refine lv_iinc (v := (nI (cc + 1))) hx hb dX12_canKeep_168 hl (k := 3) rfl (nI_add cc 1) (by decide) rfl (fun ls (hl : lv_has ls _ ([(4, .int (nI (cc + 1))), (0, .ref h0), (1, .int (nI (C - 1))), (3, .int (nI i))])) => ?_)
                        refine lv_goto (tgt := 149) hx hb dX12_canKeep_171 (by decide) ?_
                        have hl : lv_has _ _ ([(0, .ref h0), (1, .int (nI (C - 1))), (3, .int (nI i)), (4, .int (nI (cc + 1)))]) := lv_sub hl [1, 2, 3, 0] rfl
                        exact ih149_3 (cc + 1) _ _ _ (by omega) (by omega) hP hD hS hl
                · have t_140 : ¬ ((f51 i)).toInt = (((C - 1) : Nat) : Int) := toI_neq c_140 rfl (nI_toInt (by omega))
                  refine lv_goto (tgt := 190) hx hb dX12_canKeep_143 (by decide) ?_
                  refine lv_iinc (v := (nI (i + 1))) hx hb dX12_canKeep_190 hl (k := 2) rfl (nI_add i 1) (by decide) rfl (fun ls (hl : lv_has ls _ ([(3, .int (nI (i + 1))), (0, .ref h0), (1, .int (nI (C - 1)))])) => ?_)
                  refine lv_goto (tgt := 125) hx hb dX12_canKeep_193 (by decide) ?_
                  have hl : lv_has _ _ ([(0, .ref h0), (1, .int (nI (C - 1))), (3, .int (nI (i + 1)))]) := lv_sub hl [1, 2, 0] rfl
                  exact ih125_1 (i + 1) t1 D1 g1 f21 f31 f41 f51 gs1 F1 L81 qk1 qd1 m1 _ _ _ (hB1) (by omega) (hT1) (hS1) (hG1) (hRC) (ho) (by omega) hP hD hS hl
          · have t_118 : ¬ (r115).toInt ≥ 0 := toI_nge c_118 rfl (by decide)
            refine lv_iconst (v := 0) hx hb dX12_canKeep_121 (by decide) ?_
            refine W.widen (k := 0) (n := 0) (by decide +kernel) (by decide +kernel) ?_
            exact W.zret (v := 0) hx hb hr rfl (fun t9_ ht hW => ⟨⟨0, (gA, f2A, f3A, f4A, f5A, f6A, gsA, FA, L8A, qkA, qdA, mA, tA, DA), rfl, by (try dsimp only); exact Or.inl ⟨rfl, hBA, hTA, hSA, hGA, hoA⟩, by rw [ht]; exact hP, hD⟩, hS.F ht⟩) hS.2.2 dX12_canKeep_122
      · have t_79 : (lq).toInt = -1 := toI_nne c_79 rfl (by decide)
        refine lv_aload_n hx hb dX12_canKeep_82 rfl (lv_at hl 0 rfl) ?_
        refine va_get (D := (dC, dI)) (ci := 12) (v := .ref (a 6)) (C := RX12) (T := TX12) (N := 163) (fs := fM (vS a (fT vi 11 qk74) (fT vj 12 1))) hx hb hts iwsRX12_canKeep_in12 hown hK hP 0 rfl rfl 10 (by decide) (hts (.fieldLink RX12 29 "OptimaWorksModel" "still" "[Z") (by decide +kernel)) (fun _ h9 => h9) rfl dX12_canKeep_83 ?_
        refine lv_iload_n hx hb dX12_canKeep_86 rfl (lv_at hl 1 rfl) ?_
        refine lv_iconst (v := 1) hx hb dX12_canKeep_87 (by decide) ?_
        refine va_zast (cA := k 6) (n := 46) (f := (vF 6)) hx hb hK hP hD hS 7 6 (WR_get 6 (by decide)) (TR_get 6 (by decide)) (vp_in_nI (show (C - 1) < 46 by omega) (by omega)) dX12_canKeep_88 (fun H locs hP hD hS => ?_)
        have hP : va_P (dC, dI) vwCl (WR a k h0 (fT vi 11 qk74) (fT vj 12 1) (fT vF 6 (upd (vF 6) ((nI (C - 1))).toNatClampNeg (vp_nar FieldType.boolean 1))) (fT vG 7 F74)) H := by rw [← WR_F 6 (by decide) _ rfl]; exact hP
        have hD : va_D A (WR a k h0 (fT vi 11 qk74) (fT vj 12 1) (fT vF 6 (upd (vF 6) ((nI (C - 1))).toNatClampNeg (vp_nar FieldType.boolean 1))) (fT vG 7 F74)) := by rw [← WR_F 6 (by decide) _ rfl]; exact hD
        refine lv_iconst (v := 1) hx hb dX12_canKeep_89 (by decide) ?_
        refine W.widen (k := 0) (n := 0) (by decide +kernel) (by decide +kernel) ?_
        have e9 : fT (fT (fT (fT (fT (fT vF 0 (vF 0)) 2 (vF 2)) 3 (vF 3)) 4 (vF 4)) 5 (vF 5)) 6 (upd (vF 6) ((nI (C - 1))).toNatClampNeg (vp_nar FieldType.boolean 1)) = fT vF 6 (upd (vF 6) ((nI (C - 1))).toNatClampNeg (vp_nar FieldType.boolean 1)) := by funext q9; by_cases h9_0 : q9 = 0; (subst h9_0; exact ((fT_ne _ _ (Nat.ne_of_beq_eq_false rfl)).trans ((fT_ne _ _ (Nat.ne_of_beq_eq_false rfl)).trans ((fT_ne _ _ (Nat.ne_of_beq_eq_false rfl)).trans ((fT_ne _ _ (Nat.ne_of_beq_eq_false rfl)).trans ((fT_ne _ _ (Nat.ne_of_beq_eq_false rfl)).trans (fT_eq _ _ _)))))).trans (Eq.trans (by first | with_reducible rfl | with_reducible assumption | (symm; with_reducible assumption) | rfl | assumption | (symm; assumption) | (subst_vars; rfl)) (fT_ne _ _ (Nat.ne_of_beq_eq_false rfl)).symm)); by_cases h9_2 : q9 = 2; (subst h9_2; exact ((fT_ne _ _ (Nat.ne_of_beq_eq_false rfl)).trans ((fT_ne _ _ (Nat.ne_of_beq_eq_false rfl)).trans ((fT_ne _ _ (Nat.ne_of_beq_eq_false rfl)).trans ((fT_ne _ _ (Nat.ne_of_beq_eq_false rfl)).trans (fT_eq _ _ _))))).trans (Eq.trans (by first | with_reducible rfl | with_reducible assumption | (symm; with_reducible assumption) | rfl | assumption | (symm; assumption) | (subst_vars; rfl)) (fT_ne _ _ (Nat.ne_of_beq_eq_false rfl)).symm)); by_cases h9_3 : q9 = 3; (subst h9_3; exact ((fT_ne _ _ (Nat.ne_of_beq_eq_false rfl)).trans ((fT_ne _ _ (Nat.ne_of_beq_eq_false rfl)).trans ((fT_ne _ _ (Nat.ne_of_beq_eq_false rfl)).trans (fT_eq _ _ _)))).trans (Eq.trans (by first | with_reducible rfl | with_reducible assumption | (symm; with_reducible assumption) | rfl | assumption | (symm; assumption) | (subst_vars; rfl)) (fT_ne _ _ (Nat.ne_of_beq_eq_false rfl)).symm)); by_cases h9_4 : q9 = 4; (subst h9_4; exact ((fT_ne _ _ (Nat.ne_of_beq_eq_false rfl)).trans ((fT_ne _ _ (Nat.ne_of_beq_eq_false rfl)).trans (fT_eq _ _ _))).trans (Eq.trans (by first | with_reducible rfl | with_reducible assumption | (symm; with_reducible assumption) | rfl | assumption | (symm; assumption) | (subst_vars; rfl)) (fT_ne _ _ (Nat.ne_of_beq_eq_false rfl)).symm)); by_cases h9_5 : q9 = 5; (subst h9_5; exact ((fT_ne _ _ (Nat.ne_of_beq_eq_false rfl)).trans (fT_eq _ _ _)).trans (Eq.trans (by first | with_reducible rfl | with_reducible assumption | (symm; with_reducible assumption) | rfl | assumption | (symm; assumption) | (subst_vars; rfl)) (fT_ne _ _ (Nat.ne_of_beq_eq_false rfl)).symm)); by_cases h9_6 : q9 = 6; (subst h9_6; exact (fT_eq _ _ _).trans (Eq.trans (by first | with_reducible rfl | with_reducible assumption | (symm; with_reducible assumption) | rfl | assumption | (symm; assumption) | (subst_vars; rfl)) (fT_eq _ _ _).symm)); exact ((fT_ne _ _ h9_6).trans ((fT_ne _ _ h9_5).trans ((fT_ne _ _ h9_4).trans ((fT_ne _ _ h9_3).trans ((fT_ne _ _ h9_2).trans (fT_ne _ _ h9_0)))))).trans (fT_ne _ _ h9_6).symm
        have hP : va_P (dC, dI) vwCl (WR a k h0 (fT vi 11 qk74) (fT vj 12 1) (fT (fT (fT (fT (fT (fT vF 0 (vF 0)) 2 (vF 2)) 3 (vF 3)) 4 (vF 4)) 5 (vF 5)) 6 (upd (vF 6) ((nI (C - 1))).toNatClampNeg (vp_nar FieldType.boolean 1))) (fT vG 7 F74)) H := by rw [e9]; exact hP
        have hD : va_D A (WR a k h0 (fT vi 11 qk74) (fT vj 12 1) (fT (fT (fT (fT (fT (fT vF 0 (vF 0)) 2 (vF 2)) 3 (vF 3)) 4 (vF 4)) 5 (vF 5)) 6 (upd (vF 6) ((nI (C - 1))).toNatClampNeg (vp_nar FieldType.boolean 1))) (fT vG 7 F74)) := by rw [e9]; exact hD
        clear e9
        have e9 : fT (fT (fT vG 7 F74) 1 (vG 1)) 8 (vG 8) = fT vG 7 F74 := (fT_id _ _ ((fT_ne _ _ (Nat.ne_of_beq_eq_false rfl)).trans (fT_ne _ _ (Nat.ne_of_beq_eq_false rfl)))).trans (fT_id _ _ (fT_ne _ _ (Nat.ne_of_beq_eq_false rfl)))
        have hP : va_P (dC, dI) vwCl (WR a k h0 (fT vi 11 qk74) (fT vj 12 1) (fT (fT (fT (fT (fT (fT vF 0 (vF 0)) 2 (vF 2)) 3 (vF 3)) 4 (vF 4)) 5 (vF 5)) 6 (upd (vF 6) ((nI (C - 1))).toNatClampNeg (vp_nar FieldType.boolean 1))) (fT (fT (fT vG 7 F74) 1 (vG 1)) 8 (vG 8))) H := by rw [e9]; exact hP
        have hD : va_D A (WR a k h0 (fT vi 11 qk74) (fT vj 12 1) (fT (fT (fT (fT (fT (fT vF 0 (vF 0)) 2 (vF 2)) 3 (vF 3)) 4 (vF 4)) 5 (vF 5)) 6 (upd (vF 6) ((nI (C - 1))).toNatClampNeg (vp_nar FieldType.boolean 1))) (fT (fT (fT vG 7 F74) 1 (vG 1)) 8 (vG 8))) := by rw [e9]; exact hD
        clear e9
        exact W.zret (v := 1) hx hb hr rfl (fun t9_ ht hW => ⟨⟨1, ((vF 0), (vF 2), (vF 3), (vF 4), (vF 5), (upd (vF 6) ((nI (C - 1))).toNatClampNeg (vp_nar FieldType.boolean 1)), (vG 1), F74, (vG 8), qk74, 1, mg, a_, 1), rfl, by (try dsimp only); exact Or.inr ⟨rfl, hBg, f74_0, hS0, fun i2 hi2 => by rcases hlq with h9 | h9; (exact h9.2 i2 (by omega)); (exfalso; (have h8 := nI_toInt (n := lb) (by omega)); rw [← h9.1, c_79] at h8; (have h7 : ((-1 : Int32)).toInt = -1 := by decide); omega), fun q _ => rfl⟩, by rw [ht]; exact hP, hD⟩, hS.F ht⟩) hS.2.2 dX12_canKeep_90
    · have t_16 : ¬ ((i : Nat) : Int) ≥ ((R : Nat) : Int) := toI_nge c_16 (nI_toInt (by omega)) (nI_toInt (by omega))
      have e1 := hN.1 i (by omega) C (by omega)
      have hpl := pl_lt (C := C) (show i < R + Gq by omega) (Nat.le_refl C)
      refine lv_aload_n hx hb dX12_canKeep_19 rfl (lv_at hl 0 rfl) ?_
      refine lv_aload_n hx hb dX12_canKeep_20 rfl (lv_at hl 0 rfl) ?_
      refine lv_iload_n hx hb dX12_canKeep_21 rfl (lv_at hl 3 rfl) ?_
      refine lv_aload_n hx hb dX12_canKeep_22 rfl (lv_at hl 0 rfl) ?_
      refine va_get (D := (dC, dI)) (ci := 12) (v := .int (vi 5)) (C := RX12) (T := TX12) (N := 163) (fs := fM (vS a vi vj)) hx hb hts iwsRX12_canKeep_in12 hown hK hP 0 rfl rfl 5 (by decide) (hts (.fieldLink RX12 396 "OptimaWorksModel" "columns" "I") (by decide +kernel)) (fun _ h9 => h9) rfl dX12_canKeep_23 ?_
      refine lv_topi (fun y15 hy15 => ?_)
      obtain rfl : (nI C) = y15 := (hy15.trans (hC)).symm
      have hFc := allFree hD hS hA
      refine va_calli (va_runV (As := [.int (nI i), .int (nI C)]) (rest := [.ref h0]) ⟨hx, hb, hml, hown, hts⟩ (r_X12_at l dC dI a k h0 vi vj vF vG i C C (by first | with_reducible assumption | decide | omega | rfl | assumption) H.size) (cwV 2 hts gwsRX12_canKeep_4 rfl rfl rfl hd_yX12_at_RX12 (by decide +kernel)) (fz_pre (va_recv hK hP (ci := 12) (q0 := 0) rfl rfl) hP hK hD) rfl rfl hl.1 rfl (lv_room (Nat.le_of_ble_eq_true rfl)) dX12_canKeep_26 (by decide +kernel)) hS (fun q _ h => hFc q h) hFc (fun r26 u t9_ H locs ht hvm hw9 hB9 hz1 hk1 hS => ?_)
      have hP : va_P (dC, dI) vwCl (WR a k h0 vi vj vF vG) H := fz_P ht hB9.1
      have hD : va_D A (WR a k h0 vi vj vF vG) := hB9.2.weaken (fun _ q _ h => hFc q.1 h)
      obtain rfl := hw9
      have hFc := allFree hD hS hA
      refine va_calli (va_runV (As := [.int (nI (30 + i * (C + 1) + C))]) (rest := []) ⟨hx, hb, hml, hown, hts⟩ (b_X12_sign l dC dI a k h0 vi vj vF vG (30 + i * (C + 1) + C) mg hBg (mg (30 + i * (C + 1) + C)) rfl (by first | with_reducible assumption | decide | omega | rfl | assumption) H.size) (cwV 1 hts gwsRX12_canKeep_5 rfl rfl rfl hd_yX12_sign_RX12 (by decide +kernel)) (fz_pre (va_recv hK hP (ci := 12) (q0 := 0) rfl rfl) hP hK hD) rfl rfl hl.1 rfl (lv_room (Nat.le_of_ble_eq_true rfl)) dX12_canKeep_29 (by decide +kernel)) hS (fun q _ h => hFc q h) hFc (fun r29 u t9_ H locs ht hvm hw9 hB9 hz1 hk1 hS => ?_)
      have hP : va_P (dC, dI) vwCl (WR a k h0 vi vj vF vG) H := fz_P ht hB9.1
      have hD : va_D A (WR a k h0 vi vj vF vG) := hB9.2.weaken (fun _ q _ h => hFc q.1 h)
      have f29_0 := hw9
      try dsimp only at f29_0
      refine lv_if_ge (tgt := 67) hx hb dX12_canKeep_32 (by decide) (fun c_32 => ?_) (fun c_32 => ?_)
      · have t_32 : (r29).toInt ≥ 0 := toI_ge c_32 rfl (by decide)
        refine lv_iinc (v := (nI (i + 1))) hx hb dX12_canKeep_67 hl (k := 3) rfl (nI_add i 1) (by decide) rfl (fun ls (hl : lv_has ls _ ([(3, .int (nI (i + 1))), (0, .ref h0), (1, .int (nI (C - 1))), (2, .int lq)])) => ?_)
        refine lv_goto (tgt := 11) hx hb dX12_canKeep_70 (by decide) ?_
        have hl : lv_has _ _ ([(0, .ref h0), (1, .int (nI (C - 1))), (2, .int lq), (3, .int (nI (i + 1)))]) := lv_sub hl [1, 2, 3, 0] rfl
        exact ih11 (i + 1) lq lb _ _ _ (by omega) (by (have f9 := f29_0); rcases hlq with ⟨h1, h2⟩ | ⟨h1, h2, h3, h4⟩; (exact Or.inl ⟨h1, fun i2 hi2 => by by_cases e9 : i2 = i; (rw [e9]; omega); (have h9 := h2 i2 (by omega); omega)⟩); (exact Or.inr ⟨h1, by omega, h3, fun i2 hi2 => by by_cases e9 : i2 = i; (rw [e9]; omega); (have h9 := h4 i2 (by omega); omega)⟩)) (by omega) hP hD hS hl
      · have t_32 : ¬ (r29).toInt ≥ 0 := toI_nge c_32 rfl (by decide)
        refine lv_iload_n hx hb dX12_canKeep_35 rfl (lv_at hl 2 rfl) ?_
        refine lv_iconst (v := (-1)) hx hb dX12_canKeep_36 (by decide) ?_
        refine lv_icmp_eq (tgt := 65) hx hb dX12_canKeep_37 (by decide) (fun c_37 => ?_) (fun c_37 => ?_)
        · have t_37 : (lq).toInt = -1 := toI_eq c_37 rfl (by decide)
          refine lv_iload_n hx hb dX12_canKeep_65 rfl (lv_at hl 3 rfl) ?_
          refine lv_istore_n hx hb dX12_canKeep_66 rfl hl (by decide) rfl (fun ls (hl : lv_has ls _ ([(2, .int (nI i)), (0, .ref h0), (1, .int (nI (C - 1))), (3, .int (nI i))])) => ?_)
          refine lv_iinc (v := (nI (i + 1))) hx hb dX12_canKeep_67 hl (k := 3) rfl (nI_add i 1) (by decide) rfl (fun ls (hl : lv_has ls _ ([(3, .int (nI (i + 1))), (2, .int (nI i)), (0, .ref h0), (1, .int (nI (C - 1)))])) => ?_)
          refine lv_goto (tgt := 11) hx hb dX12_canKeep_70 (by decide) ?_
          have hl : lv_has _ _ ([(0, .ref h0), (1, .int (nI (C - 1))), (2, .int (nI i)), (3, .int (nI (i + 1)))]) := lv_sub hl [2, 3, 1, 0] rfl
          exact ih11 (i + 1) (nI i) i _ _ _ (by omega) (by (have f9 := f29_0); (have h2 : ∀ i2, i2 < i → 0 ≤ a_ i2 C := by rcases hlq with ⟨h1, h2⟩ | ⟨h1, h2, h3⟩; (exact h2); (exfalso; (have h9 := nI_toInt (n := lb) (by omega)); rw [← h1, c_37] at h9; (have h8 : ((-1 : Int32)).toInt = -1 := by decide); omega)); exact Or.inr ⟨rfl, by omega, by omega, fun i2 hi2 => by by_cases e9 : i2 = i; (rw [e9]; omega); (have h9 := h2 i2 (by omega); omega)⟩) (by omega) hP hD hS hl
        · have t_37 : ¬ (lq).toInt = -1 := toI_neq c_37 rfl (by decide)
          obtain ⟨h1c, h2c, h3c, h4c⟩ := hlq.resolve_left (fun h => c_37 h.1)
          subst h1c
          have e2 := hN.1 lb (by omega) C (by omega)
          have hpl2 := pl_lt (C := C) (show lb < R + Gq by omega) (Nat.le_refl C)
          refine lv_aload_n hx hb dX12_canKeep_40 rfl (lv_at hl 0 rfl) ?_
          refine lv_aload_n hx hb dX12_canKeep_41 rfl (lv_at hl 0 rfl) ?_
          refine lv_iload_n hx hb dX12_canKeep_42 rfl (lv_at hl 3 rfl) ?_
          refine lv_aload_n hx hb dX12_canKeep_43 rfl (lv_at hl 0 rfl) ?_
          refine va_get (D := (dC, dI)) (ci := 12) (v := .int (vi 5)) (C := RX12) (T := TX12) (N := 163) (fs := fM (vS a vi vj)) hx hb hts iwsRX12_canKeep_in12 hown hK hP 0 rfl rfl 5 (by decide) (hts (.fieldLink RX12 396 "OptimaWorksModel" "columns" "I") (by decide +kernel)) (fun _ h9 => h9) rfl dX12_canKeep_44 ?_
          refine lv_topi (fun y16 hy16 => ?_)
          obtain rfl : (nI C) = y16 := (hy16.trans (hC)).symm
          have hFc := allFree hD hS hA
          refine va_calli (va_runV (As := [.int (nI i), .int (nI C)]) (rest := [.ref h0]) ⟨hx, hb, hml, hown, hts⟩ (r_X12_at l dC dI a k h0 vi vj vF vG i C C (by first | with_reducible assumption | decide | omega | rfl | assumption) H.size) (cwV 2 hts gwsRX12_canKeep_4 rfl rfl rfl hd_yX12_at_RX12 (by decide +kernel)) (fz_pre (va_recv hK hP (ci := 12) (q0 := 0) rfl rfl) hP hK hD) rfl rfl hl.1 rfl (lv_room (Nat.le_of_ble_eq_true rfl)) dX12_canKeep_47 (by decide +kernel)) hS (fun q _ h => hFc q h) hFc (fun r47 u t9_ H locs ht hvm hw9 hB9 hz1 hk1 hS => ?_)
          have hP : va_P (dC, dI) vwCl (WR a k h0 vi vj vF vG) H := fz_P ht hB9.1
          have hD : va_D A (WR a k h0 vi vj vF vG) := hB9.2.weaken (fun _ q _ h => hFc q.1 h)
          obtain rfl := hw9
          refine lv_aload_n hx hb dX12_canKeep_50 rfl (lv_at hl 0 rfl) ?_
          refine lv_iload_n hx hb dX12_canKeep_51 rfl (lv_at hl 2 rfl) ?_
          refine lv_aload_n hx hb dX12_canKeep_52 rfl (lv_at hl 0 rfl) ?_
          refine va_get (D := (dC, dI)) (ci := 12) (v := .int (vi 5)) (C := RX12) (T := TX12) (N := 163) (fs := fM (vS a vi vj)) hx hb hts iwsRX12_canKeep_in12 hown hK hP 0 rfl rfl 5 (by decide) (hts (.fieldLink RX12 396 "OptimaWorksModel" "columns" "I") (by decide +kernel)) (fun _ h9 => h9) rfl dX12_canKeep_53 ?_
          refine lv_topi (fun y17 hy17 => ?_)
          obtain rfl : (nI C) = y17 := (hy17.trans (hC)).symm
          have hFc := allFree hD hS hA
          refine va_calli (va_runV (As := [.int (nI lb), .int (nI C)]) (rest := [.int (nI (30 + i * (C + 1) + C)), .ref h0]) ⟨hx, hb, hml, hown, hts⟩ (r_X12_at l dC dI a k h0 vi vj vF vG lb C C (by first | with_reducible assumption | decide | omega | rfl | assumption) H.size) (cwV 2 hts gwsRX12_canKeep_4 rfl rfl rfl hd_yX12_at_RX12 (by decide +kernel)) (fz_pre (va_recv hK hP (ci := 12) (q0 := 0) rfl rfl) hP hK hD) rfl rfl hl.1 rfl (lv_room (Nat.le_of_ble_eq_true rfl)) dX12_canKeep_56 (by decide +kernel)) hS (fun q _ h => hFc q h) hFc (fun r56 u t9_ H locs ht hvm hw9 hB9 hz1 hk1 hS => ?_)
          have hP : va_P (dC, dI) vwCl (WR a k h0 vi vj vF vG) H := fz_P ht hB9.1
          have hD : va_D A (WR a k h0 vi vj vF vG) := hB9.2.weaken (fun _ q _ h => hFc q.1 h)
          obtain rfl := hw9
          have hFc := allFree hD hS hA
          refine va_calli (va_runV (As := [.int (nI (30 + i * (C + 1) + C)), .int (nI (30 + lb * (C + 1) + C))]) (rest := []) ⟨hx, hb, hml, hown, hts⟩ (b_X12_compare l dC dI a k h0 vi vj vF vG (30 + i * (C + 1) + C) (30 + lb * (C + 1) + C) mg hBg (mg (30 + i * (C + 1) + C)) (mg (30 + lb * (C + 1) + C)) rfl rfl (by first | with_reducible assumption | decide | omega | rfl | assumption) (by first | with_reducible assumption | decide | omega | rfl | assumption) H.size) (cwV 2 hts gwsRX12_canKeep_6 rfl rfl rfl hd_yX12_compare_RX12 (by decide +kernel)) (fz_pre (va_recv hK hP (ci := 12) (q0 := 0) rfl rfl) hP hK hD) rfl rfl hl.1 rfl (lv_room (Nat.le_of_ble_eq_true rfl)) dX12_canKeep_59 (by decide +kernel)) hS (fun q _ h => hFc q h) hFc (fun r59 u t9_ H locs ht hvm hw9 hB9 hz1 hk1 hS => ?_)
          have hP : va_P (dC, dI) vwCl (WR a k h0 vi vj vF vG) H := fz_P ht hB9.1
          have hD : va_D A (WR a k h0 vi vj vF vG) := hB9.2.weaken (fun _ q _ h => hFc q.1 h)
          have f59_0 := hw9
          try dsimp only at f59_0
          refine lv_if_ge (tgt := 67) hx hb dX12_canKeep_62 (by decide) (fun c_62 => ?_) (fun c_62 => ?_)
          · have t_62 : (r59).toInt ≥ 0 := toI_ge c_62 rfl (by decide)
            refine lv_iinc (v := (nI (i + 1))) hx hb dX12_canKeep_67 hl (k := 3) rfl (nI_add i 1) (by decide) rfl (fun ls (hl : lv_has ls _ ([(3, .int (nI (i + 1))), (0, .ref h0), (1, .int (nI (C - 1))), (2, .int (nI lb))])) => ?_)
            refine lv_goto (tgt := 11) hx hb dX12_canKeep_70 (by decide) ?_
            have hl : lv_has _ _ ([(0, .ref h0), (1, .int (nI (C - 1))), (2, .int (nI lb)), (3, .int (nI (i + 1)))]) := lv_sub hl [1, 2, 3, 0] rfl
            exact ih11 (i + 1) (nI lb) lb _ _ _ (by omega) (Or.inr ⟨rfl, by omega, h3c, by (have f9 := f59_0); exact fun i2 hi2 => by by_cases e9 : i2 = i; (rw [e9]; omega); (have h9 := h4c i2 (by omega); omega)⟩) (by omega) hP hD hS hl
          · have t_62 : ¬ (r59).toInt ≥ 0 := toI_nge c_62 rfl (by decide)
            refine lv_iload_n hx hb dX12_canKeep_65 rfl (lv_at hl 3 rfl) ?_
            refine lv_istore_n hx hb dX12_canKeep_66 rfl hl (by decide) rfl (fun ls (hl : lv_has ls _ ([(2, .int (nI i)), (0, .ref h0), (1, .int (nI (C - 1))), (3, .int (nI i))])) => ?_)
            refine lv_iinc (v := (nI (i + 1))) hx hb dX12_canKeep_67 hl (k := 3) rfl (nI_add i 1) (by decide) rfl (fun ls (hl : lv_has ls _ ([(3, .int (nI (i + 1))), (2, .int (nI i)), (0, .ref h0), (1, .int (nI (C - 1)))])) => ?_)
            refine lv_goto (tgt := 11) hx hb dX12_canKeep_70 (by decide) ?_
            have hl : lv_has _ _ ([(0, .ref h0), (1, .int (nI (C - 1))), (2, .int (nI i)), (3, .int (nI (i + 1)))]) := lv_sub hl [2, 3, 1, 0] rfl
            exact ih11 (i + 1) (nI i) i _ _ _ (by omega) (by (have f9 := f59_0); exact Or.inr ⟨rfl, by omega, by omega, fun i2 hi2 => by by_cases e9 : i2 = i; (rw [e9]; omega); (have h9 := h4c i2 (by omega); omega)⟩) (by omega) hP hD hS hl
theorem dX12_thing_0 : decode cX12_thing 0 = .ok (.aload_n 0, 1) := dk_42 (by decide +kernel)
theorem dX12_thing_1 : decode cX12_thing 1 = .ok (.iload_n 1, 1) := dk_27 (by decide +kernel)
theorem dX12_thing_2 : decode cX12_thing 2 = .ok (.lconst 0, 1) := dk_9 (by decide +kernel)
theorem dX12_thing_3 : decode cX12_thing 3 = .ok (.invokevirtual 369, 3) := dk_182 (by decide +kernel)
theorem dX12_thing_6 : decode cX12_thing 6 = .ok (.iconst 0, 1) := dk_3 (by decide +kernel)
theorem dX12_thing_7 : decode cX12_thing 7 = .ok (.istore_n 3, 1) := dk_62 (by decide +kernel)
theorem dX12_thing_8 : decode cX12_thing 8 = .ok (.iload_n 3, 1) := dk_29 (by decide +kernel)
theorem dX12_thing_9 : decode cX12_thing 9 = .ok (.aload_n 0, 1) := dk_42 (by decide +kernel)
theorem dX12_thing_10 : decode cX12_thing 10 = .ok (.getfield 399, 3) := dk_180 (by decide +kernel)
theorem dX12_thing_13 : decode cX12_thing 13 = .ok (.if_icmp .ge 33, 3) := dk_162 (by decide +kernel)
theorem dX12_thing_16 : decode cX12_thing 16 = .ok (.aload_n 0, 1) := dk_42 (by decide +kernel)
theorem dX12_thing_17 : decode cX12_thing 17 = .ok (.getfield 26, 3) := dk_180 (by decide +kernel)
theorem dX12_thing_20 : decode cX12_thing 20 = .ok (.iload_n 3, 1) := dk_29 (by decide +kernel)
theorem dX12_thing_21 : decode cX12_thing 21 = .ok (.iaload, 1) := dk_46 (by decide +kernel)
theorem dX12_thing_22 : decode cX12_thing 22 = .ok (.iload_n 2, 1) := dk_28 (by decide +kernel)
theorem dX12_thing_23 : decode cX12_thing 23 = .ok (.if_icmp .ne 17, 3) := dk_160 (by decide +kernel)
theorem dX12_thing_26 : decode cX12_thing 26 = .ok (.aload_n 0, 1) := dk_42 (by decide +kernel)
theorem dX12_thing_27 : decode cX12_thing 27 = .ok (.iload_n 1, 1) := dk_27 (by decide +kernel)
theorem dX12_thing_28 : decode cX12_thing 28 = .ok (.aload_n 0, 1) := dk_42 (by decide +kernel)
theorem dX12_thing_29 : decode cX12_thing 29 = .ok (.iload_n 3, 1) := dk_29 (by decide +kernel)
theorem dX12_thing_30 : decode cX12_thing 30 = .ok (.aload_n 0, 1) := dk_42 (by decide +kernel)
theorem dX12_thing_31 : decode cX12_thing 31 = .ok (.getfield 396, 3) := dk_180 (by decide +kernel)
theorem dX12_thing_34 : decode cX12_thing 34 = .ok (.invokevirtual 405, 3) := dk_182 (by decide +kernel)
theorem dX12_thing_37 : decode cX12_thing 37 = .ok (.invokevirtual 365, 3) := dk_182 (by decide +kernel)
theorem dX12_thing_40 : decode cX12_thing 40 = .ok (.iinc 3 1, 3) := dk_132 (by decide +kernel)
theorem dX12_thing_43 : decode cX12_thing 43 = .ok (.goto (-35), 3) := dk_167 (by decide +kernel)
theorem dX12_thing_46 : decode cX12_thing 46 = .ok (.return_, 1) := dk_177 (by decide +kernel)
def wsRX12_thing : List Cond := .code yX12_thing cX12_thing 4 none :: ([.fieldLink RX12 399 "OptimaWorksModel" "rows" "I", .fieldLink RX12 26 "OptimaWorksModel" "rowOf" "[I", .fieldLink RX12 396 "OptimaWorksModel" "columns" "I"] ++ wsX120 ++ (wsV RX12 369 RX12 yX12_put wsRX12_put) ++ (wsV RX12 405 RX12 yX12_at wsRX12_at) ++ (wsV RX12 365 RX12 yX12_copy wsRX12_copy))
theorem iwsRX12_thing_in12 : ∀ w ∈ wsX120, w ∈ wsRX12_thing := fun _ h => List.mem_cons_of_mem _ (List.mem_append_left _ (List.mem_append_left _ (List.mem_append_left _ (List.mem_append_right _ h))))
theorem gwsRX12_thing_0 : GoodIn wsRX12_thing (wsV RX12 369 RX12 yX12_put wsRX12_put) := goodIn_sub (fun _ h => List.mem_cons_of_mem _ (List.mem_append_left _ (List.mem_append_left _ (List.mem_append_right _ h)))) (gdV (by decide +kernel) gdwsRX12_put)
theorem gwsRX12_thing_1 : GoodIn wsRX12_thing (wsV RX12 405 RX12 yX12_at wsRX12_at) := goodIn_sub (fun _ h => List.mem_cons_of_mem _ (List.mem_append_left _ (List.mem_append_right _ h))) (gdV (by decide +kernel) gdwsRX12_at)
theorem gwsRX12_thing_2 : GoodIn wsRX12_thing (wsV RX12 365 RX12 yX12_copy wsRX12_copy) := goodIn_sub (fun _ h => List.mem_cons_of_mem _ (List.mem_append_right _ h)) (gdV (by decide +kernel) gdwsRX12_copy)
theorem gdwsRX12_thing : wsRX12_thing.all goodWord = true := gdC rfl (gdA (gdA (gdA (gdA (by decide +kernel : ([.fieldLink RX12 399 "OptimaWorksModel" "rows" "I", .fieldLink RX12 26 "OptimaWorksModel" "rowOf" "[I", .fieldLink RX12 396 "OptimaWorksModel" "columns" "I"] : List Cond).all goodWord = true) gdwsX120) (gdV (by decide +kernel) gdwsRX12_put)) (gdV (by decide +kernel) gdwsRX12_at)) (gdV (by decide +kernel) gdwsRX12_copy))
set_option maxHeartbeats 4000000 in
set_option maxRecDepth 100000 in
/-- thing(s, k) -/
theorem r_X12_thing (l : Launch) (dC : Nat → ClassId) (dI : Nat → Nat → Nat) (a : Nat → Nat) (k : Nat → ClassId) (h0 : Nat) (vi : Nat → Int32) (vj : Nat → Int64) (vF : Nat → Nat → Int32) (vG : Nat → Nat → Int64) (sn : Nat) (kq : Int32) (C : Nat) (R : Nat) (Gq : Nat) (t : Nat → Nat → Int) (D : Int) (mg : Nat → Int) (hBg : Bg (vF 0) mg) (hC : vi 5 = nI C) (hR : vi 6 = nI R) (hG : vi 7 = nI Gq) (hC45 : 0 < C ∧ C ≤ 45) (hT60 : R + Gq < 60) (hsz : (R + Gq) * (C + 1) ≤ 970) (hN : TabN C (R + Gq) mg t D) (hsn : sn < 30) (hsn20 : sn ≠ 20) (sz : Nat) : Met l yX12_thing wsRX12_thing ({ frames := 1, cells := 0, slots := 0, locals := 27 }) (va_Pc [.ref h0, .int (nI sn), .int kq] (fun U => U.heap.size = sz ∧ va_P (dC, dI) vwCl (WR a k h0 vi vj vF vG) U.heap ∧ va_K (dC, dI) vwCl (tX12 k) U ∧ va_D (fun _ => True) (WR a k h0 vi vj vF vG))) (va_Qv (fun (u : (Nat → Int32) × (Nat → Int)) => (Bg (u.1) (u.2)) ∧ ((u.2) sn = 0 ∨ ∃ i, i < R ∧ (u.2) sn = t i C) ∧ (∀ q, q ≠ sn → (u.2) q = mg q)) (fun (u : (Nat → Int32) × (Nat → Int)) t => va_P (dC, dI) vwCl (WR a k h0 vi vj (fT vF 0 (u.1)) vG) t.heap ∧ va_D (va_A (WR a k h0 vi vj vF vG) sz) (WR a k h0 vi vj (fT vF 0 (u.1)) vG)) (va_A (WR a k h0 vi vj vF vG) sz)) 0 0 (va_A (WR a k h0 vi vj vF vG) sz) := by
  refine Met.ofW (cc := cX12_thing) (maxL := 4) (ret := none) (by decide) rfl ?_
  intro p e s m args below meth c s₁ B hml hv
  obtain ⟨rfl, hsz, hP, hK, hD0⟩ := hv
  have hx := B.exec
  have hb := B.bytes
  have hr := B.returns
  have hts := atoms_spec (ws := wsRX12_thing) B.pre
  have hown : s.vm.findClass RX12 = some m.cls := findClass_of_methodNamed B.named
  have hlocks := B.notSynchronized
  subst hsz
  have hD := hD0.self (sz := s.heap.size)
  generalize hAe : va_A (WR a k h0 vi vj vF vG) s.heap.size = A at hD ⊢
  have hA : ∀ q : Nat, s.heap.size ≤ q → A q := fun q h => by rw [← hAe]; exact Or.inr h
  have hS : va_S A s.heap s.heap [] := va_S.rf
  have hl := lv_entry ([.ref h0, .int (nI sn), .int kq]) (n := 4) (Nat.le_of_ble_eq_true rfl)
  rw [lg_entry_eq]
  generalize (lg_sl ([.ref h0, .int (nI sn), .int kq]) ++ List.replicate (4 - (lg_sl ([.ref h0, .int (nI sn), .int kq])).length) Slot.unset).toArray = ls at hl ⊢
  have hl : lv_has ls 4 [(0, .ref h0), (1, .int (nI sn)), (2, .int kq)] := hl
  refine lv_aload_n hx hb dX12_thing_0 rfl (lv_at hl 0 rfl) ?_
  refine lv_iload_n hx hb dX12_thing_1 rfl (lv_at hl 1 rfl) ?_
  refine lv_lconst (v := 0) hx hb dX12_thing_2 (by decide) ?_
  have hFc := allFree hD hS hA
  refine va_callv (va_runV (As := [.int (nI sn), .long 0]) (rest := []) ⟨hx, hb, hml, hown, hts⟩ (b_X12_put l dC dI a k h0 vi vj vF vG sn 0 0 mg hBg (by first | with_reducible assumption | decide | omega | rfl | assumption) (by decide) (by first | with_reducible assumption | decide | omega | rfl | assumption) s.heap.size) (cwV 2 hts gwsRX12_thing_0 rfl rfl rfl hd_yX12_put_RX12 (by decide +kernel)) (fz_pre (va_recv hK hP (ci := 12) (q0 := 0) rfl rfl) hP hK hD) rfl rfl hl.1 rfl (lv_room (Nat.le_of_ble_eq_true rfl)) dX12_thing_3 (by decide +kernel)) hS (fun q _ h => hFc q h) hFc (fun g3 t9_ H locs ht hvm hw9 hB9 hz1 hk1 hS => ?_)
  have hP : va_P (dC, dI) vwCl (WR a k h0 vi vj (fT vF 0 g3) vG) H := fz_P ht hB9.1
  have hD : va_D A (WR a k h0 vi vj (fT vF 0 g3) vG) := hB9.2.weaken (fun _ q _ h => hFc q.1 h)
  have f3_0 := hw9
  try dsimp only at f3_0
  refine lv_iconst (v := 0) hx hb dX12_thing_6 (by decide) ?_
  refine lv_istore_n hx hb dX12_thing_7 rfl hl (by decide) rfl (fun ls (hl : lv_has ls _ ([(3, .int 0), (0, .ref h0), (1, .int (nI sn)), (2, .int kq)])) => ?_)
  have hl : lv_has _ _ ([(0, .ref h0), (1, .int (nI sn)), (2, .int kq), (3, .int (nI 0))]) := lv_sub hl [1, 2, 3, 0] rfl
  refine (fun (loop : ∀ (n9 : Nat) (i : Nat) (g1 : Nat → Int32) (m1 : Nat → Int) (H : Heap) (locs : List Loc) (ls : Array Slot), (Bg g1 m1) → (i ≤ R) → (m1 sn = 0 ∨ ∃ i, i < R ∧ m1 sn = t i C) → (∀ q, q ≠ sn → m1 q = mg q) →  (R < i + n9) → va_P (dC, dI) vwCl (WR a k h0 vi vj (fT vF 0 g1) vG) H → va_D A (WR a k h0 vi vj (fT vF 0 g1) vG) → va_S A s.heap H locs → lv_has ls 4 [(0, .ref h0), (1, .int (nI sn)), (2, .int kq), (3, .int (nI i))] → W p l e _ s m _ below meth c H locs 0 0 _ (F0 m 8 ls [])) => loop (R + 1) 0 g3 (fT mg sn 0) _ _ _ (f3_0) (by omega) (Or.inl (by rw [fT_eq])) (fun q hq => by (rw [fT_ne _ _ (by omega)])) (by omega) hP hD hS hl) ?_
  intro n9
  induction n9 with
  | zero => intro i g1 m1 H locs ls hB1 hi hval ho hf9; exact False.elim (by omega)
  | succ n9 ih8 =>
    intro i g1 m1 H locs ls hB1 hi hval ho hf8 hP hD hS hl
    refine lv_iload_n hx hb dX12_thing_8 rfl (lv_at hl 3 rfl) ?_
    refine lv_aload_n hx hb dX12_thing_9 rfl (lv_at hl 0 rfl) ?_
    refine va_get (D := (dC, dI)) (ci := 12) (v := .int (vi 6)) (C := RX12) (T := TX12) (N := 163) (fs := fM (vS a vi vj)) hx hb hts iwsRX12_thing_in12 hown hK hP 0 rfl rfl 6 (by decide) (hts (.fieldLink RX12 399 "OptimaWorksModel" "rows" "I") (by decide +kernel)) (fun _ h9 => h9) rfl dX12_thing_10 ?_
    refine lv_topi (fun y1 hy1 => ?_)
    obtain rfl : (nI R) = y1 := (hy1.trans (hR)).symm
    refine lv_icmp_ge (tgt := 46) hx hb dX12_thing_13 (by decide) (fun c_13 => ?_) (fun c_13 => ?_)
    · have t_13 : ((i : Nat) : Int) ≥ ((R : Nat) : Int) := toI_ge c_13 (nI_toInt (by omega)) (nI_toInt (by omega))
      refine W.widen (k := 0) (n := 0) (by decide +kernel) (by decide +kernel) ?_
      exact W.vret hx hb hr (fun t9_ ht hW => ⟨⟨(g1, m1), rfl, by (try dsimp only); exact ⟨hB1, hval, ho⟩, by rw [ht]; exact hP, hD⟩, hS.F ht⟩) hS.2.2 dX12_thing_46
    · have t_13 : ¬ ((i : Nat) : Int) ≥ ((R : Nat) : Int) := toI_nge c_13 (nI_toInt (by omega)) (nI_toInt (by omega))
      refine lv_aload_n hx hb dX12_thing_16 rfl (lv_at hl 0 rfl) ?_
      refine va_get (D := (dC, dI)) (ci := 12) (v := .ref (a 5)) (C := RX12) (T := TX12) (N := 163) (fs := fM (vS a vi vj)) hx hb hts iwsRX12_thing_in12 hown hK hP 0 rfl rfl 9 (by decide) (hts (.fieldLink RX12 26 "OptimaWorksModel" "rowOf" "[I") (by decide +kernel)) (fun _ h9 => h9) rfl dX12_thing_17 ?_
      refine lv_iload_n hx hb dX12_thing_20 rfl (lv_at hl 3 rfl) ?_
      refine va_iald (cA := k 5) (n := 60) (f := (vF 5)) hx hb hK hP 6 5 (WR_get 5 (by decide)) (TR_get 5 (by decide)) (vp_in_nI (show i < 60 by omega) (by omega)) dX12_thing_21 ?_
      refine lv_topi (fun y2 hy2 => ?_)
      obtain rfl : ((vF 5) i) = y2 := (hy2.trans (by rw [nI_clamp (by omega)])).symm
      refine lv_iload_n hx hb dX12_thing_22 rfl (lv_at hl 2 rfl) ?_
      refine lv_icmp_ne (tgt := 40) hx hb dX12_thing_23 (by decide) (fun c_23 => ?_) (fun c_23 => ?_)
      · have t_23 : (((vF 5) i)).toInt ≠ (kq).toInt := toI_ne c_23 rfl rfl
        refine lv_iinc (v := (nI (i + 1))) hx hb dX12_thing_40 hl (k := 3) rfl (nI_add i 1) (by decide) rfl (fun ls (hl : lv_has ls _ ([(3, .int (nI (i + 1))), (0, .ref h0), (1, .int (nI sn)), (2, .int kq)])) => ?_)
        refine lv_goto (tgt := 8) hx hb dX12_thing_43 (by decide) ?_
        have hl : lv_has _ _ ([(0, .ref h0), (1, .int (nI sn)), (2, .int kq), (3, .int (nI (i + 1)))]) := lv_sub hl [1, 2, 3, 0] rfl
        exact ih8 (i + 1) g1 m1 _ _ _ (hB1) (by omega) (hval) (ho) (by omega) hP hD hS hl
      · have t_23 : (((vF 5) i)).toInt = (kq).toInt := toI_nne c_23 rfl rfl
        have hpl := pl_lt (C := C) (show i < R + Gq by omega) (Nat.le_refl C)
        refine lv_aload_n hx hb dX12_thing_26 rfl (lv_at hl 0 rfl) ?_
        refine lv_iload_n hx hb dX12_thing_27 rfl (lv_at hl 1 rfl) ?_
        refine lv_aload_n hx hb dX12_thing_28 rfl (lv_at hl 0 rfl) ?_
        refine lv_iload_n hx hb dX12_thing_29 rfl (lv_at hl 3 rfl) ?_
        refine lv_aload_n hx hb dX12_thing_30 rfl (lv_at hl 0 rfl) ?_
        refine va_get (D := (dC, dI)) (ci := 12) (v := .int (vi 5)) (C := RX12) (T := TX12) (N := 163) (fs := fM (vS a vi vj)) hx hb hts iwsRX12_thing_in12 hown hK hP 0 rfl rfl 5 (by decide) (hts (.fieldLink RX12 396 "OptimaWorksModel" "columns" "I") (by decide +kernel)) (fun _ h9 => h9) rfl dX12_thing_31 ?_
        refine lv_topi (fun y3 hy3 => ?_)
        obtain rfl : (nI C) = y3 := (hy3.trans (hC)).symm
        have hFc := allFree hD hS hA
        refine va_calli (va_runV (As := [.int (nI i), .int (nI C)]) (rest := [.int (nI sn), .ref h0]) ⟨hx, hb, hml, hown, hts⟩ (r_X12_at l dC dI a k h0 vi vj (fT vF 0 g1) vG i C C (by first | with_reducible assumption | decide | omega | rfl | assumption) H.size) (cwV 2 hts gwsRX12_thing_1 rfl rfl rfl hd_yX12_at_RX12 (by decide +kernel)) (fz_pre (va_recv hK hP (ci := 12) (q0 := 0) rfl rfl) hP hK hD) rfl rfl hl.1 rfl (lv_room (Nat.le_of_ble_eq_true rfl)) dX12_thing_34 (by decide +kernel)) hS (fun q _ h => hFc q h) hFc (fun r34 u t9_ H locs ht hvm hw9 hB9 hz1 hk1 hS => ?_)
        have hP : va_P (dC, dI) vwCl (WR a k h0 vi vj (fT vF 0 g1) vG) H := fz_P ht hB9.1
        have hD : va_D A (WR a k h0 vi vj (fT vF 0 g1) vG) := hB9.2.weaken (fun _ q _ h => hFc q.1 h)
        obtain rfl := hw9
        have hFc := allFree hD hS hA
        refine va_callv (va_runV (As := [.int (nI sn), .int (nI (30 + i * (C + 1) + C))]) (rest := []) ⟨hx, hb, hml, hown, hts⟩ (b_X12_copy l dC dI a k h0 vi vj (fT vF 0 g1) vG sn (30 + i * (C + 1) + C) m1 hB1 (t i C) (by rw [((ho _ (by omega)).trans (hN.1 i (by omega) C (by omega)))]) (by first | with_reducible assumption | decide | omega | rfl | assumption) (by first | with_reducible assumption | decide | omega | rfl | assumption) (by first | with_reducible assumption | decide | omega | rfl | assumption) H.size) (cwV 2 hts gwsRX12_thing_2 rfl rfl rfl hd_yX12_copy_RX12 (by decide +kernel)) (fz_pre (va_recv hK hP (ci := 12) (q0 := 0) rfl rfl) hP hK hD) rfl rfl hl.1 rfl (lv_room (Nat.le_of_ble_eq_true rfl)) dX12_thing_37 (by decide +kernel)) hS (fun q _ h => hFc q h) hFc (fun g37 t9_ H locs ht hvm hw9 hB9 hz1 hk1 hS => ?_)
        have hP : va_P (dC, dI) vwCl (WR a k h0 vi vj (fT (fT vF 0 g1) 0 g37) vG) H := fz_P ht hB9.1
        have hD : va_D A (WR a k h0 vi vj (fT (fT vF 0 g1) 0 g37) vG) := hB9.2.weaken (fun _ q _ h => hFc q.1 h)
        have e9 : fT vF 0 g37 = fT (fT vF 0 g1) 0 g37 := (fT_sm _ _ _ _).symm
        rw [← e9] at hP hD
        clear e9
        have hP : va_P (dC, dI) vwCl (WR a k h0 vi vj (fT vF 0 g37) vG) H := hP
        have hD : va_D A (WR a k h0 vi vj (fT vF 0 g37) vG) := hD
        have f37_0 := hw9
        try dsimp only at f37_0
        refine lv_iinc (v := (nI (i + 1))) hx hb dX12_thing_40 hl (k := 3) rfl (nI_add i 1) (by decide) rfl (fun ls (hl : lv_has ls _ ([(3, .int (nI (i + 1))), (0, .ref h0), (1, .int (nI sn)), (2, .int kq)])) => ?_)
        refine lv_goto (tgt := 8) hx hb dX12_thing_43 (by decide) ?_
        have hl : lv_has _ _ ([(0, .ref h0), (1, .int (nI sn)), (2, .int kq), (3, .int (nI (i + 1)))]) := lv_sub hl [1, 2, 3, 0] rfl
        exact ih8 (i + 1) g37 (fT m1 sn (t i C)) _ _ _ (f37_0) (by omega) (Or.inr ⟨i, by omega, by rw [fT_eq]⟩) (fun q hq => by (rw [fT_ne _ _ (by omega)]); exact ho q hq) (by omega) hP hD hS hl
end
section
/-- the model's numbers are in their bounds: F56 low, F57 high, F60 ways' numbers, F63 goals' tops, F64 goals' unders, F70 values -/
def MdlB (F : Nat → Nat → Int32) (gn : Nat) : Prop :=
  (∀ k, k < 9 → -999 ≤ (F 56 k).toInt ∧ (F 56 k).toInt ≤ 999) ∧ (∀ k, k < 9 → -999 ≤ (F 57 k).toInt ∧ (F 57 k).toInt ≤ 999) ∧
  (∀ q, q < 39 → -99999 ≤ (F 60 (9 * q)).toInt ∧ (F 60 (9 * q)).toInt ≤ 99999) ∧ (∀ q k, q < 39 → k < 8 → -99 ≤ (F 60 (9 * q + 1 + k)).toInt ∧ (F 60 (9 * q + 1 + k)).toInt ≤ 99) ∧
  (∀ g, g < gn → (-9999 ≤ (F 63 (9 * g)).toInt ∧ (F 63 (9 * g)).toInt ≤ 9999) ∧ 1 ≤ (F 64 (9 * g)).toInt ∧ (F 64 (9 * g)).toInt ≤ 9999) ∧
  (∀ g k, g < gn → k < 8 → (-99 ≤ (F 63 (9 * g + 1 + k)).toInt ∧ (F 63 (9 * g + 1 + k)).toInt ≤ 99) ∧ 1 ≤ (F 64 (9 * g + 1 + k)).toInt ∧ (F 64 (9 * g + 1 + k)).toInt ≤ 99) ∧
  (∀ k, k < 9 → -999 ≤ (F 70 k).toInt ∧ (F 70 k).toInt ≤ 999)
/-- the lines of a case, as they are laid -/
def BldL (C R : Nat) (m : Nat → Int) (f5 : Nat → Int32) : Prop := ∀ i, i < R → f5 i = nI (C + i) ∧ (∀ j, j < C - 1 → (m (30 + i * (C + 1) + j)).natAbs ≤ 99) ∧ m (30 + i * (C + 1) + (C - 1)) = -1 ∧ (m (30 + i * (C + 1) + C)).natAbs ≤ 1000000
theorem BldL.more {C R : Nat} {m m2 : Nat → Int} {f5 f52 : Nat → Int32} (h : BldL C R m f5) (hf : ∀ i, i < R → f52 i = f5 i) (e : ∀ p, p < 30 + R * (C + 1) → m2 p = m p) (hC : 0 < C) (h1 : f52 R = nI (C + R)) (h2 : ∀ j, j < C - 1 → (m2 (30 + R * (C + 1) + j)).natAbs ≤ 99) (h3 : m2 (30 + R * (C + 1) + (C - 1)) = -1) (h4 : (m2 (30 + R * (C + 1) + C)).natAbs ≤ 1000000) : BldL C (R + 1) m2 f52 := by
  intro i hi
  by_cases ei : i = R
  · subst ei; exact ⟨h1, h2, h3, h4⟩
  · have hiR : i < R := by omega
    obtain ⟨k1, k2, k3, k4⟩ := h i hiR
    have hp : ∀ j, j ≤ C → m2 (30 + i * (C + 1) + j) = m (30 + i * (C + 1) + j) := fun j hj => e _ (by have := pl_lt hiR hj; omega)
    exact ⟨by rw [hf i hiR]; exact k1, fun j hj => by rw [hp j (by omega)]; exact k2 j hj, by rw [hp _ (by omega)]; exact k3, by rw [hp _ (Nat.le_refl _)]; exact k4⟩
theorem mulI {x y : Int32} : (x.toInt64 * y.toInt64).toInt = x.toInt * y.toInt := by
  have h1 := Int32.toInt_lt x
  have h2 := Int32.le_toInt x
  have h3 := Int32.toInt_lt y
  have h4 := Int32.le_toInt y
  rw [Int64.toInt_mul, Int32.toInt_toInt64, Int32.toInt_toInt64]
  have h5 : (x.toInt * y.toInt).natAbs ≤ 2147483648 * 2147483648 := by
    rw [Int.natAbs_mul]; exact Nat.mul_le_mul (by omega) (by omega)
  exact Int.bmod_eq_of_le (by omega) (by omega)
theorem mul_box {x y : Int} {a b : Nat} (hx : x.natAbs ≤ a) (hy : y.natAbs ≤ b) : (x * y).natAbs ≤ a * b := by
  rw [Int.natAbs_mul]; exact Nat.mul_le_mul hx hy
/-- how great the common under of a goal can be -/
def scB (k : Nat) : Nat := if k = 0 then 1 else 9999 * 99 ^ (k - 1)
theorem scB_step {k x u : Nat} (hx : x ≤ scB k) (hu : u ≤ (if k = 0 then 9999 else 99)) : x * u ≤ scB (k + 1) := by
  refine Nat.le_trans (Nat.mul_le_mul hx hu) ?_
  unfold scB
  by_cases h : k = 0
  · subst h; decide
  · rw [if_neg h, if_neg h, if_neg (by omega), Nat.mul_assoc, ← Nat.pow_succ, show (k - 1).succ = k + 1 - 1 by omega]; exact Nat.le_refl _
theorem scB_9 : scB 9 < 2 ^ 67 := by decide
theorem scB_mono {k : Nat} (h : k ≤ 9) : scB k < 2 ^ 67 := by
  have : ∀ k, k < 10 → scB k < 2 ^ 67 := by decide
  exact this k (by omega)
end
section
theorem hd_yX12_newLine_RX12 : yX12_newLine.cls = RX12 ∧ yX12_newLine.cls ≠ "java/lang/invoke/MethodHandle" ∧ yX12_newLine.cls ≠ "java/lang/invoke/VarHandle" ∧ (parseMethodDescriptor yX12_newLine.desc).map (fun d => d.parameters.length) = some 0 := by decide +kernel
theorem hd_yX12_least_RX12 : yX12_least.cls = RX12 ∧ yX12_least.cls ≠ "java/lang/invoke/MethodHandle" ∧ yX12_least.cls ≠ "java/lang/invoke/VarHandle" ∧ (parseMethodDescriptor yX12_least.desc).map (fun d => d.parameters.length) = some 1 := by decide +kernel
theorem hd_yX12_wayRow_RX12 : yX12_wayRow.cls = RX12 ∧ yX12_wayRow.cls ≠ "java/lang/invoke/MethodHandle" ∧ yX12_wayRow.cls ≠ "java/lang/invoke/VarHandle" ∧ (parseMethodDescriptor yX12_wayRow.desc).map (fun d => d.parameters.length) = some 2 := by decide +kernel
theorem dX12_least_0 : decode cX12_least 0 = .ok (.aload_n 0, 1) := dk_42 (by decide +kernel)
theorem dX12_least_1 : decode cX12_least 1 = .ok (.getfield 829, 3) := dk_180 (by decide +kernel)
theorem dX12_least_4 : decode cX12_least 4 = .ok (.ifCond .eq 22, 3) := dk_153 (by decide +kernel)
theorem dX12_least_7 : decode cX12_least 7 = .ok (.aload_n 0, 1) := dk_42 (by decide +kernel)
theorem dX12_least_8 : decode cX12_least 8 = .ok (.getfield 197, 3) := dk_180 (by decide +kernel)
theorem dX12_least_11 : decode cX12_least 11 = .ok (.iload_n 1, 1) := dk_27 (by decide +kernel)
theorem dX12_least_12 : decode cX12_least 12 = .ok (.iaload, 1) := dk_46 (by decide +kernel)
theorem dX12_least_13 : decode cX12_least 13 = .ok (.iconst 1, 1) := dk_4 (by decide +kernel)
theorem dX12_least_14 : decode cX12_least 14 = .ok (.if_icmp .ne 12, 3) := dk_160 (by decide +kernel)
theorem dX12_least_17 : decode cX12_least 17 = .ok (.aload_n 0, 1) := dk_42 (by decide +kernel)
theorem dX12_least_18 : decode cX12_least 18 = .ok (.getfield 233, 3) := dk_180 (by decide +kernel)
theorem dX12_least_21 : decode cX12_least 21 = .ok (.iload_n 1, 1) := dk_27 (by decide +kernel)
theorem dX12_least_22 : decode cX12_least 22 = .ok (.iaload, 1) := dk_46 (by decide +kernel)
theorem dX12_least_23 : decode cX12_least 23 = .ok (.goto 9, 3) := dk_167 (by decide +kernel)
theorem dX12_least_26 : decode cX12_least 26 = .ok (.aload_n 0, 1) := dk_42 (by decide +kernel)
theorem dX12_least_27 : decode cX12_least 27 = .ok (.getfield 191, 3) := dk_180 (by decide +kernel)
theorem dX12_least_30 : decode cX12_least 30 = .ok (.iload_n 1, 1) := dk_27 (by decide +kernel)
theorem dX12_least_31 : decode cX12_least 31 = .ok (.iaload, 1) := dk_46 (by decide +kernel)
theorem dX12_least_32 : decode cX12_least 32 = .ok (.ireturn, 1) := dk_172 (by decide +kernel)
def wsRX12_least : List Cond := .code yX12_least cX12_least 2 (some .int) :: ([.fieldLink RX12 829 "OptimaWorksModel" "fixes" "Z", .fieldLink RX12 191 "OptimaWorksModel" "low" "[I", .fieldLink RX12 197 "OptimaWorksModel" "whole" "[I", .fieldLink RX12 233 "OptimaWorksModel" "value" "[I"] ++ wsX120)
theorem iwsRX12_least_in12 : ∀ w ∈ wsX120, w ∈ wsRX12_least := fun _ h => List.mem_cons_of_mem _ (List.mem_append_right _ h)
theorem gdwsRX12_least : wsRX12_least.all goodWord = true := gdC rfl (gdA (by decide +kernel : ([.fieldLink RX12 829 "OptimaWorksModel" "fixes" "Z", .fieldLink RX12 191 "OptimaWorksModel" "low" "[I", .fieldLink RX12 197 "OptimaWorksModel" "whole" "[I", .fieldLink RX12 233 "OptimaWorksModel" "value" "[I"] : List Cond).all goodWord = true) gdwsX120)
set_option maxHeartbeats 4000000 in
set_option maxRecDepth 100000 in
/-- least(k) -/
theorem r_X12_least (l : Launch) (dC : Nat → ClassId) (dI : Nat → Nat → Nat) (a : Nat → Nat) (k : Nat → ClassId) (h0 : Nat) (vi : Nat → Int32) (vj : Nat → Int64) (vF : Nat → Nat → Int32) (vG : Nat → Nat → Int64) (kn : Nat) (gq : Nat) (hkn : kn < 9) (hM : MdlB vF gq) (sz : Nat) : Met l yX12_least wsRX12_least ({ frames := 0, cells := 0, slots := 0, locals := 0 }) (va_Pc [.ref h0, .int (nI kn)] (fun U => U.heap.size = sz ∧ va_P (dC, dI) vwCl (WR a k h0 vi vj vF vG) U.heap ∧ va_K (dC, dI) vwCl (tX12 k) U ∧ va_D (fun _ => True) (WR a k h0 vi vj vF vG))) (va_Qi (fun (r : Int32) (u : Unit) => (-999 ≤ (r).toInt ∧ (r).toInt ≤ 999)) (fun (u : Unit) t => va_P (dC, dI) vwCl (WR a k h0 vi vj vF vG) t.heap ∧ va_D (va_A (WR a k h0 vi vj vF vG) sz) (WR a k h0 vi vj vF vG)) (va_A (WR a k h0 vi vj vF vG) sz)) 0 0 (va_A (WR a k h0 vi vj vF vG) sz) := by
  refine Met.ofW (cc := cX12_least) (maxL := 2) (ret := (some .int)) (by decide) rfl ?_
  intro p e s m args below meth c s₁ B hml hv
  obtain ⟨rfl, hsz, hP, hK, hD0⟩ := hv
  have hx := B.exec
  have hb := B.bytes
  have hr := B.returns
  have hts := atoms_spec (ws := wsRX12_least) B.pre
  have hown : s.vm.findClass RX12 = some m.cls := findClass_of_methodNamed B.named
  have hlocks := B.notSynchronized
  subst hsz
  have hD := hD0.self (sz := s.heap.size)
  generalize hAe : va_A (WR a k h0 vi vj vF vG) s.heap.size = A at hD ⊢
  have hA : ∀ q : Nat, s.heap.size ≤ q → A q := fun q h => by rw [← hAe]; exact Or.inr h
  have hS : va_S A s.heap s.heap [] := va_S.rf
  have hl := lv_entry ([.ref h0, .int (nI kn)]) (n := 2) (Nat.le_of_ble_eq_true rfl)
  rw [lg_entry_eq]
  generalize (lg_sl ([.ref h0, .int (nI kn)]) ++ List.replicate (2 - (lg_sl ([.ref h0, .int (nI kn)])).length) Slot.unset).toArray = ls at hl ⊢
  have hl : lv_has ls 2 [(0, .ref h0), (1, .int (nI kn))] := hl
  refine lv_aload_n hx hb dX12_least_0 rfl (lv_at hl 0 rfl) ?_
  refine va_get (D := (dC, dI)) (ci := 12) (v := .int (vi 116)) (C := RX12) (T := TX12) (N := 163) (fs := fM (vS a vi vj)) hx hb hts iwsRX12_least_in12 hown hK hP 0 rfl rfl 116 (by decide) (hts (.fieldLink RX12 829 "OptimaWorksModel" "fixes" "Z") (by decide +kernel)) (fun _ h9 => h9) rfl dX12_least_1 ?_
  refine lv_if_eq (tgt := 26) hx hb dX12_least_4 (by decide) (fun c_4 => ?_) (fun c_4 => ?_)
  · have t_4 : ((vi 116)).toInt = 0 := toI_eq c_4 rfl (by decide)
    refine lv_aload_n hx hb dX12_least_26 rfl (lv_at hl 0 rfl) ?_
    refine va_get (D := (dC, dI)) (ci := 12) (v := .ref (a 56)) (C := RX12) (T := TX12) (N := 163) (fs := fM (vS a vi vj)) hx hb hts iwsRX12_least_in12 hown hK hP 0 rfl rfl 96 (by decide) (hts (.fieldLink RX12 191 "OptimaWorksModel" "low" "[I") (by decide +kernel)) (fun _ h9 => h9) rfl dX12_least_27 ?_
    refine lv_iload_n hx hb dX12_least_30 rfl (lv_at hl 1 rfl) ?_
    refine va_iald (cA := k 56) (n := 9) (f := (vF 56)) hx hb hK hP 57 56 (WR_get 56 (by decide)) (TR_get 56 (by decide)) (vp_in_nI (show kn < 9 by omega) (by omega)) dX12_least_31 ?_
    refine lv_topi (fun y1 hy1 => ?_)
    obtain rfl : ((vF 56) kn) = y1 := (hy1.trans (by rw [nI_clamp (by omega)])).symm
    refine W.widen (k := 0) (n := 0) (by decide +kernel) (by decide +kernel) ?_
    exact W.iret (v := ((vF 56) kn)) hx hb hr (fun t9_ ht hW => ⟨⟨((vF 56) kn), (), rfl, by (try dsimp only); exact hM.1 kn hkn, by rw [ht]; exact hP, hD⟩, hS.F ht⟩) hS.2.2 dX12_least_32
  · have t_4 : ¬ ((vi 116)).toInt = 0 := toI_neq c_4 rfl (by decide)
    refine lv_aload_n hx hb dX12_least_7 rfl (lv_at hl 0 rfl) ?_
    refine va_get (D := (dC, dI)) (ci := 12) (v := .ref (a 58)) (C := RX12) (T := TX12) (N := 163) (fs := fM (vS a vi vj)) hx hb hts iwsRX12_least_in12 hown hK hP 0 rfl rfl 98 (by decide) (hts (.fieldLink RX12 197 "OptimaWorksModel" "whole" "[I") (by decide +kernel)) (fun _ h9 => h9) rfl dX12_least_8 ?_
    refine lv_iload_n hx hb dX12_least_11 rfl (lv_at hl 1 rfl) ?_
    refine va_iald (cA := k 58) (n := 9) (f := (vF 58)) hx hb hK hP 59 58 (WR_get 58 (by decide)) (TR_get 58 (by decide)) (vp_in_nI (show kn < 9 by omega) (by omega)) dX12_least_12 ?_
    refine lv_topi (fun y2 hy2 => ?_)
    obtain rfl : ((vF 58) kn) = y2 := (hy2.trans (by rw [nI_clamp (by omega)])).symm
    refine lv_iconst (v := 1) hx hb dX12_least_13 (by decide) ?_
    refine lv_icmp_ne (tgt := 26) hx hb dX12_least_14 (by decide) (fun c_14 => ?_) (fun c_14 => ?_)
    · have t_14 : (((vF 58) kn)).toInt ≠ 1 := toI_ne c_14 rfl (by decide)
      refine lv_aload_n hx hb dX12_least_26 rfl (lv_at hl 0 rfl) ?_
      refine va_get (D := (dC, dI)) (ci := 12) (v := .ref (a 56)) (C := RX12) (T := TX12) (N := 163) (fs := fM (vS a vi vj)) hx hb hts iwsRX12_least_in12 hown hK hP 0 rfl rfl 96 (by decide) (hts (.fieldLink RX12 191 "OptimaWorksModel" "low" "[I") (by decide +kernel)) (fun _ h9 => h9) rfl dX12_least_27 ?_
      refine lv_iload_n hx hb dX12_least_30 rfl (lv_at hl 1 rfl) ?_
      refine va_iald (cA := k 56) (n := 9) (f := (vF 56)) hx hb hK hP 57 56 (WR_get 56 (by decide)) (TR_get 56 (by decide)) (vp_in_nI (show kn < 9 by omega) (by omega)) dX12_least_31 ?_
      refine lv_topi (fun y3 hy3 => ?_)
      obtain rfl : ((vF 56) kn) = y3 := (hy3.trans (by rw [nI_clamp (by omega)])).symm
      refine W.widen (k := 0) (n := 0) (by decide +kernel) (by decide +kernel) ?_
      exact W.iret (v := ((vF 56) kn)) hx hb hr (fun t9_ ht hW => ⟨⟨((vF 56) kn), (), rfl, by (try dsimp only); exact hM.1 kn hkn, by rw [ht]; exact hP, hD⟩, hS.F ht⟩) hS.2.2 dX12_least_32
    · have t_14 : (((vF 58) kn)).toInt = 1 := toI_nne c_14 rfl (by decide)
      refine lv_aload_n hx hb dX12_least_17 rfl (lv_at hl 0 rfl) ?_
      refine va_get (D := (dC, dI)) (ci := 12) (v := .ref (a 70)) (C := RX12) (T := TX12) (N := 163) (fs := fM (vS a vi vj)) hx hb hts iwsRX12_least_in12 hown hK hP 0 rfl rfl 115 (by decide) (hts (.fieldLink RX12 233 "OptimaWorksModel" "value" "[I") (by decide +kernel)) (fun _ h9 => h9) rfl dX12_least_18 ?_
      refine lv_iload_n hx hb dX12_least_21 rfl (lv_at hl 1 rfl) ?_
      refine va_iald (cA := k 70) (n := 9) (f := (vF 70)) hx hb hK hP 71 70 (WR_get 70 (by decide)) (TR_get 70 (by decide)) (vp_in_nI (show kn < 9 by omega) (by omega)) dX12_least_22 ?_
      refine lv_topi (fun y4 hy4 => ?_)
      obtain rfl : ((vF 70) kn) = y4 := (hy4.trans (by rw [nI_clamp (by omega)])).symm
      refine lv_goto (tgt := 32) hx hb dX12_least_23 (by decide) ?_
      refine W.widen (k := 0) (n := 0) (by decide +kernel) (by decide +kernel) ?_
      exact W.iret (v := ((vF 70) kn)) hx hb hr (fun t9_ ht hW => ⟨⟨((vF 70) kn), (), rfl, by (try dsimp only); exact hM.2.2.2.2.2.2 kn hkn, by rw [ht]; exact hP, hD⟩, hS.F ht⟩) hS.2.2 dX12_least_32
theorem dX12_wayRow_0 : decode cX12_wayRow 0 = .ok (.aload_n 0, 1) := dk_42 (by decide +kernel)
theorem dX12_wayRow_1 : decode cX12_wayRow 1 = .ok (.invokevirtual 823, 3) := dk_182 (by decide +kernel)
theorem dX12_wayRow_4 : decode cX12_wayRow 4 = .ok (.istore_n 3, 1) := dk_62 (by decide +kernel)
theorem dX12_wayRow_5 : decode cX12_wayRow 5 = .ok (.aload_n 0, 1) := dk_42 (by decide +kernel)
theorem dX12_wayRow_6 : decode cX12_wayRow 6 = .ok (.getfield 203, 3) := dk_180 (by decide +kernel)
theorem dX12_wayRow_9 : decode cX12_wayRow 9 = .ok (.bipush 9, 2) := dk_16 (by decide +kernel)
theorem dX12_wayRow_11 : decode cX12_wayRow 11 = .ok (.iload_n 1, 1) := dk_27 (by decide +kernel)
theorem dX12_wayRow_12 : decode cX12_wayRow 12 = .ok (.imul, 1) := dk_104 (by decide +kernel)
theorem dX12_wayRow_13 : decode cX12_wayRow 13 = .ok (.iaload, 1) := dk_46 (by decide +kernel)
theorem dX12_wayRow_14 : decode cX12_wayRow 14 = .ok (.i2l, 1) := dk_133 (by decide +kernel)
theorem dX12_wayRow_15 : decode cX12_wayRow 15 = .ok (.lstore 4, 2) := dk_55 (by decide +kernel)
theorem dX12_wayRow_17 : decode cX12_wayRow 17 = .ok (.iconst 0, 1) := dk_3 (by decide +kernel)
theorem dX12_wayRow_18 : decode cX12_wayRow 18 = .ok (.istore 6, 2) := dk_54 (by decide +kernel)
theorem dX12_wayRow_20 : decode cX12_wayRow 20 = .ok (.iload 6, 2) := dk_21 (by decide +kernel)
theorem dX12_wayRow_22 : decode cX12_wayRow 22 = .ok (.aload_n 0, 1) := dk_42 (by decide +kernel)
theorem dX12_wayRow_23 : decode cX12_wayRow 23 = .ok (.getfield 774, 3) := dk_180 (by decide +kernel)
theorem dX12_wayRow_26 : decode cX12_wayRow 26 = .ok (.if_icmp .ge 57, 3) := dk_162 (by decide +kernel)
theorem dX12_wayRow_29 : decode cX12_wayRow 29 = .ok (.aload_n 0, 1) := dk_42 (by decide +kernel)
theorem dX12_wayRow_30 : decode cX12_wayRow 30 = .ok (.getfield 203, 3) := dk_180 (by decide +kernel)
theorem dX12_wayRow_33 : decode cX12_wayRow 33 = .ok (.bipush 9, 2) := dk_16 (by decide +kernel)
theorem dX12_wayRow_35 : decode cX12_wayRow 35 = .ok (.iload_n 1, 1) := dk_27 (by decide +kernel)
theorem dX12_wayRow_36 : decode cX12_wayRow 36 = .ok (.imul, 1) := dk_104 (by decide +kernel)
theorem dX12_wayRow_37 : decode cX12_wayRow 37 = .ok (.iconst 1, 1) := dk_4 (by decide +kernel)
theorem dX12_wayRow_38 : decode cX12_wayRow 38 = .ok (.iadd, 1) := dk_96 (by decide +kernel)
theorem dX12_wayRow_39 : decode cX12_wayRow 39 = .ok (.iload 6, 2) := dk_21 (by decide +kernel)
theorem dX12_wayRow_41 : decode cX12_wayRow 41 = .ok (.iadd, 1) := dk_96 (by decide +kernel)
theorem dX12_wayRow_42 : decode cX12_wayRow 42 = .ok (.iaload, 1) := dk_46 (by decide +kernel)
theorem dX12_wayRow_43 : decode cX12_wayRow 43 = .ok (.i2l, 1) := dk_133 (by decide +kernel)
theorem dX12_wayRow_44 : decode cX12_wayRow 44 = .ok (.lstore 7, 2) := dk_55 (by decide +kernel)
theorem dX12_wayRow_46 : decode cX12_wayRow 46 = .ok (.aload_n 0, 1) := dk_42 (by decide +kernel)
theorem dX12_wayRow_47 : decode cX12_wayRow 47 = .ok (.aload_n 0, 1) := dk_42 (by decide +kernel)
theorem dX12_wayRow_48 : decode cX12_wayRow 48 = .ok (.iload_n 3, 1) := dk_29 (by decide +kernel)
theorem dX12_wayRow_49 : decode cX12_wayRow 49 = .ok (.iload 6, 2) := dk_21 (by decide +kernel)
theorem dX12_wayRow_51 : decode cX12_wayRow 51 = .ok (.invokevirtual 405, 3) := dk_182 (by decide +kernel)
theorem dX12_wayRow_54 : decode cX12_wayRow 54 = .ok (.iload_n 2, 1) := dk_28 (by decide +kernel)
theorem dX12_wayRow_55 : decode cX12_wayRow 55 = .ok (.i2l, 1) := dk_133 (by decide +kernel)
theorem dX12_wayRow_56 : decode cX12_wayRow 56 = .ok (.lload 7, 2) := dk_22 (by decide +kernel)
theorem dX12_wayRow_58 : decode cX12_wayRow 58 = .ok (.lmul, 1) := dk_105 (by decide +kernel)
theorem dX12_wayRow_59 : decode cX12_wayRow 59 = .ok (.invokevirtual 369, 3) := dk_182 (by decide +kernel)
theorem dX12_wayRow_62 : decode cX12_wayRow 62 = .ok (.lload 4, 2) := dk_22 (by decide +kernel)
theorem dX12_wayRow_64 : decode cX12_wayRow 64 = .ok (.lload 7, 2) := dk_22 (by decide +kernel)
theorem dX12_wayRow_66 : decode cX12_wayRow 66 = .ok (.aload_n 0, 1) := dk_42 (by decide +kernel)
theorem dX12_wayRow_67 : decode cX12_wayRow 67 = .ok (.iload 6, 2) := dk_21 (by decide +kernel)
theorem dX12_wayRow_69 : decode cX12_wayRow 69 = .ok (.invokevirtual 826, 3) := dk_182 (by decide +kernel)
theorem dX12_wayRow_72 : decode cX12_wayRow 72 = .ok (.i2l, 1) := dk_133 (by decide +kernel)
theorem dX12_wayRow_73 : decode cX12_wayRow 73 = .ok (.lmul, 1) := dk_105 (by decide +kernel)
theorem dX12_wayRow_74 : decode cX12_wayRow 74 = .ok (.lsub, 1) := dk_101 (by decide +kernel)
theorem dX12_wayRow_75 : decode cX12_wayRow 75 = .ok (.lstore 4, 2) := dk_55 (by decide +kernel)
theorem dX12_wayRow_77 : decode cX12_wayRow 77 = .ok (.iinc 6 1, 3) := dk_132 (by decide +kernel)
theorem dX12_wayRow_80 : decode cX12_wayRow 80 = .ok (.goto (-60), 3) := dk_167 (by decide +kernel)
theorem dX12_wayRow_83 : decode cX12_wayRow 83 = .ok (.aload_n 0, 1) := dk_42 (by decide +kernel)
theorem dX12_wayRow_84 : decode cX12_wayRow 84 = .ok (.aload_n 0, 1) := dk_42 (by decide +kernel)
theorem dX12_wayRow_85 : decode cX12_wayRow 85 = .ok (.iload_n 3, 1) := dk_29 (by decide +kernel)
theorem dX12_wayRow_86 : decode cX12_wayRow 86 = .ok (.aload_n 0, 1) := dk_42 (by decide +kernel)
theorem dX12_wayRow_87 : decode cX12_wayRow 87 = .ok (.getfield 396, 3) := dk_180 (by decide +kernel)
theorem dX12_wayRow_90 : decode cX12_wayRow 90 = .ok (.invokevirtual 405, 3) := dk_182 (by decide +kernel)
theorem dX12_wayRow_93 : decode cX12_wayRow 93 = .ok (.iload_n 2, 1) := dk_28 (by decide +kernel)
theorem dX12_wayRow_94 : decode cX12_wayRow 94 = .ok (.i2l, 1) := dk_133 (by decide +kernel)
theorem dX12_wayRow_95 : decode cX12_wayRow 95 = .ok (.lload 4, 2) := dk_22 (by decide +kernel)
theorem dX12_wayRow_97 : decode cX12_wayRow 97 = .ok (.lmul, 1) := dk_105 (by decide +kernel)
theorem dX12_wayRow_98 : decode cX12_wayRow 98 = .ok (.invokevirtual 369, 3) := dk_182 (by decide +kernel)
theorem dX12_wayRow_101 : decode cX12_wayRow 101 = .ok (.return_, 1) := dk_177 (by decide +kernel)
def wsRX12_wayRow : List Cond := .code yX12_wayRow cX12_wayRow 9 none :: ([.fieldLink RX12 203 "OptimaWorksModel" "wayNumber" "[I", .fieldLink RX12 774 "OptimaWorksModel" "variables" "I", .fieldLink RX12 396 "OptimaWorksModel" "columns" "I"] ++ wsX120 ++ (wsV RX12 823 RX12 yX12_newLine wsRX12_newLine) ++ (wsV RX12 405 RX12 yX12_at wsRX12_at) ++ (wsV RX12 369 RX12 yX12_put wsRX12_put) ++ (wsV RX12 826 RX12 yX12_least wsRX12_least))
theorem iwsRX12_wayRow_in12 : ∀ w ∈ wsX120, w ∈ wsRX12_wayRow := fun _ h => List.mem_cons_of_mem _ (List.mem_append_left _ (List.mem_append_left _ (List.mem_append_left _ (List.mem_append_left _ (List.mem_append_right _ h)))))
theorem gwsRX12_wayRow_0 : GoodIn wsRX12_wayRow (wsV RX12 823 RX12 yX12_newLine wsRX12_newLine) := goodIn_sub (fun _ h => List.mem_cons_of_mem _ (List.mem_append_left _ (List.mem_append_left _ (List.mem_append_left _ (List.mem_append_right _ h))))) (gdV (by decide +kernel) gdwsRX12_newLine)
theorem gwsRX12_wayRow_1 : GoodIn wsRX12_wayRow (wsV RX12 405 RX12 yX12_at wsRX12_at) := goodIn_sub (fun _ h => List.mem_cons_of_mem _ (List.mem_append_left _ (List.mem_append_left _ (List.mem_append_right _ h)))) (gdV (by decide +kernel) gdwsRX12_at)
theorem gwsRX12_wayRow_2 : GoodIn wsRX12_wayRow (wsV RX12 369 RX12 yX12_put wsRX12_put) := goodIn_sub (fun _ h => List.mem_cons_of_mem _ (List.mem_append_left _ (List.mem_append_right _ h))) (gdV (by decide +kernel) gdwsRX12_put)
theorem gwsRX12_wayRow_3 : GoodIn wsRX12_wayRow (wsV RX12 826 RX12 yX12_least wsRX12_least) := goodIn_sub (fun _ h => List.mem_cons_of_mem _ (List.mem_append_right _ h)) (gdV (by decide +kernel) gdwsRX12_least)
theorem gdwsRX12_wayRow : wsRX12_wayRow.all goodWord = true := gdC rfl (gdA (gdA (gdA (gdA (gdA (by decide +kernel : ([.fieldLink RX12 203 "OptimaWorksModel" "wayNumber" "[I", .fieldLink RX12 774 "OptimaWorksModel" "variables" "I", .fieldLink RX12 396 "OptimaWorksModel" "columns" "I"] : List Cond).all goodWord = true) gdwsX120) (gdV (by decide +kernel) gdwsRX12_newLine)) (gdV (by decide +kernel) gdwsRX12_at)) (gdV (by decide +kernel) gdwsRX12_put)) (gdV (by decide +kernel) gdwsRX12_least))
set_option maxHeartbeats 4000000 in
set_option maxRecDepth 100000 in
/-- wayRow(w, how) -/
theorem r_X12_wayRow (l : Launch) (dC : Nat → ClassId) (dI : Nat → Nat → Nat) (a : Nat → Nat) (k : Nat → ClassId) (h0 : Nat) (vi : Nat → Int32) (vj : Nat → Int64) (vF : Nat → Nat → Int32) (vG : Nat → Nat → Int64) (wn : Nat) (hw : Int32) (hI : Int) (C : Nat) (R : Nat) (gq : Nat) (mg : Nat → Int) (hBg : Bg (vF 0) mg) (hC : vi 5 = nI C) (hR : vi 6 = nI R) (hG : vi 7 = 0) (hv9 : vi 90 = nI (C - 1)) (hC9 : 0 < C ∧ C ≤ 9) (hR40 : R ≤ 40) (hBl : BldL C R mg (vF 5)) (hM : MdlB vF gq) (hwn : wn < 39) (hhI : (hw).toInt = hI) (hI1 : hI = 1 ∨ hI = -1) (sz : Nat) : Met l yX12_wayRow wsRX12_wayRow ({ frames := 3, cells := 0, slots := 0, locals := 70 }) (va_Pc [.ref h0, .int (nI wn), .int hw] (fun U => U.heap.size = sz ∧ va_P (dC, dI) vwCl (WR a k h0 vi vj vF vG) U.heap ∧ va_K (dC, dI) vwCl (tX12 k) U ∧ va_D (fun _ => True) (WR a k h0 vi vj vF vG))) (va_Qv (fun (u : (Nat → Int32) × (Nat → Int)) => (Bg (u.1) (u.2)) ∧ (BldL C (R + 1) (u.2) (upd (vF 5) (nI R).toNatClampNeg (nI (C + R)))) ∧ (∀ q, (q < 30 ∨ 1000 ≤ q) → (u.2) q = mg q)) (fun (u : (Nat → Int32) × (Nat → Int)) t => va_P (dC, dI) vwCl (WR a k h0 (fT vi 6 (nI (R + 1))) vj (fT (fT vF 0 (u.1)) 5 (upd (vF 5) (nI R).toNatClampNeg (nI (C + R)))) vG) t.heap ∧ va_D (va_A (WR a k h0 vi vj vF vG) sz) (WR a k h0 (fT vi 6 (nI (R + 1))) vj (fT (fT vF 0 (u.1)) 5 (upd (vF 5) (nI R).toNatClampNeg (nI (C + R)))) vG)) (va_A (WR a k h0 vi vj vF vG) sz)) 0 0 (va_A (WR a k h0 vi vj vF vG) sz) := by
  refine Met.ofW (cc := cX12_wayRow) (maxL := 9) (ret := none) (by decide) rfl ?_
  intro p e s m args below meth c s₁ B hml hv
  obtain ⟨rfl, hsz, hP, hK, hD0⟩ := hv
  have hx := B.exec
  have hb := B.bytes
  have hr := B.returns
  have hts := atoms_spec (ws := wsRX12_wayRow) B.pre
  have hown : s.vm.findClass RX12 = some m.cls := findClass_of_methodNamed B.named
  have hlocks := B.notSynchronized
  subst hsz
  have hD := hD0.self (sz := s.heap.size)
  generalize hAe : va_A (WR a k h0 vi vj vF vG) s.heap.size = A at hD ⊢
  have hA : ∀ q : Nat, s.heap.size ≤ q → A q := fun q h => by rw [← hAe]; exact Or.inr h
  have hS : va_S A s.heap s.heap [] := va_S.rf
  have hl := lv_entry ([.ref h0, .int (nI wn), .int hw]) (n := 9) (Nat.le_of_ble_eq_true rfl)
  rw [lg_entry_eq]
  generalize (lg_sl ([.ref h0, .int (nI wn), .int hw]) ++ List.replicate (9 - (lg_sl ([.ref h0, .int (nI wn), .int hw])).length) Slot.unset).toArray = ls at hl ⊢
  have hl : lv_has ls 9 [(0, .ref h0), (1, .int (nI wn)), (2, .int hw)] := hl
  have hmul : R * (C + 1) ≤ 40 * 10 := Nat.mul_le_mul hR40 (by omega)
  have hsd0 := hM.2.2.1 wn hwn
  refine lv_aload_n hx hb dX12_wayRow_0 rfl (lv_at hl 0 rfl) ?_
  have hFc := allFree hD hS hA
  refine va_calli (va_runV (As := []) (rest := []) ⟨hx, hb, hml, hown, hts⟩ (r_X12_newLine l dC dI a k h0 vi vj vF vG C R mg hBg (by first | with_reducible assumption | decide | omega | rfl | assumption) (by first | with_reducible assumption | decide | omega | rfl | assumption) (by first | with_reducible assumption | decide | omega | rfl | assumption) (by first | with_reducible assumption | decide | omega | rfl | assumption) (by omega) (by first | with_reducible assumption | decide | omega | rfl | assumption) s.heap.size) (cwV 0 hts gwsRX12_wayRow_0 rfl rfl rfl hd_yX12_newLine_RX12 (by decide +kernel)) (fz_pre (va_recv hK hP (ci := 12) (q0 := 0) rfl rfl) hP hK hD) rfl rfl hl.1 rfl (lv_room (Nat.le_of_ble_eq_true rfl)) dX12_wayRow_1 (by decide +kernel)) hS (fun q _ h => hFc q h) hFc (fun r1 u t9_ H locs ht hvm hw9 hB9 hz1 hk1 hS => ?_)
  revert u
  refine fz_p2 ?_
  intro g1 m21 hw9 hB9
  try dsimp only at hw9 hB9
  have hP : va_P (dC, dI) vwCl (WR a k h0 (fT vi 6 (nI (R + 1))) vj (fT (fT vF 0 g1) 5 (upd (vF 5) (nI R).toNatClampNeg (nI (C + R)))) vG) H := fz_P ht hB9.1
  have hD : va_D A (WR a k h0 (fT vi 6 (nI (R + 1))) vj (fT (fT vF 0 g1) 5 (upd (vF 5) (nI R).toNatClampNeg (nI (C + R)))) vG) := hB9.2.weaken (fun _ q _ h => hFc q.1 h)
  obtain ⟨rfl, f1_0, f1_1, f1_2⟩ := hw9
  refine lv_istore_n hx hb dX12_wayRow_4 rfl hl (by decide) rfl (fun ls (hl : lv_has ls _ ([(3, .int (nI R)), (0, .ref h0), (1, .int (nI wn)), (2, .int hw)])) => ?_)
  refine lv_aload_n hx hb dX12_wayRow_5 rfl (lv_at hl 1 rfl) ?_
  refine va_get (D := (dC, dI)) (ci := 12) (v := .ref (a 60)) (C := RX12) (T := TX12) (N := 163) (fs := fM (vS a (fT vi 6 (nI (R + 1))) vj)) hx hb hts iwsRX12_wayRow_in12 hown hK hP 0 rfl rfl 100 (by decide) (hts (.fieldLink RX12 203 "OptimaWorksModel" "wayNumber" "[I") (by decide +kernel)) (fun _ h9 => h9) rfl dX12_wayRow_6 ?_
  refine lv_bipush (v := 9) hx hb dX12_wayRow_9 (by decide) ?_
  refine lv_iload_n hx hb dX12_wayRow_11 rfl (lv_at hl 2 rfl) ?_
  refine lv_imul hx hb dX12_wayRow_12 ?_
  refine lv_topi (fun y1 hy1 => ?_)
  obtain rfl : (nI (9 * wn)) = y1 := (hy1.trans (pk_mul 9 wn)).symm
  refine va_iald (cA := k 60) (n := 351) (f := (vF 60)) hx hb hK hP 61 60 (WR_get 60 (by decide)) (TR_get 60 (by decide)) (vp_in_nI (show (9 * wn) < 351 by omega) (by omega)) dX12_wayRow_13 ?_
  refine lv_topi (fun y2 hy2 => ?_)
  obtain rfl : ((vF 60) (9 * wn)) = y2 := (hy2.trans (by rw [nI_clamp (by omega)])).symm
  refine lv_i2l hx hb dX12_wayRow_14 rfl ?_
  refine lv_lstore hx hb dX12_wayRow_15 hl (by decide) rfl (fun ls (hl : lv_has ls _ ([(4, .long (((vF 60) (9 * wn))).toInt64), (3, .int (nI R)), (0, .ref h0), (1, .int (nI wn)), (2, .int hw)])) => ?_)
  refine lv_iconst (v := 0) hx hb dX12_wayRow_17 (by decide) ?_
  refine lv_istore hx hb dX12_wayRow_18 hl (by decide) rfl (fun ls (hl : lv_has ls _ ([(6, .int 0), (4, .long (((vF 60) (9 * wn))).toInt64), (3, .int (nI R)), (0, .ref h0), (1, .int (nI wn)), (2, .int hw)])) => ?_)
  have hl : lv_has _ _ ([(0, .ref h0), (1, .int (nI wn)), (2, .int hw), (3, .int (nI R)), (4, .long ((((vF 60) (9 * wn))).toInt64)), (6, .int (nI 0))]) := lv_sub hl [3, 4, 5, 2, 1, 0] rfl
  refine (fun (loop : ∀ (n9 : Nat) (k5 : Nat) (sd : Int64) (g1 : Nat → Int32) (m1 : Nat → Int) (H : Heap) (locs : List Loc) (ls : Array Slot), (Bg g1 m1) → (k5 ≤ C - 1) → (-(99999 + 98901 * (k5 : Int)) ≤ sd.toInt ∧ sd.toInt ≤ 99999 + 98901 * (k5 : Int)) → (∀ j, j < k5 → (m1 (30 + R * (C + 1) + j)).natAbs ≤ 99) → (∀ j, k5 ≤ j → j ≤ C → m1 (30 + R * (C + 1) + j) = if j = C - 1 then -1 else 0) → (∀ q, (q < 30 + R * (C + 1) ∨ 1000 ≤ q) → m1 q = mg q) →  (C - 1 < k5 + n9) → va_P (dC, dI) vwCl (WR a k h0 (fT vi 6 (nI (R + 1))) vj (fT (fT vF 0 g1) 5 (upd (vF 5) (nI R).toNatClampNeg (nI (C + R)))) vG) H → va_D A (WR a k h0 (fT vi 6 (nI (R + 1))) vj (fT (fT vF 0 g1) 5 (upd (vF 5) (nI R).toNatClampNeg (nI (C + R)))) vG) → va_S A s.heap H locs → lv_has ls 9 [(0, .ref h0), (1, .int (nI wn)), (2, .int hw), (3, .int (nI R)), (4, .long sd), (6, .int (nI k5))] → W p l e _ s m _ below meth c H locs 0 0 _ (F0 m 20 ls [])) => loop (C) 0 ((((vF 60) (9 * wn))).toInt64) g1 m21 _ _ _ (f1_0) (by omega) (by rw [i64T]; omega) (fun j hj => absurd hj (by omega)) (fun j h1 h2 => f1_1 j h2) (fun q hq => by (rw [f1_2 _ (by omega)])) (by omega) hP hD hS hl) ?_
  intro n9
  induction n9 with
  | zero => intro k5 sd g1 m1 H locs ls hB1 hk5 hsd hrow hrest ho hf9; exact False.elim (by omega)
  | succ n9 ih20 =>
    intro k5 sd g1 m1 H locs ls hB1 hk5 hsd hrow hrest ho hf20 hP hD hS hl
    refine lv_iload hx hb dX12_wayRow_20 (lv_at hl 5 rfl) ?_
    refine lv_aload_n hx hb dX12_wayRow_22 rfl (lv_at hl 0 rfl) ?_
    refine va_get (D := (dC, dI)) (ci := 12) (v := .int (vi 90)) (C := RX12) (T := TX12) (N := 163) (fs := fM (vS a (fT vi 6 (nI (R + 1))) vj)) hx hb hts iwsRX12_wayRow_in12 hown hK hP 0 rfl rfl 90 (by decide) (hts (.fieldLink RX12 774 "OptimaWorksModel" "variables" "I") (by decide +kernel)) (fun _ h9 => h9) rfl dX12_wayRow_23 ?_
    refine lv_topi (fun y3 hy3 => ?_)
    obtain rfl : (nI (C - 1)) = y3 := (hy3.trans (hv9)).symm
    refine lv_icmp_ge (tgt := 83) hx hb dX12_wayRow_26 (by decide) (fun c_26 => ?_) (fun c_26 => ?_)
    · have t_26 : ((k5 : Nat) : Int) ≥ (((C - 1) : Nat) : Int) := toI_ge c_26 (nI_toInt (by omega)) (nI_toInt (by omega))
      have ek : k5 = C - 1 := by omega
      have m98 := mulQ (x := hw.toInt64) (y := sd) (by rw [i64T]; omega) (by omega)
      have ec : (hw.toInt64 * sd).toInt = hI * sd.toInt := by rw [m98.1, i64T, hhI]
      have bc : (hI * sd.toInt).natAbs ≤ 1 * 900000 := mul_box (by omega) (by omega)
      refine lv_aload_n hx hb dX12_wayRow_83 rfl (lv_at hl 0 rfl) ?_
      refine lv_aload_n hx hb dX12_wayRow_84 rfl (lv_at hl 0 rfl) ?_
      refine lv_iload_n hx hb dX12_wayRow_85 rfl (lv_at hl 3 rfl) ?_
      refine lv_aload_n hx hb dX12_wayRow_86 rfl (lv_at hl 0 rfl) ?_
      refine va_get (D := (dC, dI)) (ci := 12) (v := .int (vi 5)) (C := RX12) (T := TX12) (N := 163) (fs := fM (vS a (fT vi 6 (nI (R + 1))) vj)) hx hb hts iwsRX12_wayRow_in12 hown hK hP 0 rfl rfl 5 (by decide) (hts (.fieldLink RX12 396 "OptimaWorksModel" "columns" "I") (by decide +kernel)) (fun _ h9 => h9) rfl dX12_wayRow_87 ?_
      refine lv_topi (fun y4 hy4 => ?_)
      obtain rfl : (nI C) = y4 := (hy4.trans (hC)).symm
      have hFc := allFree hD hS hA
      refine va_calli (va_runV (As := [.int (nI R), .int (nI C)]) (rest := [.ref h0]) ⟨hx, hb, hml, hown, hts⟩ (r_X12_at l dC dI a k h0 (fT vi 6 (nI (R + 1))) vj (fT (fT vF 0 g1) 5 (upd (vF 5) (nI R).toNatClampNeg (nI (C + R)))) vG R C C (by first | with_reducible assumption | decide | omega | rfl | assumption) H.size) (cwV 2 hts gwsRX12_wayRow_1 rfl rfl rfl hd_yX12_at_RX12 (by decide +kernel)) (fz_pre (va_recv hK hP (ci := 12) (q0 := 0) rfl rfl) hP hK hD) rfl rfl hl.1 rfl (lv_room (Nat.le_of_ble_eq_true rfl)) dX12_wayRow_90 (by decide +kernel)) hS (fun q _ h => hFc q h) hFc (fun r90 u t9_ H locs ht hvm hw9 hB9 hz1 hk1 hS => ?_)
      have hP : va_P (dC, dI) vwCl (WR a k h0 (fT vi 6 (nI (R + 1))) vj (fT (fT vF 0 g1) 5 (upd (vF 5) (nI R).toNatClampNeg (nI (C + R)))) vG) H := fz_P ht hB9.1
      have hD : va_D A (WR a k h0 (fT vi 6 (nI (R + 1))) vj (fT (fT vF 0 g1) 5 (upd (vF 5) (nI R).toNatClampNeg (nI (C + R)))) vG) := hB9.2.weaken (fun _ q _ h => hFc q.1 h)
      obtain rfl := hw9
      refine lv_iload_n hx hb dX12_wayRow_93 rfl (lv_at hl 2 rfl) ?_
      refine lv_i2l hx hb dX12_wayRow_94 rfl ?_
      refine lv_lload hx hb dX12_wayRow_95 (lv_at hl 4 rfl) ?_
      refine lv_lmul hx hb dX12_wayRow_97 ?_
      have hFc := allFree hD hS hA
      refine va_callv (va_runV (As := [.int (nI (30 + R * (C + 1) + C)), .long ((hw).toInt64 * sd)]) (rest := []) ⟨hx, hb, hml, hown, hts⟩ (b_X12_put l dC dI a k h0 (fT vi 6 (nI (R + 1))) vj (fT (fT vF 0 g1) 5 (upd (vF 5) (nI R).toNatClampNeg (nI (C + R)))) vG (30 + R * (C + 1) + C) ((hw).toInt64 * sd) (hI * (sd).toInt) m1 hB1 (by first | with_reducible assumption | decide | omega | rfl | assumption) (ec) (by omega) H.size) (cwV 2 hts gwsRX12_wayRow_2 rfl rfl rfl hd_yX12_put_RX12 (by decide +kernel)) (fz_pre (va_recv hK hP (ci := 12) (q0 := 0) rfl rfl) hP hK hD) rfl rfl hl.1 rfl (lv_room (Nat.le_of_ble_eq_true rfl)) dX12_wayRow_98 (by decide +kernel)) hS (fun q _ h => hFc q h) hFc (fun g98 t9_ H locs ht hvm hw9 hB9 hz1 hk1 hS => ?_)
      have hP : va_P (dC, dI) vwCl (WR a k h0 (fT vi 6 (nI (R + 1))) vj (fT (fT (fT vF 0 g1) 5 (upd (vF 5) (nI R).toNatClampNeg (nI (C + R)))) 0 g98) vG) H := fz_P ht hB9.1
      have hD : va_D A (WR a k h0 (fT vi 6 (nI (R + 1))) vj (fT (fT (fT vF 0 g1) 5 (upd (vF 5) (nI R).toNatClampNeg (nI (C + R)))) 0 g98) vG) := hB9.2.weaken (fun _ q _ h => hFc q.1 h)
      have e9 : fT (fT vF 0 g98) 5 (upd (vF 5) (nI R).toNatClampNeg (nI (C + R))) = fT (fT (fT vF 0 g1) 5 (upd (vF 5) (nI R).toNatClampNeg (nI (C + R)))) 0 g98 := ((fT_sw _ _ _ (Nat.ne_of_beq_eq_false rfl)).trans (congrArg (fun g9 => fT g9 5 (upd (vF 5) (nI R).toNatClampNeg (nI (C + R)))) (fT_sm _ _ _ _))).symm
      rw [← e9] at hP hD
      clear e9
      have hP : va_P (dC, dI) vwCl (WR a k h0 (fT vi 6 (nI (R + 1))) vj (fT (fT vF 0 g98) 5 (upd (vF 5) (nI R).toNatClampNeg (nI (C + R)))) vG) H := hP
      have hD : va_D A (WR a k h0 (fT vi 6 (nI (R + 1))) vj (fT (fT vF 0 g98) 5 (upd (vF 5) (nI R).toNatClampNeg (nI (C + R)))) vG) := hD
      have f98_0 := hw9
      try dsimp only at f98_0
      refine W.widen (k := 0) (n := 0) (by decide +kernel) (by decide +kernel) ?_
      exact W.vret hx hb hr (fun t9_ ht hW => ⟨⟨(g98, (fT m1 (30 + R * (C + 1) + C) (hI * (sd).toInt))), rfl, by (try dsimp only); exact ⟨f98_0, hBl.more (fun i2 hi2 => by rw [upd_at (by omega), if_neg (by omega)]) (fun p hp => by (rw [fT_ne _ _ (by omega)]); exact ho p (by omega)) (by omega) (by rw [upd_at (by omega), if_pos rfl]) (fun j hj => by (rw [fT_ne _ _ (by omega)]); exact hrow j (by omega)) (by rw [fT_ne _ _ (by omega), hrest (C - 1) (by omega) (by omega), if_pos rfl]) (by rw [fT_eq]; omega), fun q hq => by (rw [fT_ne _ _ (by omega)]); exact ho q (by omega)⟩, by rw [ht]; exact hP, hD⟩, hS.F ht⟩) hS.2.2 dX12_wayRow_101
    · have t_26 : ¬ ((k5 : Nat) : Int) ≥ (((C - 1) : Nat) : Int) := toI_nge c_26 (nI_toInt (by omega)) (nI_toInt (by omega))
      refine lv_aload_n hx hb dX12_wayRow_29 rfl (lv_at hl 0 rfl) ?_
      refine va_get (D := (dC, dI)) (ci := 12) (v := .ref (a 60)) (C := RX12) (T := TX12) (N := 163) (fs := fM (vS a (fT vi 6 (nI (R + 1))) vj)) hx hb hts iwsRX12_wayRow_in12 hown hK hP 0 rfl rfl 100 (by decide) (hts (.fieldLink RX12 203 "OptimaWorksModel" "wayNumber" "[I") (by decide +kernel)) (fun _ h9 => h9) rfl dX12_wayRow_30 ?_
      refine lv_bipush (v := 9) hx hb dX12_wayRow_33 (by decide) ?_
      refine lv_iload_n hx hb dX12_wayRow_35 rfl (lv_at hl 1 rfl) ?_
      refine lv_imul hx hb dX12_wayRow_36 ?_
      refine lv_topi (fun y5 hy5 => ?_)
      obtain rfl : (nI (9 * wn)) = y5 := (hy5.trans (pk_mul 9 wn)).symm
      refine lv_iconst (v := 1) hx hb dX12_wayRow_37 (by decide) ?_
      refine lv_iadd hx hb dX12_wayRow_38 ?_
      refine lv_topi (fun y6 hy6 => ?_)
      obtain rfl : (nI ((9 * wn) + 1)) = y6 := (hy6.trans (nI_add (9 * wn) 1)).symm
      refine lv_iload hx hb dX12_wayRow_39 (lv_at hl 5 rfl) ?_
      refine lv_iadd hx hb dX12_wayRow_41 ?_
      refine lv_topi (fun y7 hy7 => ?_)
      obtain rfl : (nI (((9 * wn) + 1) + k5)) = y7 := (hy7.trans (nI_add ((9 * wn) + 1) k5)).symm
      refine va_iald (cA := k 60) (n := 351) (f := (vF 60)) hx hb hK hP 61 60 (WR_get 60 (by decide)) (TR_get 60 (by decide)) (vp_in_nI (show (((9 * wn) + 1) + k5) < 351 by omega) (by omega)) dX12_wayRow_42 ?_
      refine lv_topi (fun y8 hy8 => ?_)
      obtain rfl : ((vF 60) (((9 * wn) + 1) + k5)) = y8 := (hy8.trans (by rw [nI_clamp (by omega)])).symm
      refine lv_i2l hx hb dX12_wayRow_43 rfl ?_
      refine lv_lstore hx hb dX12_wayRow_44 hl (by decide) rfl (fun ls (hl : lv_has ls _ ([(7, .long (((vF 60) (((9 * wn) + 1) + k5))).toInt64), (0, .ref h0), (1, .int (nI wn)), (2, .int hw), (3, .int (nI R)), (4, .long sd), (6, .int (nI k5))])) => ?_)
      have ba := hM.2.2.2.1 wn k5 hwn (by omega)
      have ea := mulI (x := hw) (y := (vF 60 (9 * wn + 1 + k5)))
      have bx : (hI * (vF 60 (9 * wn + 1 + k5)).toInt).natAbs ≤ 1 * 99 := mul_box (by omega) (by omega)
      refine lv_aload_n hx hb dX12_wayRow_46 rfl (lv_at hl 1 rfl) ?_
      refine lv_aload_n hx hb dX12_wayRow_47 rfl (lv_at hl 1 rfl) ?_
      refine lv_iload_n hx hb dX12_wayRow_48 rfl (lv_at hl 4 rfl) ?_
      refine lv_iload hx hb dX12_wayRow_49 (lv_at hl 6 rfl) ?_
      have hFc := allFree hD hS hA
      refine va_calli (va_runV (As := [.int (nI R), .int (nI k5)]) (rest := [.ref h0]) ⟨hx, hb, hml, hown, hts⟩ (r_X12_at l dC dI a k h0 (fT vi 6 (nI (R + 1))) vj (fT (fT vF 0 g1) 5 (upd (vF 5) (nI R).toNatClampNeg (nI (C + R)))) vG R k5 C (by first | with_reducible assumption | decide | omega | rfl | assumption) H.size) (cwV 2 hts gwsRX12_wayRow_1 rfl rfl rfl hd_yX12_at_RX12 (by decide +kernel)) (fz_pre (va_recv hK hP (ci := 12) (q0 := 0) rfl rfl) hP hK hD) rfl rfl hl.1 rfl (lv_room (Nat.le_of_ble_eq_true rfl)) dX12_wayRow_51 (by decide +kernel)) hS (fun q _ h => hFc q h) hFc (fun r51 u t9_ H locs ht hvm hw9 hB9 hz1 hk1 hS => ?_)
      have hP : va_P (dC, dI) vwCl (WR a k h0 (fT vi 6 (nI (R + 1))) vj (fT (fT vF 0 g1) 5 (upd (vF 5) (nI R).toNatClampNeg (nI (C + R)))) vG) H := fz_P ht hB9.1
      have hD : va_D A (WR a k h0 (fT vi 6 (nI (R + 1))) vj (fT (fT vF 0 g1) 5 (upd (vF 5) (nI R).toNatClampNeg (nI (C + R)))) vG) := hB9.2.weaken (fun _ q _ h => hFc q.1 h)
      obtain rfl := hw9
      refine lv_iload_n hx hb dX12_wayRow_54 rfl (lv_at hl 3 rfl) ?_
      refine lv_i2l hx hb dX12_wayRow_55 rfl ?_
      refine lv_lload hx hb dX12_wayRow_56 (lv_at hl 0 rfl) ?_
      refine lv_lmul hx hb dX12_wayRow_58 ?_
      have hFc := allFree hD hS hA
      refine va_callv (va_runV (As := [.int (nI (30 + R * (C + 1) + k5)), .long ((hw).toInt64 * (((vF 60) (((9 * wn) + 1) + k5))).toInt64)]) (rest := []) ⟨hx, hb, hml, hown, hts⟩ (b_X12_put l dC dI a k h0 (fT vi 6 (nI (R + 1))) vj (fT (fT vF 0 g1) 5 (upd (vF 5) (nI R).toNatClampNeg (nI (C + R)))) vG (30 + R * (C + 1) + k5) ((hw).toInt64 * (((vF 60) (((9 * wn) + 1) + k5))).toInt64) (hI * (vF 60 (9 * wn + 1 + k5)).toInt) m1 hB1 (by first | with_reducible assumption | decide | omega | rfl | assumption) (by rw [ea, hhI]) (by omega) H.size) (cwV 2 hts gwsRX12_wayRow_2 rfl rfl rfl hd_yX12_put_RX12 (by decide +kernel)) (fz_pre (va_recv hK hP (ci := 12) (q0 := 0) rfl rfl) hP hK hD) rfl rfl hl.1 rfl (lv_room (Nat.le_of_ble_eq_true rfl)) dX12_wayRow_59 (by decide +kernel)) hS (fun q _ h => hFc q h) hFc (fun g59 t9_ H locs ht hvm hw9 hB9 hz1 hk1 hS => ?_)
      have hP : va_P (dC, dI) vwCl (WR a k h0 (fT vi 6 (nI (R + 1))) vj (fT (fT (fT vF 0 g1) 5 (upd (vF 5) (nI R).toNatClampNeg (nI (C + R)))) 0 g59) vG) H := fz_P ht hB9.1
      have hD : va_D A (WR a k h0 (fT vi 6 (nI (R + 1))) vj (fT (fT (fT vF 0 g1) 5 (upd (vF 5) (nI R).toNatClampNeg (nI (C + R)))) 0 g59) vG) := hB9.2.weaken (fun _ q _ h => hFc q.1 h)
      have e9 : fT (fT vF 0 g59) 5 (upd (vF 5) (nI R).toNatClampNeg (nI (C + R))) = fT (fT (fT vF 0 g1) 5 (upd (vF 5) (nI R).toNatClampNeg (nI (C + R)))) 0 g59 := ((fT_sw _ _ _ (Nat.ne_of_beq_eq_false rfl)).trans (congrArg (fun g9 => fT g9 5 (upd (vF 5) (nI R).toNatClampNeg (nI (C + R)))) (fT_sm _ _ _ _))).symm
      rw [← e9] at hP hD
      clear e9
      have hP : va_P (dC, dI) vwCl (WR a k h0 (fT vi 6 (nI (R + 1))) vj (fT (fT vF 0 g59) 5 (upd (vF 5) (nI R).toNatClampNeg (nI (C + R)))) vG) H := hP
      have hD : va_D A (WR a k h0 (fT vi 6 (nI (R + 1))) vj (fT (fT vF 0 g59) 5 (upd (vF 5) (nI R).toNatClampNeg (nI (C + R)))) vG) := hD
      have f59_0 := hw9
      try dsimp only at f59_0
      refine lv_lload hx hb dX12_wayRow_62 (lv_at hl 5 rfl) ?_
      refine lv_lload hx hb dX12_wayRow_64 (lv_at hl 0 rfl) ?_
      refine lv_aload_n hx hb dX12_wayRow_66 rfl (lv_at hl 1 rfl) ?_
      refine lv_iload hx hb dX12_wayRow_67 (lv_at hl 6 rfl) ?_
      have hFc := allFree hD hS hA
      refine va_calli (va_runV (As := [.int (nI k5)]) (rest := [.long (((vF 60) (((9 * wn) + 1) + k5))).toInt64, .long sd]) ⟨hx, hb, hml, hown, hts⟩ (r_X12_least l dC dI a k h0 (fT vi 6 (nI (R + 1))) vj (fT (fT vF 0 g59) 5 (upd (vF 5) (nI R).toNatClampNeg (nI (C + R)))) vG k5 gq (by omega) (by first | with_reducible assumption | decide | omega | rfl | assumption) H.size) (cwV 1 hts gwsRX12_wayRow_3 rfl rfl rfl hd_yX12_least_RX12 (by decide +kernel)) (fz_pre (va_recv hK hP (ci := 12) (q0 := 0) rfl rfl) hP hK hD) rfl rfl hl.1 rfl (lv_room (Nat.le_of_ble_eq_true rfl)) dX12_wayRow_69 (by decide +kernel)) hS (fun q _ h => hFc q h) hFc (fun r69 u t9_ H locs ht hvm hw9 hB9 hz1 hk1 hS => ?_)
      have hP : va_P (dC, dI) vwCl (WR a k h0 (fT vi 6 (nI (R + 1))) vj (fT (fT vF 0 g59) 5 (upd (vF 5) (nI R).toNatClampNeg (nI (C + R)))) vG) H := fz_P ht hB9.1
      have hD : va_D A (WR a k h0 (fT vi 6 (nI (R + 1))) vj (fT (fT vF 0 g59) 5 (upd (vF 5) (nI R).toNatClampNeg (nI (C + R)))) vG) := hB9.2.weaken (fun _ q _ h => hFc q.1 h)
      have f69_0 := hw9
      try dsimp only at f69_0
      refine lv_i2l hx hb dX12_wayRow_72 rfl ?_
      refine lv_lmul hx hb dX12_wayRow_73 ?_
      have eb := mulI (x := (vF 60 (9 * wn + 1 + k5))) (y := r69)
      have bb9 := f69_0
      have by9 : ((vF 60 (9 * wn + 1 + k5)).toInt * (r69).toInt).natAbs ≤ 99 * 999 := mul_box (by omega) (by omega)
      refine lv_lsub hx hb dX12_wayRow_74 ?_
      obtain ⟨s9, hs9⟩ : ∃ s9, s9 = ((sd - ((((vF 60) (((9 * wn) + 1) + k5))).toInt64 * (r69).toInt64)) : Int64) := ⟨_, rfl⟩
      have es9 : s9.toInt = sd.toInt - (vF 60 (9 * wn + 1 + k5)).toInt * (r69).toInt := by rw [hs9, sub64 (by omega) (by omega), eb]
      refine lv_topl (fun y9 hy9 => ?_)
      obtain rfl : s9 = y9 := (hy9.trans (hs9.symm)).symm
      refine lv_lstore hx hb dX12_wayRow_75 hl (by decide) rfl (fun ls (hl : lv_has ls _ ([(4, .long s9), (7, .long (((vF 60) (((9 * wn) + 1) + k5))).toInt64), (0, .ref h0), (1, .int (nI wn)), (2, .int hw), (3, .int (nI R)), (6, .int (nI k5))])) => ?_)
      refine lv_iinc (v := (nI (k5 + 1))) hx hb dX12_wayRow_77 hl (k := 6) rfl (nI_add k5 1) (by decide) rfl (fun ls (hl : lv_has ls _ ([(6, .int (nI (k5 + 1))), (4, .long s9), (7, .long (((vF 60) (((9 * wn) + 1) + k5))).toInt64), (0, .ref h0), (1, .int (nI wn)), (2, .int hw), (3, .int (nI R))])) => ?_)
      refine lv_goto (tgt := 20) hx hb dX12_wayRow_80 (by decide) ?_
      have hl : lv_has _ _ ([(0, .ref h0), (1, .int (nI wn)), (2, .int hw), (3, .int (nI R)), (4, .long s9), (6, .int (nI (k5 + 1)))]) := lv_sub hl [3, 4, 5, 6, 1, 0] rfl
      exact ih20 (k5 + 1) s9 g59 (fT m1 (30 + R * (C + 1) + k5) (hI * (vF 60 (9 * wn + 1 + k5)).toInt)) _ _ _ (f59_0) (by omega) (by omega) (fun j hj => by by_cases e9 : j = k5; (rw [e9, fT_eq]; omega); (rw [fT_ne _ _ (by omega)]; exact hrow j (by omega))) (fun j h1 h2 => by rw [fT_ne _ _ (by omega)]; exact hrest j (by omega) h2) (fun q hq => by (rw [fT_ne _ _ (by omega)]); exact ho q hq) (by omega) hP hD hS hl
theorem dX12_waysOf_0 : decode cX12_waysOf 0 = .ok (.aload_n 0, 1) := dk_42 (by decide +kernel)
theorem dX12_waysOf_1 : decode cX12_waysOf 1 = .ok (.getfield 206, 3) := dk_180 (by decide +kernel)
theorem dX12_waysOf_4 : decode cX12_waysOf 4 = .ok (.iload_n 1, 1) := dk_27 (by decide +kernel)
theorem dX12_waysOf_5 : decode cX12_waysOf 5 = .ok (.iaload, 1) := dk_46 (by decide +kernel)
theorem dX12_waysOf_6 : decode cX12_waysOf 6 = .ok (.iconst 1, 1) := dk_4 (by decide +kernel)
theorem dX12_waysOf_7 : decode cX12_waysOf 7 = .ok (.if_icmp .eq 9, 3) := dk_159 (by decide +kernel)
theorem dX12_waysOf_10 : decode cX12_waysOf 10 = .ok (.aload_n 0, 1) := dk_42 (by decide +kernel)
theorem dX12_waysOf_11 : decode cX12_waysOf 11 = .ok (.iload_n 1, 1) := dk_27 (by decide +kernel)
theorem dX12_waysOf_12 : decode cX12_waysOf 12 = .ok (.iconst 1, 1) := dk_4 (by decide +kernel)
theorem dX12_waysOf_13 : decode cX12_waysOf 13 = .ok (.invokevirtual 832, 3) := dk_182 (by decide +kernel)
theorem dX12_waysOf_16 : decode cX12_waysOf 16 = .ok (.aload_n 0, 1) := dk_42 (by decide +kernel)
theorem dX12_waysOf_17 : decode cX12_waysOf 17 = .ok (.getfield 206, 3) := dk_180 (by decide +kernel)
theorem dX12_waysOf_20 : decode cX12_waysOf 20 = .ok (.iload_n 1, 1) := dk_27 (by decide +kernel)
theorem dX12_waysOf_21 : decode cX12_waysOf 21 = .ok (.iaload, 1) := dk_46 (by decide +kernel)
theorem dX12_waysOf_22 : decode cX12_waysOf 22 = .ok (.ifCond .eq 9, 3) := dk_153 (by decide +kernel)
theorem dX12_waysOf_25 : decode cX12_waysOf 25 = .ok (.aload_n 0, 1) := dk_42 (by decide +kernel)
theorem dX12_waysOf_26 : decode cX12_waysOf 26 = .ok (.iload_n 1, 1) := dk_27 (by decide +kernel)
theorem dX12_waysOf_27 : decode cX12_waysOf 27 = .ok (.iconst (-1), 1) := dk_2 (by decide +kernel)
theorem dX12_waysOf_28 : decode cX12_waysOf 28 = .ok (.invokevirtual 832, 3) := dk_182 (by decide +kernel)
theorem dX12_waysOf_31 : decode cX12_waysOf 31 = .ok (.return_, 1) := dk_177 (by decide +kernel)
def wsRX12_waysOf : List Cond := .code yX12_waysOf cX12_waysOf 2 none :: ([.fieldLink RX12 206 "OptimaWorksModel" "waySign" "[I"] ++ wsX120 ++ (wsV RX12 832 RX12 yX12_wayRow wsRX12_wayRow))
theorem iwsRX12_waysOf_in12 : ∀ w ∈ wsX120, w ∈ wsRX12_waysOf := fun _ h => List.mem_cons_of_mem _ (List.mem_append_left _ (List.mem_append_right _ h))
theorem gwsRX12_waysOf_0 : GoodIn wsRX12_waysOf (wsV RX12 832 RX12 yX12_wayRow wsRX12_wayRow) := goodIn_sub (fun _ h => List.mem_cons_of_mem _ (List.mem_append_right _ h)) (gdV (by decide +kernel) gdwsRX12_wayRow)
theorem gdwsRX12_waysOf : wsRX12_waysOf.all goodWord = true := gdC rfl (gdA (gdA (by decide +kernel : ([.fieldLink RX12 206 "OptimaWorksModel" "waySign" "[I"] : List Cond).all goodWord = true) gdwsX120) (gdV (by decide +kernel) gdwsRX12_wayRow))
set_option maxHeartbeats 4000000 in
set_option maxRecDepth 100000 in
/-- waysOf(w) -/
theorem r_X12_waysOf (l : Launch) (dC : Nat → ClassId) (dI : Nat → Nat → Nat) (a : Nat → Nat) (k : Nat → ClassId) (h0 : Nat) (vi : Nat → Int32) (vj : Nat → Int64) (vF : Nat → Nat → Int32) (vG : Nat → Nat → Int64) (wn : Nat) (C : Nat) (R : Nat) (gq : Nat) (mg : Nat → Int) (hBg : Bg (vF 0) mg) (hC : vi 5 = nI C) (hR : vi 6 = nI R) (hG : vi 7 = 0) (hv9 : vi 90 = nI (C - 1)) (hC9 : 0 < C ∧ C ≤ 9) (hR38 : R ≤ 38) (hBl : BldL C R mg (vF 5)) (hM : MdlB vF gq) (hwn : wn < 39) (sz : Nat) : Met l yX12_waysOf wsRX12_waysOf ({ frames := 4, cells := 0, slots := 0, locals := 98 }) (va_Pc [.ref h0, .int (nI wn)] (fun U => U.heap.size = sz ∧ va_P (dC, dI) vwCl (WR a k h0 vi vj vF vG) U.heap ∧ va_K (dC, dI) vwCl (tX12 k) U ∧ va_D (fun _ => True) (WR a k h0 vi vj vF vG))) (va_Qv (fun (u : (Nat → Int32) × (Nat → Int32) × (Nat → Int) × (Nat)) => (Bg (u.1) (u.2.2.1)) ∧ (BldL C (R + (u.2.2.2)) (u.2.2.1) (u.2.1)) ∧ ((u.2.2.2) ≤ 2) ∧ (∀ q, (q < 30 ∨ 1000 ≤ q) → (u.2.2.1) q = mg q)) (fun (u : (Nat → Int32) × (Nat → Int32) × (Nat → Int) × (Nat)) t => va_P (dC, dI) vwCl (WR a k h0 (fT vi 6 (nI (R + (u.2.2.2)))) vj (fT (fT vF 0 (u.1)) 5 (u.2.1)) vG) t.heap ∧ va_D (va_A (WR a k h0 vi vj vF vG) sz) (WR a k h0 (fT vi 6 (nI (R + (u.2.2.2)))) vj (fT (fT vF 0 (u.1)) 5 (u.2.1)) vG)) (va_A (WR a k h0 vi vj vF vG) sz)) 0 0 (va_A (WR a k h0 vi vj vF vG) sz) := by
  refine Met.ofW (cc := cX12_waysOf) (maxL := 2) (ret := none) (by decide) rfl ?_
  intro p e s m args below meth c s₁ B hml hv
  obtain ⟨rfl, hsz, hP, hK, hD0⟩ := hv
  have hx := B.exec
  have hb := B.bytes
  have hr := B.returns
  have hts := atoms_spec (ws := wsRX12_waysOf) B.pre
  have hown : s.vm.findClass RX12 = some m.cls := findClass_of_methodNamed B.named
  have hlocks := B.notSynchronized
  subst hsz
  have hD := hD0.self (sz := s.heap.size)
  generalize hAe : va_A (WR a k h0 vi vj vF vG) s.heap.size = A at hD ⊢
  have hA : ∀ q : Nat, s.heap.size ≤ q → A q := fun q h => by rw [← hAe]; exact Or.inr h
  have hS : va_S A s.heap s.heap [] := va_S.rf
  have hl := lv_entry ([.ref h0, .int (nI wn)]) (n := 2) (Nat.le_of_ble_eq_true rfl)
  rw [lg_entry_eq]
  generalize (lg_sl ([.ref h0, .int (nI wn)]) ++ List.replicate (2 - (lg_sl ([.ref h0, .int (nI wn)])).length) Slot.unset).toArray = ls at hl ⊢
  have hl : lv_has ls 2 [(0, .ref h0), (1, .int (nI wn))] := hl
  refine lv_aload_n hx hb dX12_waysOf_0 rfl (lv_at hl 0 rfl) ?_
  refine va_get (D := (dC, dI)) (ci := 12) (v := .ref (a 61)) (C := RX12) (T := TX12) (N := 163) (fs := fM (vS a vi vj)) hx hb hts iwsRX12_waysOf_in12 hown hK hP 0 rfl rfl 101 (by decide) (hts (.fieldLink RX12 206 "OptimaWorksModel" "waySign" "[I") (by decide +kernel)) (fun _ h9 => h9) rfl dX12_waysOf_1 ?_
  refine lv_iload_n hx hb dX12_waysOf_4 rfl (lv_at hl 1 rfl) ?_
  refine va_iald (cA := k 61) (n := 39) (f := (vF 61)) hx hb hK hP 62 61 (WR_get 61 (by decide)) (TR_get 61 (by decide)) (vp_in_nI (show wn < 39 by omega) (by omega)) dX12_waysOf_5 ?_
  refine lv_topi (fun y1 hy1 => ?_)
  obtain rfl : ((vF 61) wn) = y1 := (hy1.trans (by rw [nI_clamp (by omega)])).symm
  refine lv_iconst (v := 1) hx hb dX12_waysOf_6 (by decide) ?_
  refine lv_icmp_eq (tgt := 16) hx hb dX12_waysOf_7 (by decide) (fun c_7 => ?_) (fun c_7 => ?_)
  · have t_7 : (((vF 61) wn)).toInt = 1 := toI_eq c_7 rfl (by decide)
    refine lv_aload_n hx hb dX12_waysOf_16 rfl (lv_at hl 0 rfl) ?_
    refine va_get (D := (dC, dI)) (ci := 12) (v := .ref (a 61)) (C := RX12) (T := TX12) (N := 163) (fs := fM (vS a vi vj)) hx hb hts iwsRX12_waysOf_in12 hown hK hP 0 rfl rfl 101 (by decide) (hts (.fieldLink RX12 206 "OptimaWorksModel" "waySign" "[I") (by decide +kernel)) (fun _ h9 => h9) rfl dX12_waysOf_17 ?_
    refine lv_iload_n hx hb dX12_waysOf_20 rfl (lv_at hl 1 rfl) ?_
    refine va_iald (cA := k 61) (n := 39) (f := (vF 61)) hx hb hK hP 62 61 (WR_get 61 (by decide)) (TR_get 61 (by decide)) (vp_in_nI (show wn < 39 by omega) (by omega)) dX12_waysOf_21 ?_
    refine lv_topi (fun y2 hy2 => ?_)
    obtain rfl : ((vF 61) wn) = y2 := (hy2.trans (by rw [nI_clamp (by omega)])).symm
    refine lv_if_eq (tgt := 31) hx hb dX12_waysOf_22 (by decide) (fun c_22 => ?_) (fun c_22 => ?_)
    · have t_22 : (((vF 61) wn)).toInt = 0 := toI_eq c_22 rfl (by decide)
      refine W.widen (k := 0) (n := 0) (by decide +kernel) (by decide +kernel) ?_
      have e9 : fT vi 6 (nI (R + 0)) = vi := by funext q9; by_cases h9_6 : q9 = 6; (subst h9_6; exact (fT_eq _ _ _).trans (Eq.trans (by first | with_reducible rfl | with_reducible assumption | (symm; with_reducible assumption) | rfl | assumption | (symm; assumption) | (subst_vars; rfl)) (Eq.refl _).symm)); exact (fT_ne _ _ h9_6).trans (Eq.refl _).symm
      have hP : va_P (dC, dI) vwCl (WR a k h0 (fT vi 6 (nI (R + 0))) vj vF vG) s.heap := by rw [e9]; exact hP
      have hD : va_D A (WR a k h0 (fT vi 6 (nI (R + 0))) vj vF vG) := by rw [e9]; exact hD
      clear e9
      have e9 : fT (fT vF 0 (vF 0)) 5 (vF 5) = vF := (fT_id _ _ (fT_ne _ _ (Nat.ne_of_beq_eq_false rfl))).trans (fT_id _ _ (rfl))
      have hP : va_P (dC, dI) vwCl (WR a k h0 (fT vi 6 (nI (R + 0))) vj (fT (fT vF 0 (vF 0)) 5 (vF 5)) vG) s.heap := by rw [e9]; exact hP
      have hD : va_D A (WR a k h0 (fT vi 6 (nI (R + 0))) vj (fT (fT vF 0 (vF 0)) 5 (vF 5)) vG) := by rw [e9]; exact hD
      clear e9
      exact W.vret hx hb hr (fun t9_ ht hW => ⟨⟨((vF 0), (vF 5), mg, 0), rfl, by (try dsimp only); exact ⟨hBg, hBl, by omega, fun q hq => by skip <;> rfl⟩, by rw [ht]; exact hP, hD⟩, hS.F ht⟩) hS.2.2 dX12_waysOf_31
    · have t_22 : ¬ (((vF 61) wn)).toInt = 0 := toI_neq c_22 rfl (by decide)
      refine lv_aload_n hx hb dX12_waysOf_25 rfl (lv_at hl 0 rfl) ?_
      refine lv_iload_n hx hb dX12_waysOf_26 rfl (lv_at hl 1 rfl) ?_
      refine lv_iconst (v := (-1)) hx hb dX12_waysOf_27 (by decide) ?_
      have hFc := allFree hD hS hA
      refine va_callv (va_runV (As := [.int (nI wn), .int (-1)]) (rest := []) ⟨hx, hb, hml, hown, hts⟩ (r_X12_wayRow l dC dI a k h0 vi vj vF vG wn (-1) (-1) C R gq mg hBg (by first | with_reducible assumption | decide | omega | rfl | assumption) (hR) (by first | with_reducible assumption | decide | omega | rfl | assumption) (by first | with_reducible assumption | decide | omega | rfl | assumption) (by first | with_reducible assumption | decide | omega | rfl | assumption) (by first | with_reducible assumption | decide | omega | rfl | assumption) (hBl) (hM) (by first | with_reducible assumption | decide | omega | rfl | assumption) (by decide) (Or.inr rfl) s.heap.size) (cwV 2 hts gwsRX12_waysOf_0 rfl rfl rfl hd_yX12_wayRow_RX12 (by decide +kernel)) (fz_pre (va_recv hK hP (ci := 12) (q0 := 0) rfl rfl) hP hK hD) rfl rfl hl.1 rfl (lv_room (Nat.le_of_ble_eq_true rfl)) dX12_waysOf_28 (by decide +kernel)) hS (fun q _ h => hFc q h) hFc (fun u t9_ H locs ht hvm hw9 hB9 hz1 hk1 hS => ?_)
      revert u
      refine fz_p2 ?_
      intro g28 m228 hw9 hB9
      try dsimp only at hw9 hB9
      have hP : va_P (dC, dI) vwCl (WR a k h0 (fT vi 6 (nI (R + 1))) vj (fT (fT vF 0 g28) 5 (upd (vF 5) (nI R).toNatClampNeg (nI (C + R)))) vG) H := fz_P ht hB9.1
      have hD : va_D A (WR a k h0 (fT vi 6 (nI (R + 1))) vj (fT (fT vF 0 g28) 5 (upd (vF 5) (nI R).toNatClampNeg (nI (C + R)))) vG) := hB9.2.weaken (fun _ q _ h => hFc q.1 h)
      revert hw9
      refine fz_a3 ?_
      intro f28_0 f28_1 f28_2
      have f28_1 : BldL C (R + 1) m228 (upd (vF 5) (nI R).toNatClampNeg (nI (C + R))) := f28_1
      refine W.widen (k := 0) (n := 0) (by decide +kernel) (by decide +kernel) ?_
      exact W.vret hx hb hr (fun t9_ ht hW => ⟨⟨(g28, (upd (vF 5) (nI R).toNatClampNeg (nI (C + R))), m228, 1), rfl, by (try dsimp only); exact ⟨f28_0, f28_1, by omega, fun q hq => by (rw [f28_2 _ (by omega)]) <;> rfl⟩, by rw [ht]; exact hP, hD⟩, hS.F ht⟩) hS.2.2 dX12_waysOf_31
  · have t_7 : ¬ (((vF 61) wn)).toInt = 1 := toI_neq c_7 rfl (by decide)
    refine lv_aload_n hx hb dX12_waysOf_10 rfl (lv_at hl 0 rfl) ?_
    refine lv_iload_n hx hb dX12_waysOf_11 rfl (lv_at hl 1 rfl) ?_
    refine lv_iconst (v := 1) hx hb dX12_waysOf_12 (by decide) ?_
    have hFc := allFree hD hS hA
    refine va_callv (va_runV (As := [.int (nI wn), .int 1]) (rest := []) ⟨hx, hb, hml, hown, hts⟩ (r_X12_wayRow l dC dI a k h0 vi vj vF vG wn 1 1 C R gq mg hBg (by first | with_reducible assumption | decide | omega | rfl | assumption) (by first | with_reducible assumption | decide | omega | rfl | assumption) (by first | with_reducible assumption | decide | omega | rfl | assumption) (by first | with_reducible assumption | decide | omega | rfl | assumption) (by first | with_reducible assumption | decide | omega | rfl | assumption) (by first | with_reducible assumption | decide | omega | rfl | assumption) (by first | with_reducible assumption | decide | omega | rfl | assumption) (by first | with_reducible assumption | decide | omega | rfl | assumption) (by first | with_reducible assumption | decide | omega | rfl | assumption) (by decide) (Or.inl rfl) s.heap.size) (cwV 2 hts gwsRX12_waysOf_0 rfl rfl rfl hd_yX12_wayRow_RX12 (by decide +kernel)) (fz_pre (va_recv hK hP (ci := 12) (q0 := 0) rfl rfl) hP hK hD) rfl rfl hl.1 rfl (lv_room (Nat.le_of_ble_eq_true rfl)) dX12_waysOf_13 (by decide +kernel)) hS (fun q _ h => hFc q h) hFc (fun u t9_ H locs ht hvm hw9 hB9 hz1 hk1 hS => ?_)
    revert u
    refine fz_p2 ?_
    intro g13 m213 hw9 hB9
    try dsimp only at hw9 hB9
    have hP : va_P (dC, dI) vwCl (WR a k h0 (fT vi 6 (nI (R + 1))) vj (fT (fT vF 0 g13) 5 (upd (vF 5) (nI R).toNatClampNeg (nI (C + R)))) vG) H := fz_P ht hB9.1
    have hD : va_D A (WR a k h0 (fT vi 6 (nI (R + 1))) vj (fT (fT vF 0 g13) 5 (upd (vF 5) (nI R).toNatClampNeg (nI (C + R)))) vG) := hB9.2.weaken (fun _ q _ h => hFc q.1 h)
    revert hw9
    refine fz_a3 ?_
    intro f13_0 f13_1 f13_2
    have f13_1 : BldL C (R + 1) m213 (upd (vF 5) (nI R).toNatClampNeg (nI (C + R))) := f13_1
    refine lv_aload_n hx hb dX12_waysOf_16 rfl (lv_at hl 0 rfl) ?_
    refine va_get (D := (dC, dI)) (ci := 12) (v := .ref (a 61)) (C := RX12) (T := TX12) (N := 163) (fs := fM (vS a (fT vi 6 (nI (R + 1))) vj)) hx hb hts iwsRX12_waysOf_in12 hown hK hP 0 rfl rfl 101 (by decide) (hts (.fieldLink RX12 206 "OptimaWorksModel" "waySign" "[I") (by decide +kernel)) (fun _ h9 => h9) rfl dX12_waysOf_17 ?_
    refine lv_iload_n hx hb dX12_waysOf_20 rfl (lv_at hl 1 rfl) ?_
    refine va_iald (cA := k 61) (n := 39) (f := (vF 61)) hx hb hK hP 62 61 (WR_get 61 (by decide)) (TR_get 61 (by decide)) (vp_in_nI (show wn < 39 by omega) (by omega)) dX12_waysOf_21 ?_
    refine lv_topi (fun y3 hy3 => ?_)
    obtain rfl : ((vF 61) wn) = y3 := (hy3.trans (by rw [nI_clamp (by omega)])).symm
    refine lv_if_eq (tgt := 31) hx hb dX12_waysOf_22 (by decide) (fun c_22 => ?_) (fun c_22 => ?_)
    · have t_22 : (((vF 61) wn)).toInt = 0 := toI_eq c_22 rfl (by decide)
      refine W.widen (k := 0) (n := 0) (by decide +kernel) (by decide +kernel) ?_
      exact W.vret hx hb hr (fun t9_ ht hW => ⟨⟨(g13, (upd (vF 5) (nI R).toNatClampNeg (nI (C + R))), m213, 1), rfl, by (try dsimp only); exact ⟨f13_0, f13_1, by omega, fun q hq => by (rw [f13_2 _ (by omega)]) <;> rfl⟩, by rw [ht]; exact hP, hD⟩, hS.F ht⟩) hS.2.2 dX12_waysOf_31
    · have t_22 : ¬ (((vF 61) wn)).toInt = 0 := toI_neq c_22 rfl (by decide)
      refine lv_aload_n hx hb dX12_waysOf_25 rfl (lv_at hl 0 rfl) ?_
      refine lv_iload_n hx hb dX12_waysOf_26 rfl (lv_at hl 1 rfl) ?_
      refine lv_iconst (v := (-1)) hx hb dX12_waysOf_27 (by decide) ?_
      have hFc := allFree hD hS hA
      refine va_callv (va_runV (As := [.int (nI wn), .int (-1)]) (rest := []) ⟨hx, hb, hml, hown, hts⟩ (r_X12_wayRow l dC dI a k h0 (fT vi 6 (nI (R + 1))) vj (fT (fT vF 0 g13) 5 (upd (vF 5) (nI R).toNatClampNeg (nI (C + R)))) vG wn (-1) (-1) C (R + 1) gq m213 f13_0 (by first | with_reducible assumption | decide | omega | rfl | assumption) (rfl) (by first | with_reducible assumption | decide | omega | rfl | assumption) (by first | with_reducible assumption | decide | omega | rfl | assumption) (by first | with_reducible assumption | decide | omega | rfl | assumption) (by first | with_reducible assumption | decide | omega | rfl | assumption) (f13_1) (hM) (by first | with_reducible assumption | decide | omega | rfl | assumption) (by decide) (Or.inr rfl) H.size) (cwV 2 hts gwsRX12_waysOf_0 rfl rfl rfl hd_yX12_wayRow_RX12 (by decide +kernel)) (fz_pre (va_recv hK hP (ci := 12) (q0 := 0) rfl rfl) hP hK hD) rfl rfl hl.1 rfl (lv_room (Nat.le_of_ble_eq_true rfl)) dX12_waysOf_28 (by decide +kernel)) hS (fun q _ h => hFc q h) hFc (fun u t9_ H locs ht hvm hw9 hB9 hz1 hk1 hS => ?_)
      revert u
      refine fz_p2 ?_
      intro g28_1 m228_1 hw9 hB9
      try dsimp only at hw9 hB9
      have hP : va_P (dC, dI) vwCl (WR a k h0 (fT (fT vi 6 (nI (R + 1))) 6 (nI ((R + 1) + 1))) vj (fT (fT (fT (fT vF 0 g13) 5 (upd (vF 5) (nI R).toNatClampNeg (nI (C + R)))) 0 g28_1) 5 (upd (upd (vF 5) (nI R).toNatClampNeg (nI (C + R))) (nI (R + 1)).toNatClampNeg (nI (C + (R + 1))))) vG) H := fz_P ht hB9.1
      have hD : va_D A (WR a k h0 (fT (fT vi 6 (nI (R + 1))) 6 (nI ((R + 1) + 1))) vj (fT (fT (fT (fT vF 0 g13) 5 (upd (vF 5) (nI R).toNatClampNeg (nI (C + R)))) 0 g28_1) 5 (upd (upd (vF 5) (nI R).toNatClampNeg (nI (C + R))) (nI (R + 1)).toNatClampNeg (nI (C + (R + 1))))) vG) := hB9.2.weaken (fun _ q _ h => hFc q.1 h)
      have e9 : fT vi 6 (nI ((R + 1) + 1)) = fT (fT vi 6 (nI (R + 1))) 6 (nI ((R + 1) + 1)) := (fT_sm _ _ _ _).symm
      rw [← e9] at hP hD
      clear e9
      have e9 : fT (fT vF 0 g28_1) 5 (upd (upd (vF 5) (nI R).toNatClampNeg (nI (C + R))) (nI (R + 1)).toNatClampNeg (nI (C + (R + 1)))) = fT (fT (fT (fT vF 0 g13) 5 (upd (vF 5) (nI R).toNatClampNeg (nI (C + R)))) 0 g28_1) 5 (upd (upd (vF 5) (nI R).toNatClampNeg (nI (C + R))) (nI (R + 1)).toNatClampNeg (nI (C + (R + 1)))) := ((congrArg (fun g9 => fT g9 5 (upd (upd (vF 5) (nI R).toNatClampNeg (nI (C + R))) (nI (R + 1)).toNatClampNeg (nI (C + (R + 1))))) ((fT_sw _ _ _ (Nat.ne_of_beq_eq_false rfl)).trans (congrArg (fun g9 => fT g9 5 (upd (vF 5) (nI R).toNatClampNeg (nI (C + R)))) (fT_sm _ _ _ _)))).trans (fT_sm _ _ _ _)).symm
      rw [← e9] at hP hD
      clear e9
      have hP : va_P (dC, dI) vwCl (WR a k h0 (fT vi 6 (nI ((R + 1) + 1))) vj (fT (fT vF 0 g28_1) 5 (upd (upd (vF 5) (nI R).toNatClampNeg (nI (C + R))) (nI (R + 1)).toNatClampNeg (nI (C + (R + 1))))) vG) H := hP
      have hD : va_D A (WR a k h0 (fT vi 6 (nI ((R + 1) + 1))) vj (fT (fT vF 0 g28_1) 5 (upd (upd (vF 5) (nI R).toNatClampNeg (nI (C + R))) (nI (R + 1)).toNatClampNeg (nI (C + (R + 1))))) vG) := hD
      revert hw9
      refine fz_a3 ?_
      intro f28_1_0 f28_1_1 f28_1_2
      have f28_1_1 : BldL C ((R + 1) + 1) m228_1 (upd (upd (vF 5) (nI R).toNatClampNeg (nI (C + R))) (nI (R + 1)).toNatClampNeg (nI (C + (R + 1)))) := f28_1_1
      refine W.widen (k := 0) (n := 0) (by decide +kernel) (by decide +kernel) ?_
      have e9 : fT vi 6 (nI (R + 2)) = fT vi 6 (nI ((R + 1) + 1)) := by funext q9; by_cases h9_6 : q9 = 6; (subst h9_6; exact (fT_eq _ _ _).trans (Eq.trans (by first | with_reducible rfl | with_reducible assumption | (symm; with_reducible assumption) | rfl | assumption | (symm; assumption) | (subst_vars; rfl)) (fT_eq _ _ _).symm)); exact (fT_ne _ _ h9_6).trans (fT_ne _ _ h9_6).symm
      have hP : va_P (dC, dI) vwCl (WR a k h0 (fT vi 6 (nI (R + 2))) vj (fT (fT vF 0 g28_1) 5 (upd (upd (vF 5) (nI R).toNatClampNeg (nI (C + R))) (nI (R + 1)).toNatClampNeg (nI (C + (R + 1))))) vG) H := by rw [e9]; exact hP
      have hD : va_D A (WR a k h0 (fT vi 6 (nI (R + 2))) vj (fT (fT vF 0 g28_1) 5 (upd (upd (vF 5) (nI R).toNatClampNeg (nI (C + R))) (nI (R + 1)).toNatClampNeg (nI (C + (R + 1))))) vG) := by rw [e9]; exact hD
      clear e9
      exact W.vret hx hb hr (fun t9_ ht hW => ⟨⟨(g28_1, (upd (upd (vF 5) (nI R).toNatClampNeg (nI (C + R))) (nI (R + 1)).toNatClampNeg (nI (C + (R + 1)))), m228_1, 2), rfl, by (try dsimp only); exact ⟨f28_1_0, f28_1_1, by omega, fun q hq => by (rw [f28_1_2 _ (by omega), f13_2 _ (by omega)]) <;> rfl⟩, by rw [ht]; exact hP, hD⟩, hS.F ht⟩) hS.2.2 dX12_waysOf_31
end
section
theorem MdlB.under {F : Nat → Nat → Int32} {gq : Nat} (h : MdlB F gq) {g k : Nat} (hg : g < gq) (hk : k < 9) : 1 ≤ (F 64 (9 * g + k)).toInt ∧ (F 64 (9 * g + k)).toInt.natAbs ≤ (if k = 0 then 9999 else 99) := by
  by_cases e : k = 0
  · subst e; rw [if_pos rfl]; have := (h.2.2.2.2.1 g hg).2; rw [Nat.add_zero]; omega
  · rw [if_neg e]
    have := (h.2.2.2.2.2.1 g (k - 1) hg (by omega)).2
    rw [show 9 * g + 1 + (k - 1) = 9 * g + k by omega] at this; omega
theorem MdlB.top {F : Nat → Nat → Int32} {gq : Nat} (h : MdlB F gq) {g k : Nat} (hg : g < gq) (hk : k < 9) : (F 63 (9 * g + k)).toInt.natAbs ≤ (if k = 0 then 9999 else 99) := by
  by_cases e : k = 0
  · subst e; rw [if_pos rfl]; have := (h.2.2.2.2.1 g hg).1; rw [Nat.add_zero]; omega
  · rw [if_neg e]
    have := (h.2.2.2.2.2.1 g (k - 1) hg (by omega)).1
    rw [show 9 * g + 1 + (k - 1) = 9 * g + k by omega] at this; omega
theorem sc_big {x u : Nat} (hx : x < 2 ^ 67) (hu : u ≤ 9999) : x * u < 2 ^ 588 := by
  have h1 : x * u ≤ 2 ^ 67 * 2 ^ 14 := Nat.mul_le_mul (by omega) (by omega)
  have h2 : (2 : Nat) ^ 67 * 2 ^ 14 < 2 ^ 588 := by rw [← Nat.pow_add]; exact Nat.pow_lt_pow_right (by decide) (by decide)
  omega
/-- a number by its figures, the first of them the greatest -/
def odo (f b : Nat → Nat) : Nat → Nat
  | 0 => 0
  | n + 1 => odo f b n * b n + f n
def odoP (b : Nat → Nat) : Nat → Nat
  | 0 => 1
  | n + 1 => odoP b n * b n
theorem odo_lt {f b : Nat → Nat} : ∀ n, (∀ q, q < n → f q < b q) → odo f b n < odoP b n := by
  intro n
  induction n with
  | zero => intro _; show 0 < 1; omega
  | succ n ih =>
    intro h
    have h1 := ih (fun q hq => h q (by omega))
    have h2 := h n (by omega)
    simp only [odo, odoP]
    have h3 : (odo f b n + 1) * b n ≤ odoP b n * b n := Nat.mul_le_mul_right _ h1
    rw [Nat.add_mul, Nat.one_mul] at h3; omega
/-- one figure grows, those behind it begin anew -/
theorem odo_up {f g b : Nat → Nat} {r : Nat} (h1 : ∀ q, q < r → g q = f q) (h2 : f r < g r) : ∀ n, r < n → (∀ q, r < q → q < n → f q < b q) → odo f b n < odo g b n := by
  have hpre : ∀ n, n ≤ r → odo g b n = odo f b n := by
    intro n
    induction n with
    | zero => intro _; rfl
    | succ n ih => intro h; simp only [odo]; rw [ih (by omega), h1 n (by omega)]
  intro n
  induction n with
  | zero => intro h; omega
  | succ n ih =>
    intro hn hd
    simp only [odo]
    by_cases e : n = r
    · subst e; rw [hpre n (Nat.le_refl _)]; omega
    · have h3 := ih (by omega) (fun q hq1 hq2 => hd q hq1 (by omega))
      have h4 := hd n (by omega) (by omega)
      have h5 : (odo f b n + 1) * b n ≤ odo g b n * b n := Nat.mul_le_mul_right _ h3
      rw [Nat.add_mul, Nat.one_mul] at h5; omega
end

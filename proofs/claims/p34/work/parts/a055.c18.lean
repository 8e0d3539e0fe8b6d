theorem dX12_canKeep_0 : decode cX12_canKeep 0 = .ok (.aload_n 0, 1) := dk_42 (by decide +kernel)
theorem dX12_canKeep_1 : decode cX12_canKeep 1 = .ok (.getfield 396, 3) := dk_180 (by decide +kernel)
theorem dX12_canKeep_4 : decode cX12_canKeep 4 = .ok (.iconst 1, 1) := dk_4 (by decide +kernel)
theorem dX12_canKeep_5 : decode cX12_canKeep 5 = .ok (.isub, 1) := dk_100 (by decide +kernel)
theorem dX12_canKeep_6 : decode cX12_canKeep 6 = .ok (.istore_n 1, 1) := dk_60 (by decide +kernel)
theorem dX12_canKeep_7 : decode cX12_canKeep 7 = .ok (.iconst (-1), 1) := dk_2 (by decide +kernel)
theorem dX12_canKeep_8 : decode cX12_canKeep 8 = .ok (.istore_n 2, 1) := dk_61 (by decide +kernel)
theorem dX12_canKeep_9 : decode cX12_canKeep 9 = .ok (.iconst 0, 1) := dk_3 (by decide +kernel)
theorem dX12_canKeep_10 : decode cX12_canKeep 10 = .ok (.istore_n 3, 1) := dk_62 (by decide +kernel)
theorem dX12_canKeep_11 : decode cX12_canKeep 11 = .ok (.iload_n 3, 1) := dk_29 (by decide +kernel)
theorem dX12_canKeep_12 : decode cX12_canKeep 12 = .ok (.aload_n 0, 1) := dk_42 (by decide +kernel)
theorem dX12_canKeep_13 : decode cX12_canKeep 13 = .ok (.getfield 399, 3) := dk_180 (by decide +kernel)
theorem dX12_canKeep_16 : decode cX12_canKeep 16 = .ok (.if_icmp .ge 57, 3) := dk_162 (by decide +kernel)
theorem dX12_canKeep_19 : decode cX12_canKeep 19 = .ok (.aload_n 0, 1) := dk_42 (by decide +kernel)
theorem dX12_canKeep_20 : decode cX12_canKeep 20 = .ok (.aload_n 0, 1) := dk_42 (by decide +kernel)
theorem dX12_canKeep_21 : decode cX12_canKeep 21 = .ok (.iload_n 3, 1) := dk_29 (by decide +kernel)
theorem dX12_canKeep_22 : decode cX12_canKeep 22 = .ok (.aload_n 0, 1) := dk_42 (by decide +kernel)
theorem dX12_canKeep_23 : decode cX12_canKeep 23 = .ok (.getfield 396, 3) := dk_180 (by decide +kernel)
theorem dX12_canKeep_26 : decode cX12_canKeep 26 = .ok (.invokevirtual 405, 3) := dk_182 (by decide +kernel)
theorem dX12_canKeep_29 : decode cX12_canKeep 29 = .ok (.invokevirtual 353, 3) := dk_182 (by decide +kernel)
theorem dX12_canKeep_32 : decode cX12_canKeep 32 = .ok (.ifCond .ge 35, 3) := dk_156 (by decide +kernel)
theorem dX12_canKeep_35 : decode cX12_canKeep 35 = .ok (.iload_n 2, 1) := dk_28 (by decide +kernel)
theorem dX12_canKeep_36 : decode cX12_canKeep 36 = .ok (.iconst (-1), 1) := dk_2 (by decide +kernel)
theorem dX12_canKeep_37 : decode cX12_canKeep 37 = .ok (.if_icmp .eq 28, 3) := dk_159 (by decide +kernel)
theorem dX12_canKeep_40 : decode cX12_canKeep 40 = .ok (.aload_n 0, 1) := dk_42 (by decide +kernel)
theorem dX12_canKeep_41 : decode cX12_canKeep 41 = .ok (.aload_n 0, 1) := dk_42 (by decide +kernel)
theorem dX12_canKeep_42 : decode cX12_canKeep 42 = .ok (.iload_n 3, 1) := dk_29 (by decide +kernel)
theorem dX12_canKeep_43 : decode cX12_canKeep 43 = .ok (.aload_n 0, 1) := dk_42 (by decide +kernel)
theorem dX12_canKeep_44 : decode cX12_canKeep 44 = .ok (.getfield 396, 3) := dk_180 (by decide +kernel)
theorem dX12_canKeep_47 : decode cX12_canKeep 47 = .ok (.invokevirtual 405, 3) := dk_182 (by decide +kernel)
theorem dX12_canKeep_50 : decode cX12_canKeep 50 = .ok (.aload_n 0, 1) := dk_42 (by decide +kernel)
theorem dX12_canKeep_51 : decode cX12_canKeep 51 = .ok (.iload_n 2, 1) := dk_28 (by decide +kernel)
theorem dX12_canKeep_52 : decode cX12_canKeep 52 = .ok (.aload_n 0, 1) := dk_42 (by decide +kernel)
theorem dX12_canKeep_53 : decode cX12_canKeep 53 = .ok (.getfield 396, 3) := dk_180 (by decide +kernel)
theorem dX12_canKeep_56 : decode cX12_canKeep 56 = .ok (.invokevirtual 405, 3) := dk_182 (by decide +kernel)
theorem dX12_canKeep_59 : decode cX12_canKeep 59 = .ok (.invokevirtual 393, 3) := dk_182 (by decide +kernel)
theorem dX12_canKeep_62 : decode cX12_canKeep 62 = .ok (.ifCond .ge 5, 3) := dk_156 (by decide +kernel)
theorem dX12_canKeep_65 : decode cX12_canKeep 65 = .ok (.iload_n 3, 1) := dk_29 (by decide +kernel)
theorem dX12_canKeep_66 : decode cX12_canKeep 66 = .ok (.istore_n 2, 1) := dk_61 (by decide +kernel)
theorem dX12_canKeep_67 : decode cX12_canKeep 67 = .ok (.iinc 3 1, 3) := dk_132 (by decide +kernel)
theorem dX12_canKeep_70 : decode cX12_canKeep 70 = .ok (.goto (-59), 3) := dk_167 (by decide +kernel)
theorem dX12_canKeep_73 : decode cX12_canKeep 73 = .ok (.aload_n 0, 1) := dk_42 (by decide +kernel)
theorem dX12_canKeep_74 : decode cX12_canKeep 74 = .ok (.invokevirtual 462, 3) := dk_182 (by decide +kernel)
theorem dX12_canKeep_77 : decode cX12_canKeep 77 = .ok (.iload_n 2, 1) := dk_28 (by decide +kernel)
theorem dX12_canKeep_78 : decode cX12_canKeep 78 = .ok (.iconst (-1), 1) := dk_2 (by decide +kernel)
theorem dX12_canKeep_79 : decode cX12_canKeep 79 = .ok (.if_icmp .ne 12, 3) := dk_160 (by decide +kernel)
theorem dX12_canKeep_82 : decode cX12_canKeep 82 = .ok (.aload_n 0, 1) := dk_42 (by decide +kernel)
theorem dX12_canKeep_83 : decode cX12_canKeep 83 = .ok (.getfield 29, 3) := dk_180 (by decide +kernel)
theorem dX12_canKeep_86 : decode cX12_canKeep 86 = .ok (.iload_n 1, 1) := dk_27 (by decide +kernel)
theorem dX12_canKeep_87 : decode cX12_canKeep 87 = .ok (.iconst 1, 1) := dk_4 (by decide +kernel)
theorem dX12_canKeep_88 : decode cX12_canKeep 88 = .ok (.bastore, 1) := dk_84 (by decide +kernel)
theorem dX12_canKeep_89 : decode cX12_canKeep 89 = .ok (.iconst 1, 1) := dk_4 (by decide +kernel)
theorem dX12_canKeep_90 : decode cX12_canKeep 90 = .ok (.ireturn, 1) := dk_172 (by decide +kernel)
theorem dX12_canKeep_91 : decode cX12_canKeep 91 = .ok (.aload_n 0, 1) := dk_42 (by decide +kernel)
theorem dX12_canKeep_92 : decode cX12_canKeep 92 = .ok (.iload_n 2, 1) := dk_28 (by decide +kernel)
theorem dX12_canKeep_93 : decode cX12_canKeep 93 = .ok (.iload_n 1, 1) := dk_27 (by decide +kernel)
theorem dX12_canKeep_94 : decode cX12_canKeep 94 = .ok (.invokevirtual 456, 3) := dk_182 (by decide +kernel)
theorem dX12_canKeep_97 : decode cX12_canKeep 97 = .ok (.aload_n 0, 1) := dk_42 (by decide +kernel)
theorem dX12_canKeep_98 : decode cX12_canKeep 98 = .ok (.aload_n 0, 1) := dk_42 (by decide +kernel)
theorem dX12_canKeep_99 : decode cX12_canKeep 99 = .ok (.getfield 399, 3) := dk_180 (by decide +kernel)
theorem dX12_canKeep_102 : decode cX12_canKeep 102 = .ok (.invokevirtual 465, 3) := dk_182 (by decide +kernel)
theorem dX12_canKeep_105 : decode cX12_canKeep 105 = .ok (.pop, 1) := dk_87 (by decide +kernel)
theorem dX12_canKeep_106 : decode cX12_canKeep 106 = .ok (.aload_n 0, 1) := dk_42 (by decide +kernel)
theorem dX12_canKeep_107 : decode cX12_canKeep 107 = .ok (.aload_n 0, 1) := dk_42 (by decide +kernel)
theorem dX12_canKeep_108 : decode cX12_canKeep 108 = .ok (.getfield 399, 3) := dk_180 (by decide +kernel)
theorem dX12_canKeep_111 : decode cX12_canKeep 111 = .ok (.aload_n 0, 1) := dk_42 (by decide +kernel)
theorem dX12_canKeep_112 : decode cX12_canKeep 112 = .ok (.getfield 396, 3) := dk_180 (by decide +kernel)
theorem dX12_canKeep_115 : decode cX12_canKeep 115 = .ok (.invokevirtual 446, 3) := dk_182 (by decide +kernel)
theorem dX12_canKeep_118 : decode cX12_canKeep 118 = .ok (.ifCond .ge 5, 3) := dk_156 (by decide +kernel)
theorem dX12_canKeep_121 : decode cX12_canKeep 121 = .ok (.iconst 0, 1) := dk_3 (by decide +kernel)
theorem dX12_canKeep_122 : decode cX12_canKeep 122 = .ok (.ireturn, 1) := dk_172 (by decide +kernel)
theorem dX12_canKeep_123 : decode cX12_canKeep 123 = .ok (.iconst 0, 1) := dk_3 (by decide +kernel)
theorem dX12_canKeep_124 : decode cX12_canKeep 124 = .ok (.istore_n 3, 1) := dk_62 (by decide +kernel)
theorem dX12_canKeep_125 : decode cX12_canKeep 125 = .ok (.iload_n 3, 1) := dk_29 (by decide +kernel)
theorem dX12_canKeep_126 : decode cX12_canKeep 126 = .ok (.aload_n 0, 1) := dk_42 (by decide +kernel)
theorem dX12_canKeep_127 : decode cX12_canKeep 127 = .ok (.getfield 399, 3) := dk_180 (by decide +kernel)
theorem dX12_canKeep_130 : decode cX12_canKeep 130 = .ok (.if_icmp .ge 66, 3) := dk_162 (by decide +kernel)
theorem dX12_canKeep_133 : decode cX12_canKeep 133 = .ok (.aload_n 0, 1) := dk_42 (by decide +kernel)
theorem dX12_canKeep_134 : decode cX12_canKeep 134 = .ok (.getfield 26, 3) := dk_180 (by decide +kernel)
theorem dX12_canKeep_137 : decode cX12_canKeep 137 = .ok (.iload_n 3, 1) := dk_29 (by decide +kernel)
theorem dX12_canKeep_138 : decode cX12_canKeep 138 = .ok (.iaload, 1) := dk_46 (by decide +kernel)
theorem dX12_canKeep_139 : decode cX12_canKeep 139 = .ok (.iload_n 1, 1) := dk_27 (by decide +kernel)
theorem dX12_canKeep_140 : decode cX12_canKeep 140 = .ok (.if_icmp .eq 6, 3) := dk_159 (by decide +kernel)
theorem dX12_canKeep_143 : decode cX12_canKeep 143 = .ok (.goto 47, 3) := dk_167 (by decide +kernel)
theorem dX12_canKeep_146 : decode cX12_canKeep 146 = .ok (.iconst 0, 1) := dk_3 (by decide +kernel)
theorem dX12_canKeep_147 : decode cX12_canKeep 147 = .ok (.istore 4, 2) := dk_54 (by decide +kernel)
theorem dX12_canKeep_149 : decode cX12_canKeep 149 = .ok (.iload 4, 2) := dk_21 (by decide +kernel)
theorem dX12_canKeep_151 : decode cX12_canKeep 151 = .ok (.aload_n 0, 1) := dk_42 (by decide +kernel)
theorem dX12_canKeep_152 : decode cX12_canKeep 152 = .ok (.getfield 396, 3) := dk_180 (by decide +kernel)
theorem dX12_canKeep_155 : decode cX12_canKeep 155 = .ok (.if_icmp .ge 19, 3) := dk_162 (by decide +kernel)
theorem dX12_canKeep_158 : decode cX12_canKeep 158 = .ok (.aload_n 0, 1) := dk_42 (by decide +kernel)
theorem dX12_canKeep_159 : decode cX12_canKeep 159 = .ok (.iload_n 3, 1) := dk_29 (by decide +kernel)
theorem dX12_canKeep_160 : decode cX12_canKeep 160 = .ok (.iload 4, 2) := dk_21 (by decide +kernel)
theorem dX12_canKeep_162 : decode cX12_canKeep 162 = .ok (.invokevirtual 446, 3) := dk_182 (by decide +kernel)
theorem dX12_canKeep_165 : decode cX12_canKeep 165 = .ok (.ifCond .ne 9, 3) := dk_154 (by decide +kernel)
theorem dX12_canKeep_168 : decode cX12_canKeep 168 = .ok (.iinc 4 1, 3) := dk_132 (by decide +kernel)
theorem dX12_canKeep_171 : decode cX12_canKeep 171 = .ok (.goto (-22), 3) := dk_167 (by decide +kernel)
theorem dX12_canKeep_174 : decode cX12_canKeep 174 = .ok (.iload 4, 2) := dk_21 (by decide +kernel)
theorem dX12_canKeep_176 : decode cX12_canKeep 176 = .ok (.aload_n 0, 1) := dk_42 (by decide +kernel)
theorem dX12_canKeep_177 : decode cX12_canKeep 177 = .ok (.getfield 396, 3) := dk_180 (by decide +kernel)
theorem dX12_canKeep_180 : decode cX12_canKeep 180 = .ok (.if_icmp .ge 10, 3) := dk_162 (by decide +kernel)
theorem dX12_canKeep_183 : decode cX12_canKeep 183 = .ok (.aload_n 0, 1) := dk_42 (by decide +kernel)
theorem dX12_canKeep_184 : decode cX12_canKeep 184 = .ok (.iload_n 3, 1) := dk_29 (by decide +kernel)
theorem dX12_canKeep_185 : decode cX12_canKeep 185 = .ok (.iload 4, 2) := dk_21 (by decide +kernel)
theorem dX12_canKeep_187 : decode cX12_canKeep 187 = .ok (.invokevirtual 456, 3) := dk_182 (by decide +kernel)
theorem dX12_canKeep_190 : decode cX12_canKeep 190 = .ok (.iinc 3 1, 3) := dk_132 (by decide +kernel)
theorem dX12_canKeep_193 : decode cX12_canKeep 193 = .ok (.goto (-68), 3) := dk_167 (by decide +kernel)
theorem dX12_canKeep_196 : decode cX12_canKeep 196 = .ok (.iconst 0, 1) := dk_3 (by decide +kernel)
theorem dX12_canKeep_197 : decode cX12_canKeep 197 = .ok (.istore_n 3, 1) := dk_62 (by decide +kernel)
theorem dX12_canKeep_198 : decode cX12_canKeep 198 = .ok (.iload_n 3, 1) := dk_29 (by decide +kernel)
theorem dX12_canKeep_199 : decode cX12_canKeep 199 = .ok (.aload_n 0, 1) := dk_42 (by decide +kernel)
theorem dX12_canKeep_200 : decode cX12_canKeep 200 = .ok (.getfield 396, 3) := dk_180 (by decide +kernel)
theorem dX12_canKeep_203 : decode cX12_canKeep 203 = .ok (.if_icmp .ge 39, 3) := dk_162 (by decide +kernel)
theorem dX12_canKeep_206 : decode cX12_canKeep 206 = .ok (.aload_n 0, 1) := dk_42 (by decide +kernel)
theorem dX12_canKeep_207 : decode cX12_canKeep 207 = .ok (.getfield 29, 3) := dk_180 (by decide +kernel)
theorem dX12_canKeep_210 : decode cX12_canKeep 210 = .ok (.iload_n 3, 1) := dk_29 (by decide +kernel)
theorem dX12_canKeep_211 : decode cX12_canKeep 211 = .ok (.aload_n 0, 1) := dk_42 (by decide +kernel)
theorem dX12_canKeep_212 : decode cX12_canKeep 212 = .ok (.getfield 29, 3) := dk_180 (by decide +kernel)
theorem dX12_canKeep_215 : decode cX12_canKeep 215 = .ok (.iload_n 3, 1) := dk_29 (by decide +kernel)
theorem dX12_canKeep_216 : decode cX12_canKeep 216 = .ok (.baload, 1) := dk_51 (by decide +kernel)
theorem dX12_canKeep_217 : decode cX12_canKeep 217 = .ok (.ifCond .ne 13, 3) := dk_154 (by decide +kernel)
theorem dX12_canKeep_220 : decode cX12_canKeep 220 = .ok (.aload_n 0, 1) := dk_42 (by decide +kernel)
theorem dX12_canKeep_221 : decode cX12_canKeep 221 = .ok (.getfield 23, 3) := dk_180 (by decide +kernel)
theorem dX12_canKeep_224 : decode cX12_canKeep 224 = .ok (.iload_n 3, 1) := dk_29 (by decide +kernel)
theorem dX12_canKeep_225 : decode cX12_canKeep 225 = .ok (.iaload, 1) := dk_46 (by decide +kernel)
theorem dX12_canKeep_226 : decode cX12_canKeep 226 = .ok (.iload_n 1, 1) := dk_27 (by decide +kernel)
theorem dX12_canKeep_227 : decode cX12_canKeep 227 = .ok (.if_icmp .ne 7, 3) := dk_160 (by decide +kernel)
theorem dX12_canKeep_230 : decode cX12_canKeep 230 = .ok (.iconst 1, 1) := dk_4 (by decide +kernel)
theorem dX12_canKeep_231 : decode cX12_canKeep 231 = .ok (.goto 4, 3) := dk_167 (by decide +kernel)
theorem dX12_canKeep_234 : decode cX12_canKeep 234 = .ok (.iconst 0, 1) := dk_3 (by decide +kernel)
theorem dX12_canKeep_235 : decode cX12_canKeep 235 = .ok (.bastore, 1) := dk_84 (by decide +kernel)
theorem dX12_canKeep_236 : decode cX12_canKeep 236 = .ok (.iinc 3 1, 3) := dk_132 (by decide +kernel)
theorem dX12_canKeep_239 : decode cX12_canKeep 239 = .ok (.goto (-41), 3) := dk_167 (by decide +kernel)
theorem dX12_canKeep_242 : decode cX12_canKeep 242 = .ok (.iconst 1, 1) := dk_4 (by decide +kernel)
theorem dX12_canKeep_243 : decode cX12_canKeep 243 = .ok (.ireturn, 1) := dk_172 (by decide +kernel)
def wsRX12_canKeep : List Cond := .code yX12_canKeep cX12_canKeep 5 (some .boolean) :: ([.fieldLink RX12 396 "OptimaWorksModel" "columns" "I", .fieldLink RX12 399 "OptimaWorksModel" "rows" "I", .fieldLink RX12 29 "OptimaWorksModel" "still" "[Z", .fieldLink RX12 23 "OptimaWorksModel" "columnOf" "[I", .fieldLink RX12 26 "OptimaWorksModel" "rowOf" "[I"] ++ wsX120 ++ (wsV RX12 462 RX12 yX12_hasten wsRX12_hasten) ++ (wsV RX12 456 RX12 yX12_pivot wsRX12_pivot) ++ (wsV RX12 465 RX12 yX12_raise wsRX12_raise) ++ (wsV RX12 446 RX12 yX12_signAt wsRX12_signAt) ++ (wsV RX12 405 RX12 yX12_at wsRX12_at) ++ (wsV RX12 353 RX12 yX12_sign wsRX12_sign) ++ (wsV RX12 393 RX12 yX12_compare wsRX12_compare))
theorem iwsRX12_canKeep_in12 : ∀ w ∈ wsX120, w ∈ wsRX12_canKeep := fun _ h => List.mem_cons_of_mem _ (List.mem_append_left _ (List.mem_append_left _ (List.mem_append_left _ (List.mem_append_left _ (List.mem_append_left _ (List.mem_append_left _ (List.mem_append_left _ (List.mem_append_right _ h))))))))
theorem gwsRX12_canKeep_0 : GoodIn wsRX12_canKeep (wsV RX12 462 RX12 yX12_hasten wsRX12_hasten) := goodIn_sub (fun _ h => List.mem_cons_of_mem _ (List.mem_append_left _ (List.mem_append_left _ (List.mem_append_left _ (List.mem_append_left _ (List.mem_append_left _ (List.mem_append_left _ (List.mem_append_right _ h)))))))) (gdV (by decide +kernel) gdwsRX12_hasten)
theorem gwsRX12_canKeep_1 : GoodIn wsRX12_canKeep (wsV RX12 456 RX12 yX12_pivot wsRX12_pivot) := goodIn_sub (fun _ h => List.mem_cons_of_mem _ (List.mem_append_left _ (List.mem_append_left _ (List.mem_append_left _ (List.mem_append_left _ (List.mem_append_left _ (List.mem_append_right _ h))))))) (gdV (by decide +kernel) gdwsRX12_pivot)
theorem gwsRX12_canKeep_2 : GoodIn wsRX12_canKeep (wsV RX12 465 RX12 yX12_raise wsRX12_raise) := goodIn_sub (fun _ h => List.mem_cons_of_mem _ (List.mem_append_left _ (List.mem_append_left _ (List.mem_append_left _ (List.mem_append_left _ (List.mem_append_right _ h)))))) (gdV (by decide +kernel) gdwsRX12_raise)
theorem gwsRX12_canKeep_3 : GoodIn wsRX12_canKeep (wsV RX12 446 RX12 yX12_signAt wsRX12_signAt) := goodIn_sub (fun _ h => List.mem_cons_of_mem _ (List.mem_append_left _ (List.mem_append_left _ (List.mem_append_left _ (List.mem_append_right _ h))))) (gdV (by decide +kernel) gdwsRX12_signAt)
theorem gwsRX12_canKeep_4 : GoodIn wsRX12_canKeep (wsV RX12 405 RX12 yX12_at wsRX12_at) := goodIn_sub (fun _ h => List.mem_cons_of_mem _ (List.mem_append_left _ (List.mem_append_left _ (List.mem_append_right _ h)))) (gdV (by decide +kernel) gdwsRX12_at)
theorem gwsRX12_canKeep_5 : GoodIn wsRX12_canKeep (wsV RX12 353 RX12 yX12_sign wsRX12_sign) := goodIn_sub (fun _ h => List.mem_cons_of_mem _ (List.mem_append_left _ (List.mem_append_right _ h))) (gdV (by decide +kernel) gdwsRX12_sign)
theorem gwsRX12_canKeep_6 : GoodIn wsRX12_canKeep (wsV RX12 393 RX12 yX12_compare wsRX12_compare) := goodIn_sub (fun _ h => List.mem_cons_of_mem _ (List.mem_append_right _ h)) (gdV (by decide +kernel) gdwsRX12_compare)
theorem gdwsRX12_canKeep : wsRX12_canKeep.all goodWord = true := gdC rfl (gdA (gdA (gdA (gdA (gdA (gdA (gdA (gdA (by decide +kernel : ([.fieldLink RX12 396 "OptimaWorksModel" "columns" "I", .fieldLink RX12 399 "OptimaWorksModel" "rows" "I", .fieldLink RX12 29 "OptimaWorksModel" "still" "[Z", .fieldLink RX12 23 "OptimaWorksModel" "columnOf" "[I", .fieldLink RX12 26 "OptimaWorksModel" "rowOf" "[I"] : List Cond).all goodWord = true) gdwsX120) (gdV (by decide +kernel) gdwsRX12_hasten)) (gdV (by decide +kernel) gdwsRX12_pivot)) (gdV (by decide +kernel) gdwsRX12_raise)) (gdV (by decide +kernel) gdwsRX12_signAt)) (gdV (by decide +kernel) gdwsRX12_at)) (gdV (by decide +kernel) gdwsRX12_sign)) (gdV (by decide +kernel) gdwsRX12_compare))
set_option maxHeartbeats 4000000 in
set_option maxRecDepth 100000 in
/-- canKeep() -/
theorem r_X12_canKeep (l : Launch) (dC : Nat → ClassId) (dI : Nat → Nat → Nat) (a : Nat → Nat) (k : Nat → ClassId) (h0 : Nat) (vi : Nat → Int32) (vj : Nat → Int64) (vF : Nat → Nat → Int32) (vG : Nat → Nat → Int64) (C : Nat) (R : Nat) (Gq : Nat) (a_ : Nat → Nat → Int) (mg : Nat → Int) (hBg : Bg (vF 0) mg) (hC : vi 5 = nI C) (hR : vi 6 = nI R) (hG : vi 7 = nI Gq) (hC45 : 0 < C ∧ C ≤ 45) (hT60 : R + Gq < 60) (hsz : (R + Gq) * (C + 1) ≤ 970) (hN : TabN C (R + Gq) mg a_ 1) (h4 : ∀ j, j < C → vF 4 j = nI j) (h5 : ∀ i, i < R → vF 5 i = nI (C + i)) (ha1 : ∀ i, i < R → a_ i (C - 1) = -1) (haR : ∀ j, j ≤ C → a_ R j = if j = C - 1 then 1 else 0) (hGq : 0 < Gq) (hsm : Small C R (R + Gq) a_) (sz : Nat) : Met l yX12_canKeep wsRX12_canKeep ({ frames := 5, cells := 0, slots := 0, locals := 133 }) (va_Pc [.ref h0] (fun U => U.heap.size = sz ∧ va_P (dC, dI) vwCl (WR a k h0 vi vj vF vG) U.heap ∧ va_K (dC, dI) vwCl (tX12 k) U ∧ va_D (fun _ => True) (WR a k h0 vi vj vF vG))) (va_Qi (fun (r : Int32) (u : (Nat → Int32) × (Nat → Int32) × (Nat → Int32) × (Nat → Int32) × (Nat → Int32) × (Nat → Int32) × (Nat → Int64) × (Nat → Int64) × (Nat → Int64) × (Int32) × (Int64) × (Nat → Int) × (Nat → Nat → Int) × (Int)) => (r = 0 ∧ (Bg (u.1) (u.2.2.2.2.2.2.2.2.2.2.2.1)) ∧ (Tab (u.2.2.2.2.2.2.2.2.2.1) C (R + Gq) (u.2.2.2.2.2.2.2.2.2.2.2.1) (u.2.2.2.2.2.2.2.1) (u.2.2.2.2.2.2.2.2.2.2.1) (u.2.2.2.2.2.2.2.2.2.2.2.2.1) (u.2.2.2.2.2.2.2.2.2.2.2.2.2)) ∧ (Sx C R (R + Gq) a_ (u.2.2.2.2.2.2.2.2.2.2.2.2.1) (u.2.2.2.2.2.2.2.2.2.2.2.2.2) (u.2.2.2.1) (u.2.2.2.2.1)) ∧ (∀ i, i < R → 0 ≤ (u.2.2.2.2.2.2.2.2.2.2.2.2.1) i C) ∧ (∀ q, (q < 20 ∨ (26 < q ∧ q < 30) ∨ 30 + (R + Gq) * (C + 1) ≤ q) → (u.2.2.2.2.2.2.2.2.2.2.2.1) q = mg q)) ∨ (r = 1 ∧ (Bg (u.1) (u.2.2.2.2.2.2.2.2.2.2.2.1)) ∧ (Tab (u.2.2.2.2.2.2.2.2.2.1) C (R + Gq) (u.2.2.2.2.2.2.2.2.2.2.2.1) (u.2.2.2.2.2.2.2.1) (u.2.2.2.2.2.2.2.2.2.2.1) (u.2.2.2.2.2.2.2.2.2.2.2.2.1) (u.2.2.2.2.2.2.2.2.2.2.2.2.2)) ∧ (Sx C R (R + Gq) a_ (u.2.2.2.2.2.2.2.2.2.2.2.2.1) (u.2.2.2.2.2.2.2.2.2.2.2.2.2) (u.2.2.2.1) (u.2.2.2.2.1)) ∧ (∀ i, i < R → 0 ≤ (u.2.2.2.2.2.2.2.2.2.2.2.2.1) i C) ∧ (∀ q, (q < 20 ∨ (26 < q ∧ q < 30) ∨ 30 + (R + Gq) * (C + 1) ≤ q) → (u.2.2.2.2.2.2.2.2.2.2.2.1) q = mg q))) (fun (u : (Nat → Int32) × (Nat → Int32) × (Nat → Int32) × (Nat → Int32) × (Nat → Int32) × (Nat → Int32) × (Nat → Int64) × (Nat → Int64) × (Nat → Int64) × (Int32) × (Int64) × (Nat → Int) × (Nat → Nat → Int) × (Int)) t => va_P (dC, dI) vwCl (WR a k h0 (fT vi 11 (u.2.2.2.2.2.2.2.2.2.1)) (fT vj 12 (u.2.2.2.2.2.2.2.2.2.2.1)) (fT (fT (fT (fT (fT (fT vF 0 (u.1)) 2 (u.2.1)) 3 (u.2.2.1)) 4 (u.2.2.2.1)) 5 (u.2.2.2.2.1)) 6 (u.2.2.2.2.2.1)) (fT (fT (fT vG 7 (u.2.2.2.2.2.2.2.1)) 1 (u.2.2.2.2.2.2.1)) 8 (u.2.2.2.2.2.2.2.2.1))) t.heap ∧ va_D (va_A (WR a k h0 vi vj vF vG) sz) (WR a k h0 (fT vi 11 (u.2.2.2.2.2.2.2.2.2.1)) (fT vj 12 (u.2.2.2.2.2.2.2.2.2.2.1)) (fT (fT (fT (fT (fT (fT vF 0 (u.1)) 2 (u.2.1)) 3 (u.2.2.1)) 4 (u.2.2.2.1)) 5 (u.2.2.2.2.1)) 6 (u.2.2.2.2.2.1)) (fT (fT (fT vG 7 (u.2.2.2.2.2.2.2.1)) 1 (u.2.2.2.2.2.2.1)) 8 (u.2.2.2.2.2.2.2.2.1)))) (va_A (WR a k h0 vi vj vF vG) sz)) 0 0 (va_A (WR a k h0 vi vj vF vG) sz) := by
  refine Met.ofW (cc := cX12_canKeep) (maxL := 5) (ret := (some .boolean)) (by decide) rfl ?_
  intro p e s m args below meth c s₁ B hml hv
  obtain ⟨rfl, hsz, hP, hK, hD0⟩ := hv
  have hx := B.exec
  have hb := B.bytes
  have hr := B.returns
  have hts := atoms_spec (ws := wsRX12_canKeep) B.pre
  have hown : s.vm.findClass RX12 = some m.cls := findClass_of_methodNamed B.named
  have hlocks := B.notSynchronized
  subst hsz
  have hD := hD0.self (sz := s.heap.size)
  generalize hAe : va_A (WR a k h0 vi vj vF vG) s.heap.size = A at hD ⊢
  have hA : ∀ q : Nat, s.heap.size ≤ q → A q := fun q h => by rw [← hAe]; exact Or.inr h
  have hS : va_S A s.heap s.heap [] := va_S.rf
  have hl := lv_entry ([.ref h0]) (n := 5) (Nat.le_of_ble_eq_true rfl)
  rw [lg_entry_eq]
  generalize (lg_sl ([.ref h0]) ++ List.replicate (5 - (lg_sl ([.ref h0])).length) Slot.unset).toArray = ls at hl ⊢
  have hl : lv_has ls 5 [(0, .ref h0)] := hl
  have hS0 := Sx.start (a := a_) (R := R) (T := R + Gq) (f4 := vF 4) (f5 := vF 5) (by omega) (by omega) (by omega) h4 h5
  refine lv_aload_n hx hb dX12_canKeep_0 rfl (lv_at hl 0 rfl) ?_
  refine va_get (D := (dC, dI)) (ci := 12) (v := .int (vi 5)) (C := RX12) (T := TX12) (N := 163) (fs := fM (vS a vi vj)) hx hb hts iwsRX12_canKeep_in12 hown hK hP 0 rfl rfl 5 (by decide) (hts (.fieldLink RX12 396 "OptimaWorksModel" "columns" "I") (by decide +kernel)) (fun _ h9 => h9) rfl dX12_canKeep_1 ?_
  refine lv_topi (fun y1 hy1 => ?_)
  obtain rfl : (nI C) = y1 := (hy1.trans (hC)).symm
  refine lv_iconst (v := 1) hx hb dX12_canKeep_4 (by decide) ?_
  refine lv_isub hx hb dX12_canKeep_5 ?_
  refine lv_topi (fun y2 hy2 => ?_)
  obtain rfl : (nI (C - 1)) = y2 := (hy2.trans (pk_sub (a := C) (b := 1) (by omega))).symm
  refine lv_istore_n hx hb dX12_canKeep_6 rfl hl (by decide) rfl (fun ls (hl : lv_has ls _ ([(1, .int (nI (C - 1))), (0, .ref h0)])) => ?_)
  refine lv_iconst (v := (-1)) hx hb dX12_canKeep_7 (by decide) ?_
  refine lv_istore_n hx hb dX12_canKeep_8 rfl hl (by decide) rfl (fun ls (hl : lv_has ls _ ([(2, .int (-1)), (1, .int (nI (C - 1))), (0, .ref h0)])) => ?_)
  refine lv_iconst (v := 0) hx hb dX12_canKeep_9 (by decide) ?_
  refine lv_istore_n hx hb dX12_canKeep_10 rfl hl (by decide) rfl (fun ls (hl : lv_has ls _ ([(3, .int 0), (2, .int (-1)), (1, .int (nI (C - 1))), (0, .ref h0)])) => ?_)
  have hl : lv_has _ _ ([(0, .ref h0), (1, .int (nI (C - 1))), (2, .int (-1)), (3, .int (nI 0))]) := lv_sub hl [3, 2, 1, 0] rfl
  refine (fun (loop : ∀ (n9 : Nat) (i : Nat) (lq : Int32) (lb : Nat) (H : Heap) (locs : List Loc) (ls : Array Slot), (i ≤ R) → ((lq = -1 ∧ ∀ i2, i2 < i → 0 ≤ a_ i2 C) ∨ (lq = nI lb ∧ lb < i ∧ a_ lb C < 0 ∧ ∀ i2, i2 < i → a_ lb C ≤ a_ i2 C)) →  (R < i + n9) → va_P (dC, dI) vwCl (WR a k h0 vi vj vF vG) H → va_D A (WR a k h0 vi vj vF vG) → va_S A s.heap H locs → lv_has ls 5 [(0, .ref h0), (1, .int (nI (C - 1))), (2, .int lq), (3, .int (nI i))] → W p l e _ s m _ below meth c H locs 0 0 _ (F0 m 11 ls [])) => loop (R + 1) 0 (-1) 0 _ _ _ (by omega) (Or.inl ⟨rfl, fun i2 h2 => absurd h2 (by omega)⟩) (by omega) hP hD hS hl) ?_
  intro n9
  induction n9 with
  | zero => intro i lq lb H locs ls hi hlq hf9; exact False.elim (by omega)
  | succ n9 ih11 =>
    intro i lq lb H locs ls hi hlq hf11 hP hD hS hl
    refine lv_iload_n hx hb dX12_canKeep_11 rfl (lv_at hl 3 rfl) ?_
    refine lv_aload_n hx hb dX12_canKeep_12 rfl (lv_at hl 0 rfl) ?_
    refine va_get (D := (dC, dI)) (ci := 12) (v := .int (vi 6)) (C := RX12) (T := TX12) (N := 163) (fs := fM (vS a vi vj)) hx hb hts iwsRX12_canKeep_in12 hown hK hP 0 rfl rfl 6 (by decide) (hts (.fieldLink RX12 399 "OptimaWorksModel" "rows" "I") (by decide +kernel)) (fun _ h9 => h9) rfl dX12_canKeep_13 ?_
    refine lv_topi (fun y3 hy3 => ?_)
    obtain rfl : (nI R) = y3 := (hy3.trans (hR)).symm
    refine lv_icmp_ge (tgt := 73) hx hb dX12_canKeep_16 (by decide) (fun c_16 => ?_) (fun c_16 => ?_)
    · have t_16 : ((i : Nat) : Int) ≥ ((R : Nat) : Int) := toI_ge c_16 (nI_toInt (by omega)) (nI_toInt (by omega))
      refine lv_aload_n hx hb dX12_canKeep_73 rfl (lv_at hl 0 rfl) ?_
      have hFc := allFree hD hS hA
      refine va_callv (va_runV (As := []) (rest := []) ⟨hx, hb, hml, hown, hts⟩ (r_X12_hasten l dC dI a k h0 vi vj vF vG C R Gq a_ mg hBg (by first | assumption | decide | omega | rfl) (by first | assumption | decide | omega | rfl) (by first | assumption | decide | omega | rfl) (by first | assumption | decide | omega | rfl) (by first | assumption | decide | omega | rfl) (by first | assumption | decide | omega | rfl) (by first | assumption | decide | omega | rfl) H.size) (cwV 0 hts gwsRX12_canKeep_0 rfl rfl rfl (by decide +kernel) ⟨by decide +kernel, by decide +kernel⟩) ⟨fun a U g mk q => by obtain ⟨q0, q1, qP, qK, qD⟩ := q; exact ⟨q0, q1, qP, va_K.moved (u := U) (U := U.calling g mk a) (Vm.Alike.refl U.vm) qK, qD⟩, va_recv hK hP (ci := 12) (q0 := 0) rfl rfl, fun U hU9 hW => ⟨rfl, by rw [hU9], by rw [hU9]; exact hP, va_K.moved hW.alike hK, hD.weaken (fun _ _ _ _ => trivial)⟩⟩ rfl rfl hl.1 rfl (lv_room (Nat.le_of_ble_eq_true rfl)) dX12_canKeep_74 ⟨by decide +kernel, by decide +kernel⟩) hS (fun q _ h => hFc q h) hFc (fun u t9_ H1 locs ht hvm hw9 hB9 hz1 hk1 hS => ?_)
      obtain ⟨qk74, F74⟩ := u
      try dsimp only at hw9 hB9
      obtain ⟨hP1, hD1⟩ := hB9
      rw [ht] at hP1
      have hP := hP1
      have hD := hD1.weaken (fun _ q _ h => hFc q.1 h)
      generalize H1 = H at hP hS ⊢
      have hP : va_P (dC, dI) vwCl (WR a k h0 (fT vi 11 qk74) (fT vj 12 1) vF (fT vG 7 F74)) H := hP
      have hD : va_D A (WR a k h0 (fT vi 11 qk74) (fT vj 12 1) vF (fT vG 7 F74)) := hD
      have f74_0 := hw9
      try dsimp only at f74_0
      refine lv_iload_n hx hb dX12_canKeep_77 rfl (lv_at hl 2 rfl) ?_
      refine lv_iconst (v := (-1)) hx hb dX12_canKeep_78 (by decide) ?_
      refine lv_icmp_ne (tgt := 91) hx hb dX12_canKeep_79 (by decide) (fun c_79 => ?_) (fun c_79 => ?_)
      · have t_79 : (lq).toInt ≠ -1 := toI_ne c_79 rfl (by decide)
        refine W.cut (pc := 106) (fun H locs ls stk => ∃ (tA : Nat → Nat → Int) (DA : Int) (gA : Nat → Int32) (f2A : Nat → Int32) (f3A : Nat → Int32) (f4A : Nat → Int32) (f5A : Nat → Int32) (f6A : Nat → Int32) (gsA : Nat → Int64) (FA : Nat → Int64) (L8A : Nat → Int64) (qkA : Int32) (qdA : Int64) (mA : Nat → Int), (Bg gA mA) ∧ (Tab qkA C (R + Gq) mA FA qdA tA DA) ∧ (Sx C R (R + Gq) a_ tA DA f4A f5A) ∧ (∀ i, i < R → 0 ≤ tA i C) ∧ (∀ q, (q < 20 ∨ (26 < q ∧ q < 30) ∨ 30 + (R + Gq) * (C + 1) ≤ q) → mA q = mg q) ∧  stk = [] ∧ va_P (dC, dI) vwCl (WR a k h0 (fT vi 11 qkA) (fT vj 12 qdA) (fT (fT (fT (fT (fT (fT vF 0 gA) 2 f2A) 3 f3A) 4 f4A) 5 f5A) 6 f6A) (fT (fT (fT vG 7 FA) 1 gsA) 8 L8A)) H ∧ va_D A (WR a k h0 (fT vi 11 qkA) (fT vj 12 qdA) (fT (fT (fT (fT (fT (fT vF 0 gA) 2 f2A) 3 f3A) 4 f4A) 5 f5A) 6 f6A) (fT (fT (fT vG 7 FA) 1 gsA) 8 L8A)) ∧ va_S A s.heap H locs ∧ lv_has ls 5 [(0, .ref h0), (1, .int (nI (C - 1)))]) (fun join1 => ?_) ?_
        · obtain ⟨h1d, h2d, h3d, h4d⟩ := hlq.resolve_left (fun h => c_79 h.1)
          subst h1d
          have hp9 : a_ lb (C - 1) = -1 := ha1 lb (by omega)
          obtain ⟨hSa, hPa⟩ := hS0.next (r := lb) (c := C - 1) (by omega) (by omega) (by omega) (by omega) (by omega) (sgI_or _) (sgI_pos (by omega))
          have hGa := first_ex (C := C) (R := R) (lb := lb) (by omega) (by omega) ha1 h3d (fun i2 hi2 => h4d i2 (by omega))
          refine lv_aload_n hx hb dX12_canKeep_91 rfl (lv_at hl 0 rfl) ?_
          refine lv_iload_n hx hb dX12_canKeep_92 rfl (lv_at hl 2 rfl) ?_
          refine lv_iload_n hx hb dX12_canKeep_93 rfl (lv_at hl 1 rfl) ?_
          have hFc := allFree hD hS hA
          refine va_callv (va_runV (As := [.int (nI lb), .int (nI (C - 1))]) (rest := []) ⟨hx, hb, hml, hown, hts⟩ (r_X12_pivot l dC dI a k h0 (fT vi 11 qk74) (fT vj 12 1) vF (fT vG 7 F74) lb (C - 1) C R Gq a_ 1 mg hBg (by first | assumption | decide | omega | rfl) (by first | assumption | decide | omega | rfl) (by first | assumption | decide | omega | rfl) (by first | assumption | decide | omega | rfl) (by first | assumption | decide | omega | rfl) (by first | assumption | decide | omega | rfl) (f74_0) (by omega) (by first | assumption | decide | omega | rfl) (by decide) (by omega) ((hsm _ _ _ _ hS0.1).2) H.size) (cwV 2 hts gwsRX12_canKeep_1 rfl rfl rfl (by decide +kernel) ⟨by decide +kernel, by decide +kernel⟩) ⟨fun a U g mk q => by obtain ⟨q0, q1, qP, qK, qD⟩ := q; exact ⟨q0, q1, qP, va_K.moved (u := U) (U := U.calling g mk a) (Vm.Alike.refl U.vm) qK, qD⟩, va_recv hK hP (ci := 12) (q0 := 0) rfl rfl, fun U hU9 hW => ⟨rfl, by rw [hU9], by rw [hU9]; exact hP, va_K.moved hW.alike hK, hD.weaken (fun _ _ _ _ => trivial)⟩⟩ rfl rfl hl.1 rfl (lv_room (Nat.le_of_ble_eq_true rfl)) dX12_canKeep_94 ⟨by decide +kernel, by decide +kernel⟩) hS (fun q _ h => hFc q h) hFc (fun u t9_ H1 locs ht hvm hw9 hB9 hz1 hk1 hS => ?_)
          obtain ⟨g94, f2w94, f3w94, gs94, qk94, qd94, F94, L894, m294⟩ := u
          try dsimp only at hw9 hB9
          obtain ⟨hP1, hD1⟩ := hB9
          rw [ht] at hP1
          have hP := hP1
          have hD := hD1.weaken (fun _ q _ h => hFc q.1 h)
          generalize H1 = H at hP hS ⊢
          have hP : va_P (dC, dI) vwCl (WR a k h0 (fT (fT vi 11 qk74) 11 qk94) (fT (fT vj 12 1) 12 qd94) (fT (fT (fT (fT (fT vF 0 g94) 2 f2w94) 3 f3w94) 4 (upd (vF 4) (nI (C - 1)).toNatClampNeg ((vF 5) lb))) 5 (upd (vF 5) (nI lb).toNatClampNeg ((vF 4) (C - 1)))) (fT (fT (fT (fT vG 7 F74) 8 L894) 7 F94) 1 gs94)) H := hP
          have hD : va_D A (WR a k h0 (fT (fT vi 11 qk74) 11 qk94) (fT (fT vj 12 1) 12 qd94) (fT (fT (fT (fT (fT vF 0 g94) 2 f2w94) 3 f3w94) 4 (upd (vF 4) (nI (C - 1)).toNatClampNeg ((vF 5) lb))) 5 (upd (vF 5) (nI lb).toNatClampNeg ((vF 4) (C - 1)))) (fT (fT (fT (fT vG 7 F74) 8 L894) 7 F94) 1 gs94)) := hD
          have e9 : fT vi 11 qk94 = fT (fT vi 11 qk74) 11 qk94 := (fT_sm _ _ _ _).symm
          rw [← e9] at hP hD
          clear e9
          have e9 : fT vj 12 qd94 = fT (fT vj 12 1) 12 qd94 := (fT_sm _ _ _ _).symm
          rw [← e9] at hP hD
          clear e9
          have e9 : fT (fT (fT vG 7 F94) 8 L894) 1 gs94 = fT (fT (fT (fT vG 7 F74) 8 L894) 7 F94) 1 gs94 := (congrArg (fun g9 => fT g9 1 gs94) ((fT_sw _ _ _ (Nat.ne_of_beq_eq_false rfl)).trans (congrArg (fun g9 => fT g9 8 L894) (fT_sm _ _ _ _)))).symm
          rw [← e9] at hP hD
          clear e9
          have hP : va_P (dC, dI) vwCl (WR a k h0 (fT vi 11 qk94) (fT vj 12 qd94) (fT (fT (fT (fT (fT vF 0 g94) 2 f2w94) 3 f3w94) 4 (upd (vF 4) (nI (C - 1)).toNatClampNeg ((vF 5) lb))) 5 (upd (vF 5) (nI lb).toNatClampNeg ((vF 4) (C - 1)))) (fT (fT (fT vG 7 F94) 8 L894) 1 gs94)) H := hP
          have hD : va_D A (WR a k h0 (fT vi 11 qk94) (fT vj 12 qd94) (fT (fT (fT (fT (fT vF 0 g94) 2 f2w94) 3 f3w94) 4 (upd (vF 4) (nI (C - 1)).toNatClampNeg ((vF 5) lb))) 5 (upd (vF 5) (nI lb).toNatClampNeg ((vF 4) (C - 1)))) (fT (fT (fT vG 7 F94) 8 L894) 1 gs94)) := hD
          obtain ⟨f94_0, f94_1, f94_2⟩ := hw9
          refine lv_aload_n hx hb dX12_canKeep_97 rfl (lv_at hl 0 rfl) ?_
          refine lv_aload_n hx hb dX12_canKeep_98 rfl (lv_at hl 0 rfl) ?_
          refine va_get (D := (dC, dI)) (ci := 12) (v := .int (vi 6)) (C := RX12) (T := TX12) (N := 163) (fs := fM (vS a (fT vi 11 qk94) (fT vj 12 qd94))) hx hb hts iwsRX12_canKeep_in12 hown hK hP 0 rfl rfl 6 (by decide) (hts (.fieldLink RX12 399 "OptimaWorksModel" "rows" "I") (by decide +kernel)) (fun _ h9 => h9) rfl dX12_canKeep_99 ?_
          refine lv_topi (fun y4 hy4 => ?_)
          obtain rfl : (nI R) = y4 := (hy4.trans (hR)).symm
          have hFc := allFree hD hS hA
          refine va_calli (va_runV (As := [.int (nI R)]) (rest := []) ⟨hx, hb, hml, hown, hts⟩ (r_X12_raise l dC dI a k h0 (fT vi 11 qk94) (fT vj 12 qd94) (fT (fT (fT (fT (fT vF 0 g94) 2 f2w94) 3 f3w94) 4 (upd (vF 4) (nI (C - 1)).toNatClampNeg ((vF 5) lb))) 5 (upd (vF 5) (nI lb).toNatClampNeg ((vF 4) (C - 1)))) (fT (fT (fT vG 7 F94) 8 L894) 1 gs94) R a_ C R Gq (nvT lb (C - 1) (sgI (a_ lb (C - 1))) a_ 1) (sgI (a_ lb (C - 1)) * a_ lb (C - 1)) m294 f94_0 (by first | assumption | decide | omega | rfl) (by first | assumption | decide | omega | rfl) (by first | assumption | decide | omega | rfl) (by first | assumption | decide | omega | rfl) (by first | assumption | decide | omega | rfl) (by first | assumption | decide | omega | rfl) (f94_1) (hSa) (by first | assumption | decide | omega | rfl) (hGa) (by first | assumption | decide | omega | rfl) (by first | assumption | decide | omega | rfl) H.size) (cwV 1 hts gwsRX12_canKeep_2 rfl rfl rfl (by decide +kernel) ⟨by decide +kernel, by decide +kernel⟩) ⟨fun a U g mk q => by obtain ⟨q0, q1, qP, qK, qD⟩ := q; exact ⟨q0, q1, qP, va_K.moved (u := U) (U := U.calling g mk a) (Vm.Alike.refl U.vm) qK, qD⟩, va_recv hK hP (ci := 12) (q0 := 0) rfl rfl, fun U hU9 hW => ⟨rfl, by rw [hU9], by rw [hU9]; exact hP, va_K.moved hW.alike hK, hD.weaken (fun _ _ _ _ => trivial)⟩⟩ rfl rfl hl.1 rfl (lv_room (Nat.le_of_ble_eq_true rfl)) dX12_canKeep_102 ⟨by decide +kernel, by decide +kernel⟩) hS (fun q _ h => hFc q h) hFc (fun r102 u t9_ H1 locs ht hvm hw9 hB9 hz1 hk1 hS => ?_)
          obtain ⟨g102, f2w102, f3w102, f4102, f5102, f6102, gs102, F102, L8102, qk102, qd102, m2102, t2102, D2102⟩ := u
          try dsimp only at hw9 hB9
          obtain ⟨hP1, hD1⟩ := hB9
          rw [ht] at hP1
          have hP := hP1
          have hD := hD1.weaken (fun _ q _ h => hFc q.1 h)
          generalize H1 = H at hP hS ⊢
          have hP : va_P (dC, dI) vwCl (WR a k h0 (fT (fT vi 11 qk94) 11 qk102) (fT (fT vj 12 qd94) 12 qd102) (fT (fT (fT (fT (fT (fT (fT (fT (fT (fT (fT vF 0 g94) 2 f2w94) 3 f3w94) 4 (upd (vF 4) (nI (C - 1)).toNatClampNeg ((vF 5) lb))) 5 (upd (vF 5) (nI lb).toNatClampNeg ((vF 4) (C - 1)))) 0 g102) 2 f2w102) 3 f3w102) 4 f4102) 5 f5102) 6 f6102) (fT (fT (fT (fT (fT (fT vG 7 F94) 8 L894) 1 gs94) 1 gs102) 7 F102) 8 L8102)) H := hP
          have hD : va_D A (WR a k h0 (fT (fT vi 11 qk94) 11 qk102) (fT (fT vj 12 qd94) 12 qd102) (fT (fT (fT (fT (fT (fT (fT (fT (fT (fT (fT vF 0 g94) 2 f2w94) 3 f3w94) 4 (upd (vF 4) (nI (C - 1)).toNatClampNeg ((vF 5) lb))) 5 (upd (vF 5) (nI lb).toNatClampNeg ((vF 4) (C - 1)))) 0 g102) 2 f2w102) 3 f3w102) 4 f4102) 5 f5102) 6 f6102) (fT (fT (fT (fT (fT (fT vG 7 F94) 8 L894) 1 gs94) 1 gs102) 7 F102) 8 L8102)) := hD
          have e9 : fT vi 11 qk102 = fT (fT vi 11 qk94) 11 qk102 := (fT_sm _ _ _ _).symm
          rw [← e9] at hP hD
          clear e9
          have e9 : fT vj 12 qd102 = fT (fT vj 12 qd94) 12 qd102 := (fT_sm _ _ _ _).symm
          rw [← e9] at hP hD
          clear e9
          have e9 : fT (fT (fT (fT (fT (fT vF 0 g102) 2 f2w102) 3 f3w102) 4 f4102) 5 f5102) 6 f6102 = fT (fT (fT (fT (fT (fT (fT (fT (fT (fT (fT vF 0 g94) 2 f2w94) 3 f3w94) 4 (upd (vF 4) (nI (C - 1)).toNatClampNeg ((vF 5) lb))) 5 (upd (vF 5) (nI lb).toNatClampNeg ((vF 4) (C - 1)))) 0 g102) 2 f2w102) 3 f3w102) 4 f4102) 5 f5102) 6 f6102 := ((congrArg (fun g9 => fT (fT (fT (fT (fT g9 2 f2w102) 3 f3w102) 4 f4102) 5 f5102) 6 f6102) ((fT_sw _ _ _ (Nat.ne_of_beq_eq_false rfl)).trans (congrArg (fun g9 => fT g9 5 (upd (vF 5) (nI lb).toNatClampNeg ((vF 4) (C - 1)))) ((fT_sw _ _ _ (Nat.ne_of_beq_eq_false rfl)).trans (congrArg (fun g9 => fT g9 4 (upd (vF 4) (nI (C - 1)).toNatClampNeg ((vF 5) lb))) ((fT_sw _ _ _ (Nat.ne_of_beq_eq_false rfl)).trans (congrArg (fun g9 => fT g9 3 f3w94) ((fT_sw _ _ _ (Nat.ne_of_beq_eq_false rfl)).trans (congrArg (fun g9 => fT g9 2 f2w94) (fT_sm _ _ _ _)))))))))).trans ((congrArg (fun g9 => fT (fT (fT (fT g9 3 f3w102) 4 f4102) 5 f5102) 6 f6102) ((fT_sw _ _ _ (Nat.ne_of_beq_eq_false rfl)).trans (congrArg (fun g9 => fT g9 5 (upd (vF 5) (nI lb).toNatClampNeg ((vF 4) (C - 1)))) ((fT_sw _ _ _ (Nat.ne_of_beq_eq_false rfl)).trans (congrArg (fun g9 => fT g9 4 (upd (vF 4) (nI (C - 1)).toNatClampNeg ((vF 5) lb))) ((fT_sw _ _ _ (Nat.ne_of_beq_eq_false rfl)).trans (congrArg (fun g9 => fT g9 3 f3w94) (fT_sm _ _ _ _)))))))).trans ((congrArg (fun g9 => fT (fT (fT g9 4 f4102) 5 f5102) 6 f6102) ((fT_sw _ _ _ (Nat.ne_of_beq_eq_false rfl)).trans (congrArg (fun g9 => fT g9 5 (upd (vF 5) (nI lb).toNatClampNeg ((vF 4) (C - 1)))) ((fT_sw _ _ _ (Nat.ne_of_beq_eq_false rfl)).trans (congrArg (fun g9 => fT g9 4 (upd (vF 4) (nI (C - 1)).toNatClampNeg ((vF 5) lb))) (fT_sm _ _ _ _)))))).trans ((congrArg (fun g9 => fT (fT g9 5 f5102) 6 f6102) ((fT_sw _ _ _ (Nat.ne_of_beq_eq_false rfl)).trans (congrArg (fun g9 => fT g9 5 (upd (vF 5) (nI lb).toNatClampNeg ((vF 4) (C - 1)))) (fT_sm _ _ _ _)))).trans (congrArg (fun g9 => fT g9 6 f6102) (fT_sm _ _ _ _)))))).symm
          rw [← e9] at hP hD
          clear e9
          have e9 : fT (fT (fT vG 7 F102) 8 L8102) 1 gs102 = fT (fT (fT (fT (fT (fT vG 7 F94) 8 L894) 1 gs94) 1 gs102) 7 F102) 8 L8102 := ((congrArg (fun g9 => fT (fT g9 7 F102) 8 L8102) (fT_sm _ _ _ _)).trans ((congrArg (fun g9 => fT g9 8 L8102) ((fT_sw _ _ _ (Nat.ne_of_beq_eq_false rfl)).trans (congrArg (fun g9 => fT g9 1 gs102) ((fT_sw _ _ _ (Nat.ne_of_beq_eq_false rfl)).trans (congrArg (fun g9 => fT g9 8 L894) (fT_sm _ _ _ _)))))).trans ((fT_sw _ _ _ (Nat.ne_of_beq_eq_false rfl)).trans (congrArg (fun g9 => fT g9 1 gs102) (fT_sm _ _ _ _))))).symm
          rw [← e9] at hP hD
          clear e9
          have hP : va_P (dC, dI) vwCl (WR a k h0 (fT vi 11 qk102) (fT vj 12 qd102) (fT (fT (fT (fT (fT (fT vF 0 g102) 2 f2w102) 3 f3w102) 4 f4102) 5 f5102) 6 f6102) (fT (fT (fT vG 7 F102) 8 L8102) 1 gs102)) H := hP
          have hD : va_D A (WR a k h0 (fT vi 11 qk102) (fT vj 12 qd102) (fT (fT (fT (fT (fT (fT vF 0 g102) 2 f2w102) 3 f3w102) 4 f4102) 5 f5102) 6 f6102) (fT (fT (fT vG 7 F102) 8 L8102) 1 gs102)) := hD
          obtain ⟨f102_0, f102_1, f102_2, f102_3, f102_4, f102_5⟩ := hw9
          refine lv_pop hx hb dX12_canKeep_105 rfl ?_
          have e9 : fT (fT (fT vG 7 F102) 1 gs102) 8 L8102 = fT (fT (fT vG 7 F102) 8 L8102) 1 gs102 := by funext q9; by_cases h9_7 : q9 = 7; (subst h9_7; exact ((fT_ne _ _ (Nat.ne_of_beq_eq_false rfl)).trans ((fT_ne _ _ (Nat.ne_of_beq_eq_false rfl)).trans (fT_eq _ _ _))).trans (Eq.trans (by first | rfl | assumption | (symm; assumption) | (subst_vars; rfl)) ((fT_ne _ _ (Nat.ne_of_beq_eq_false rfl)).trans ((fT_ne _ _ (Nat.ne_of_beq_eq_false rfl)).trans (fT_eq _ _ _))).symm)); by_cases h9_1 : q9 = 1; (subst h9_1; exact ((fT_ne _ _ (Nat.ne_of_beq_eq_false rfl)).trans (fT_eq _ _ _)).trans (Eq.trans (by first | rfl | assumption | (symm; assumption) | (subst_vars; rfl)) (fT_eq _ _ _).symm)); by_cases h9_8 : q9 = 8; (subst h9_8; exact (fT_eq _ _ _).trans (Eq.trans (by first | rfl | assumption | (symm; assumption) | (subst_vars; rfl)) ((fT_ne _ _ (Nat.ne_of_beq_eq_false rfl)).trans (fT_eq _ _ _)).symm)); exact ((fT_ne _ _ h9_8).trans ((fT_ne _ _ h9_1).trans (fT_ne _ _ h9_7))).trans ((fT_ne _ _ h9_1).trans ((fT_ne _ _ h9_8).trans (fT_ne _ _ h9_7))).symm
          have hP : va_P (dC, dI) vwCl (WR a k h0 (fT vi 11 qk102) (fT vj 12 qd102) (fT (fT (fT (fT (fT (fT vF 0 g102) 2 f2w102) 3 f3w102) 4 f4102) 5 f5102) 6 f6102) (fT (fT (fT vG 7 F102) 1 gs102) 8 L8102)) H := by rw [e9]; exact hP
          have hD : va_D A (WR a k h0 (fT vi 11 qk102) (fT vj 12 qd102) (fT (fT (fT (fT (fT (fT vF 0 g102) 2 f2w102) 3 f3w102) 4 f4102) 5 f5102) 6 f6102) (fT (fT (fT vG 7 F102) 1 gs102) 8 L8102)) := by rw [e9]; exact hD
          clear e9
          have hl : lv_has _ _ ([(0, .ref h0), (1, .int (nI (C - 1)))]) := lv_sub hl [0, 1] rfl
          exact join1 _ _ _ _ ⟨t2102, D2102, g102, f2w102, f3w102, f4102, f5102, f6102, gs102, F102, L8102, qk102, qd102, m2102, f102_0, f102_1, f102_2, f102_3, fun q hq => by (rw [f102_4 _ (by omega), f94_2 _ (by omega)]), rfl, hP, hD, hS, hl⟩
        · rintro H locs ls stk ⟨tA, DA, gA, f2A, f3A, f4A, f5A, f6A, gsA, FA, L8A, qkA, qdA, mA, hBA, hTA, hSA, hGA, hoA, rfl, hP, hD, hS, hl⟩
          refine lv_aload_n hx hb dX12_canKeep_106 rfl (lv_at hl 0 rfl) ?_
          refine lv_aload_n hx hb dX12_canKeep_107 rfl (lv_at hl 0 rfl) ?_
          refine va_get (D := (dC, dI)) (ci := 12) (v := .int (vi 6)) (C := RX12) (T := TX12) (N := 163) (fs := fM (vS a (fT vi 11 qkA) (fT vj 12 qdA))) hx hb hts iwsRX12_canKeep_in12 hown hK hP 0 rfl rfl 6 (by decide) (hts (.fieldLink RX12 399 "OptimaWorksModel" "rows" "I") (by decide +kernel)) (fun _ h9 => h9) rfl dX12_canKeep_108 ?_
          refine lv_topi (fun y5 hy5 => ?_)
          obtain rfl : (nI R) = y5 := (hy5.trans (hR)).symm
          refine lv_aload_n hx hb dX12_canKeep_111 rfl (lv_at hl 0 rfl) ?_
          refine va_get (D := (dC, dI)) (ci := 12) (v := .int (vi 5)) (C := RX12) (T := TX12) (N := 163) (fs := fM (vS a (fT vi 11 qkA) (fT vj 12 qdA))) hx hb hts iwsRX12_canKeep_in12 hown hK hP 0 rfl rfl 5 (by decide) (hts (.fieldLink RX12 396 "OptimaWorksModel" "columns" "I") (by decide +kernel)) (fun _ h9 => h9) rfl dX12_canKeep_112 ?_
          refine lv_topi (fun y6 hy6 => ?_)
          obtain rfl : (nI C) = y6 := (hy6.trans (hC)).symm
          have hFc := allFree hD hS hA
          refine va_calli (va_runV (As := [.int (nI R), .int (nI C)]) (rest := []) ⟨hx, hb, hml, hown, hts⟩ (r_X12_signAt l dC dI a k h0 (fT vi 11 qkA) (fT vj 12 qdA) (fT (fT (fT (fT (fT (fT vF 0 gA) 2 f2A) 3 f3A) 4 f4A) 5 f5A) 6 f6A) (fT (fT (fT vG 7 FA) 1 gsA) 8 L8A) R C C (R + Gq) tA DA mA hBA (by first | assumption | decide | omega | rfl) (hTA) (by first | assumption | decide | omega | rfl) (by first | assumption | decide | omega | rfl) (by first | assumption | decide | omega | rfl) (by first | assumption | decide | omega | rfl) (by first | assumption | decide | omega | rfl) H.size) (cwV 2 hts gwsRX12_canKeep_3 rfl rfl rfl (by decide +kernel) ⟨by decide +kernel, by decide +kernel⟩) ⟨fun a U g mk q => by obtain ⟨q0, q1, qP, qK, qD⟩ := q; exact ⟨q0, q1, qP, va_K.moved (u := U) (U := U.calling g mk a) (Vm.Alike.refl U.vm) qK, qD⟩, va_recv hK hP (ci := 12) (q0 := 0) rfl rfl, fun U hU9 hW => ⟨rfl, by rw [hU9], by rw [hU9]; exact hP, va_K.moved hW.alike hK, hD.weaken (fun _ _ _ _ => trivial)⟩⟩ rfl rfl hl.1 rfl (lv_room (Nat.le_of_ble_eq_true rfl)) dX12_canKeep_115 ⟨by decide +kernel, by decide +kernel⟩) hS (fun q _ h => hFc q h) hFc (fun r115 u t9_ H1 locs ht hvm hw9 hB9 hz1 hk1 hS => ?_)
          obtain ⟨hP1, hD1⟩ := hB9
          rw [ht] at hP1
          have hP := hP1
          have hD := hD1.weaken (fun _ q _ h => hFc q.1 h)
          generalize H1 = H at hP hS ⊢
          have hP : va_P (dC, dI) vwCl (WR a k h0 (fT vi 11 qkA) (fT vj 12 qdA) (fT (fT (fT (fT (fT (fT vF 0 gA) 2 f2A) 3 f3A) 4 f4A) 5 f5A) 6 f6A) (fT (fT (fT vG 7 FA) 1 gsA) 8 L8A)) H := hP
          have hD : va_D A (WR a k h0 (fT vi 11 qkA) (fT vj 12 qdA) (fT (fT (fT (fT (fT (fT vF 0 gA) 2 f2A) 3 f3A) 4 f4A) 5 f5A) 6 f6A) (fT (fT (fT vG 7 FA) 1 gsA) 8 L8A)) := hD
          have f115_0 := hw9
          try dsimp only at f115_0
          refine lv_if_ge (tgt := 123) hx hb dX12_canKeep_118 (by decide) (fun c_118 => ?_) (fun c_118 => ?_)
          · have t_118 : (r115).toInt ≥ 0 := toI_ge c_118 rfl (by decide)
            refine lv_iconst (v := 0) hx hb dX12_canKeep_123 (by decide) ?_
            refine lv_istore_n hx hb dX12_canKeep_124 rfl hl (by decide) rfl (fun ls (hl : lv_has ls _ ([(3, .int 0), (0, .ref h0), (1, .int (nI (C - 1)))])) => ?_)
            have hl : lv_has _ _ ([(0, .ref h0), (1, .int (nI (C - 1))), (3, .int (nI 0))]) := lv_sub hl [1, 2, 0] rfl
            refine (fun (loop : ∀ (n9 : Nat) (i : Nat) (t1 : Nat → Nat → Int) (D1 : Int) (g1 : Nat → Int32) (f21 : Nat → Int32) (f31 : Nat → Int32) (f41 : Nat → Int32) (f51 : Nat → Int32) (gs1 : Nat → Int64) (F1 : Nat → Int64) (L81 : Nat → Int64) (qk1 : Int32) (qd1 : Int64) (m1 : Nat → Int) (H : Heap) (locs : List Loc) (ls : Array Slot), (Bg g1 m1) → (i ≤ R) → (Tab qk1 C (R + Gq) m1 F1 qd1 t1 D1) → (Sx C R (R + Gq) a_ t1 D1 f41 f51) → (∀ i, i < R → 0 ≤ t1 i C) → (0 ≤ t1 R C) → (∀ q, (q < 20 ∨ (26 < q ∧ q < 30) ∨ 30 + (R + Gq) * (C + 1) ≤ q) → m1 q = mg q) →  (R < i + n9) → va_P (dC, dI) vwCl (WR a k h0 (fT vi 11 qk1) (fT vj 12 qd1) (fT (fT (fT (fT (fT (fT vF 0 g1) 2 f21) 3 f31) 4 f41) 5 f51) 6 f6A) (fT (fT (fT vG 7 F1) 1 gs1) 8 L81)) H → va_D A (WR a k h0 (fT vi 11 qk1) (fT vj 12 qd1) (fT (fT (fT (fT (fT (fT vF 0 g1) 2 f21) 3 f31) 4 f41) 5 f51) 6 f6A) (fT (fT (fT vG 7 F1) 1 gs1) 8 L81)) → va_S A s.heap H locs → lv_has ls 5 [(0, .ref h0), (1, .int (nI (C - 1))), (3, .int (nI i))] → W p l e _ s m _ below meth c H locs 0 0 _ (F0 m 125 ls [])) => loop (R + 1) 0 tA DA gA f2A f3A f4A f5A gsA FA L8A qkA qdA mA _ _ _ (hBA) (by omega) (hTA) (hSA) (hGA) (by (have f9 := f115_0); omega) (hoA) (by omega) hP hD hS hl) ?_
            intro n9
            induction n9 with
            | zero => intro i t1 D1 g1 f21 f31 f41 f51 gs1 F1 L81 qk1 qd1 m1 H locs ls hB1 hi9 hT1 hS1 hG1 hRC ho hf9; exact False.elim (by omega)
            | succ n9 ih125_1 =>
              intro i t1 D1 g1 f21 f31 f41 f51 gs1 F1 L81 qk1 qd1 m1 H locs ls hB1 hi9 hT1 hS1 hG1 hRC ho hf125_1 hP hD hS hl
              refine lv_iload_n hx hb dX12_canKeep_125 rfl (lv_at hl 2 rfl) ?_
              refine lv_aload_n hx hb dX12_canKeep_126 rfl (lv_at hl 0 rfl) ?_
              refine va_get (D := (dC, dI)) (ci := 12) (v := .int (vi 6)) (C := RX12) (T := TX12) (N := 163) (fs := fM (vS a (fT vi 11 qk1) (fT vj 12 qd1))) hx hb hts iwsRX12_canKeep_in12 hown hK hP 0 rfl rfl 6 (by decide) (hts (.fieldLink RX12 399 "OptimaWorksModel" "rows" "I") (by decide +kernel)) (fun _ h9 => h9) rfl dX12_canKeep_127 ?_
              refine lv_topi (fun y7 hy7 => ?_)
              obtain rfl : (nI R) = y7 := (hy7.trans (hR)).symm
              refine lv_icmp_ge (tgt := 196) hx hb dX12_canKeep_130 (by decide) (fun c_130 => ?_) (fun c_130 => ?_)
              · have t_130 : ((i : Nat) : Int) ≥ ((R : Nat) : Int) := toI_ge c_130 (nI_toInt (by omega)) (nI_toInt (by omega))
                refine lv_iconst (v := 0) hx hb dX12_canKeep_196 (by decide) ?_
                refine lv_istore_n hx hb dX12_canKeep_197 rfl hl (by decide) rfl (fun ls (hl : lv_has ls _ ([(3, .int 0), (0, .ref h0), (1, .int (nI (C - 1)))])) => ?_)
                have hl : lv_has _ _ ([(0, .ref h0), (1, .int (nI (C - 1))), (3, .int (nI 0))]) := lv_sub hl [1, 2, 0] rfl
                refine (fun (loop : ∀ (n9 : Nat) (k6 : Nat) (f61 : Nat → Int32) (H : Heap) (locs : List Loc) (ls : Array Slot), (k6 ≤ C) →  (C < k6 + n9) → va_P (dC, dI) vwCl (WR a k h0 (fT vi 11 qk1) (fT vj 12 qd1) (fT (fT (fT (fT (fT (fT vF 0 g1) 2 f21) 3 f31) 4 f41) 5 f51) 6 f61) (fT (fT (fT vG 7 F1) 1 gs1) 8 L81)) H → va_D A (WR a k h0 (fT vi 11 qk1) (fT vj 12 qd1) (fT (fT (fT (fT (fT (fT vF 0 g1) 2 f21) 3 f31) 4 f41) 5 f51) 6 f61) (fT (fT (fT vG 7 F1) 1 gs1) 8 L81)) → va_S A s.heap H locs → lv_has ls 5 [(0, .ref h0), (1, .int (nI (C - 1))), (3, .int (nI k6))] → W p l e _ s m _ below meth c H locs 0 0 _ (F0 m 198 ls [])) => loop (C + 1) 0 f6A _ _ _ (by omega) (by omega) hP hD hS hl) ?_
                intro n9
                induction n9 with
                | zero => intro k6 f61 H locs ls hk6 hf9; exact False.elim (by omega)
                | succ n9 ih198_2 =>
                  intro k6 f61 H locs ls hk6 hf198_2 hP hD hS hl
                  refine lv_iload_n hx hb dX12_canKeep_198 rfl (lv_at hl 2 rfl) ?_
                  refine lv_aload_n hx hb dX12_canKeep_199 rfl (lv_at hl 0 rfl) ?_
                  refine va_get (D := (dC, dI)) (ci := 12) (v := .int (vi 5)) (C := RX12) (T := TX12) (N := 163) (fs := fM (vS a (fT vi 11 qk1) (fT vj 12 qd1))) hx hb hts iwsRX12_canKeep_in12 hown hK hP 0 rfl rfl 5 (by decide) (hts (.fieldLink RX12 396 "OptimaWorksModel" "columns" "I") (by decide +kernel)) (fun _ h9 => h9) rfl dX12_canKeep_200 ?_
                  refine lv_topi (fun y8 hy8 => ?_)
                  obtain rfl : (nI C) = y8 := (hy8.trans (hC)).symm
                  refine lv_icmp_ge (tgt := 242) hx hb dX12_canKeep_203 (by decide) (fun c_203 => ?_) (fun c_203 => ?_)
                  · have t_203 : ((k6 : Nat) : Int) ≥ ((C : Nat) : Int) := toI_ge c_203 (nI_toInt (by omega)) (nI_toInt (by omega))
                    refine lv_iconst (v := 1) hx hb dX12_canKeep_242 (by decide) ?_
                    refine W.widen (k := 0) (n := 0) (by decide +kernel) (by decide +kernel) ?_
                    exact W.zret (v := 1) hx hb hr rfl (fun t9_ ht hW => ⟨⟨1, (g1, f21, f31, f41, f51, f61, gs1, F1, L81, qk1, qd1, m1, t1, D1), rfl, by (try dsimp only); exact Or.inr ⟨rfl, hB1, hT1, hS1, hG1, ho⟩, by rw [ht]; exact hP, hD⟩, hS.F ht⟩) hS.2.2 dX12_canKeep_243
                  · have t_203 : ¬ ((k6 : Nat) : Int) ≥ ((C : Nat) : Int) := toI_nge c_203 (nI_toInt (by omega)) (nI_toInt (by omega))
                    refine lv_aload_n hx hb dX12_canKeep_206 rfl (lv_at hl 0 rfl) ?_
                    refine va_get (D := (dC, dI)) (ci := 12) (v := .ref (a 6)) (C := RX12) (T := TX12) (N := 163) (fs := fM (vS a (fT vi 11 qk1) (fT vj 12 qd1))) hx hb hts iwsRX12_canKeep_in12 hown hK hP 0 rfl rfl 10 (by decide) (hts (.fieldLink RX12 29 "OptimaWorksModel" "still" "[Z") (by decide +kernel)) (fun _ h9 => h9) rfl dX12_canKeep_207 ?_
                    refine lv_iload_n hx hb dX12_canKeep_210 rfl (lv_at hl 2 rfl) ?_
                    refine lv_aload_n hx hb dX12_canKeep_211 rfl (lv_at hl 0 rfl) ?_
                    refine va_get (D := (dC, dI)) (ci := 12) (v := .ref (a 6)) (C := RX12) (T := TX12) (N := 163) (fs := fM (vS a (fT vi 11 qk1) (fT vj 12 qd1))) hx hb hts iwsRX12_canKeep_in12 hown hK hP 0 rfl rfl 10 (by decide) (hts (.fieldLink RX12 29 "OptimaWorksModel" "still" "[Z") (by decide +kernel)) (fun _ h9 => h9) rfl dX12_canKeep_212 ?_
                    refine lv_iload_n hx hb dX12_canKeep_215 rfl (lv_at hl 2 rfl) ?_
                    refine va_zald (cA := k 6) (n := 46) (f := f61) hx hb hK hP 7 6 (WR_get 6 (by decide)) (TR_get 6 (by decide)) (vp_in_nI (show k6 < 46 by omega) (by omega)) dX12_canKeep_216 ?_
                    refine lv_topi (fun y9 hy9 => ?_)
                    obtain rfl : (f61 k6) = y9 := (hy9.trans (by rw [nI_clamp (by omega)])).symm
                    refine lv_if_ne (tgt := 230) hx hb dX12_canKeep_217 (by decide) (fun c_217 => ?_) (fun c_217 => ?_)
                    · have t_217 : ((f61 k6)).toInt ≠ 0 := toI_ne c_217 rfl (by decide)
                      refine lv_iconst (v := 1) hx hb dX12_canKeep_230 (by decide) ?_
                      refine lv_goto (tgt := 235) hx hb dX12_canKeep_231 (by decide) ?_
                      refine va_zast (cA := k 6) (n := 46) (f := f61) hx hb hK hP hD hS 7 6 (WR_get 6 (by decide)) (TR_get 6 (by decide)) (vp_in_nI (show k6 < 46 by omega) (by omega)) dX12_canKeep_235 (fun H locs hP hD hS => ?_)
                      have e9 : fT (fT (fT (fT (fT (fT vF 0 g1) 2 f21) 3 f31) 4 f41) 5 f51) 6 (upd f61 ((nI k6)).toNatClampNeg (vp_nar FieldType.boolean 1)) = fT (fT (fT (fT (fT (fT (fT vF 0 g1) 2 f21) 3 f31) 4 f41) 5 f51) 6 f61) 6 (upd f61 ((nI k6)).toNatClampNeg (vp_nar FieldType.boolean 1)) := (fT_sm _ _ _ _).symm
                      have hP : va_P (dC, dI) vwCl (WR a k h0 (fT vi 11 qk1) (fT vj 12 qd1) (fT (fT (fT (fT (fT (fT vF 0 g1) 2 f21) 3 f31) 4 f41) 5 f51) 6 (upd f61 ((nI k6)).toNatClampNeg (vp_nar FieldType.boolean 1))) (fT (fT (fT vG 7 F1) 1 gs1) 8 L81)) H := by rw [e9, ← WR_F 6 (by decide) _ rfl]; exact hP
                      have hD : va_D A (WR a k h0 (fT vi 11 qk1) (fT vj 12 qd1) (fT (fT (fT (fT (fT (fT vF 0 g1) 2 f21) 3 f31) 4 f41) 5 f51) 6 (upd f61 ((nI k6)).toNatClampNeg (vp_nar FieldType.boolean 1))) (fT (fT (fT vG 7 F1) 1 gs1) 8 L81)) := by rw [e9, ← WR_F 6 (by decide) _ rfl]; exact hD
                      clear e9
                      refine lv_iinc (v := (nI (k6 + 1))) hx hb dX12_canKeep_236 hl (k := 2) rfl (nI_add k6 1) (by decide) rfl (fun ls (hl : lv_has ls _ ([(3, .int (nI (k6 + 1))), (0, .ref h0), (1, .int (nI (C - 1)))])) => ?_)
                      refine lv_goto (tgt := 198) hx hb dX12_canKeep_239 (by decide) ?_
                      have hl : lv_has _ _ ([(0, .ref h0), (1, .int (nI (C - 1))), (3, .int (nI (k6 + 1)))]) := lv_sub hl [1, 2, 0] rfl
                      exact ih198_2 (k6 + 1) (upd f61 ((nI k6)).toNatClampNeg (vp_nar FieldType.boolean 1)) _ _ _ (by omega) (by omega) hP hD hS hl
                    · have t_217 : ((f61 k6)).toInt = 0 := toI_nne c_217 rfl (by decide)
                      refine lv_aload_n hx hb dX12_canKeep_220 rfl (lv_at hl 0 rfl) ?_
                      refine va_get (D := (dC, dI)) (ci := 12) (v := .ref (a 4)) (C := RX12) (T := TX12) (N := 163) (fs := fM (vS a (fT vi 11 qk1) (fT vj 12 qd1))) hx hb hts iwsRX12_canKeep_in12 hown hK hP 0 rfl rfl 8 (by decide) (hts (.fieldLink RX12 23 "OptimaWorksModel" "columnOf" "[I") (by decide +kernel)) (fun _ h9 => h9) rfl dX12_canKeep_221 ?_
                      refine lv_iload_n hx hb dX12_canKeep_224 rfl (lv_at hl 2 rfl) ?_
                      refine va_iald (cA := k 4) (n := 46) (f := f41) hx hb hK hP 5 4 (WR_get 4 (by decide)) (TR_get 4 (by decide)) (vp_in_nI (show k6 < 46 by omega) (by omega)) dX12_canKeep_225 ?_
                      refine lv_topi (fun y10 hy10 => ?_)
                      obtain rfl : (f41 k6) = y10 := (hy10.trans (by rw [nI_clamp (by omega)])).symm
                      refine lv_iload_n hx hb dX12_canKeep_226 rfl (lv_at hl 1 rfl) ?_
                      refine lv_icmp_ne (tgt := 234) hx hb dX12_canKeep_227 (by decide) (fun c_227 => ?_) (fun c_227 => ?_)
                      · have t_227 : ((f41 k6)).toInt ≠ (((C - 1) : Nat) : Int) := toI_ne c_227 rfl (nI_toInt (by omega))
                        refine lv_iconst (v := 0) hx hb dX12_canKeep_234 (by decide) ?_
                        refine va_zast (cA := k 6) (n := 46) (f := f61) hx hb hK hP hD hS 7 6 (WR_get 6 (by decide)) (TR_get 6 (by decide)) (vp_in_nI (show k6 < 46 by omega) (by omega)) dX12_canKeep_235 (fun H locs hP hD hS => ?_)
                        have e9 : fT (fT (fT (fT (fT (fT vF 0 g1) 2 f21) 3 f31) 4 f41) 5 f51) 6 (upd f61 ((nI k6)).toNatClampNeg (vp_nar FieldType.boolean 0)) = fT (fT (fT (fT (fT (fT (fT vF 0 g1) 2 f21) 3 f31) 4 f41) 5 f51) 6 f61) 6 (upd f61 ((nI k6)).toNatClampNeg (vp_nar FieldType.boolean 0)) := (fT_sm _ _ _ _).symm
                        have hP : va_P (dC, dI) vwCl (WR a k h0 (fT vi 11 qk1) (fT vj 12 qd1) (fT (fT (fT (fT (fT (fT vF 0 g1) 2 f21) 3 f31) 4 f41) 5 f51) 6 (upd f61 ((nI k6)).toNatClampNeg (vp_nar FieldType.boolean 0))) (fT (fT (fT vG 7 F1) 1 gs1) 8 L81)) H := by rw [e9, ← WR_F 6 (by decide) _ rfl]; exact hP
                        have hD : va_D A (WR a k h0 (fT vi 11 qk1) (fT vj 12 qd1) (fT (fT (fT (fT (fT (fT vF 0 g1) 2 f21) 3 f31) 4 f41) 5 f51) 6 (upd f61 ((nI k6)).toNatClampNeg (vp_nar FieldType.boolean 0))) (fT (fT (fT vG 7 F1) 1 gs1) 8 L81)) := by rw [e9, ← WR_F 6 (by decide) _ rfl]; exact hD
                        clear e9
                        refine lv_iinc (v := (nI (k6 + 1))) hx hb dX12_canKeep_236 hl (k := 2) rfl (nI_add k6 1) (by decide) rfl (fun ls (hl : lv_has ls _ ([(3, .int (nI (k6 + 1))), (0, .ref h0), (1, .int (nI (C - 1)))])) => ?_)
                        refine lv_goto (tgt := 198) hx hb dX12_canKeep_239 (by decide) ?_
                        have hl : lv_has _ _ ([(0, .ref h0), (1, .int (nI (C - 1))), (3, .int (nI (k6 + 1)))]) := lv_sub hl [1, 2, 0] rfl
                        exact ih198_2 (k6 + 1) (upd f61 ((nI k6)).toNatClampNeg (vp_nar FieldType.boolean 0)) _ _ _ (by omega) (by omega) hP hD hS hl
                      · have t_227 : ((f41 k6)).toInt = (((C - 1) : Nat) : Int) := toI_nne c_227 rfl (nI_toInt (by omega))
                        refine lv_iconst (v := 1) hx hb dX12_canKeep_230 (by decide) ?_
                        refine lv_goto (tgt := 235) hx hb dX12_canKeep_231 (by decide) ?_
                        refine va_zast (cA := k 6) (n := 46) (f := f61) hx hb hK hP hD hS 7 6 (WR_get 6 (by decide)) (TR_get 6 (by decide)) (vp_in_nI (show k6 < 46 by omega) (by omega)) dX12_canKeep_235 (fun H locs hP hD hS => ?_)
                        have e9 : fT (fT (fT (fT (fT (fT vF 0 g1) 2 f21) 3 f31) 4 f41) 5 f51) 6 (upd f61 ((nI k6)).toNatClampNeg (vp_nar FieldType.boolean 1)) = fT (fT (fT (fT (fT (fT (fT vF 0 g1) 2 f21) 3 f31) 4 f41) 5 f51) 6 f61) 6 (upd f61 ((nI k6)).toNatClampNeg (vp_nar FieldType.boolean 1)) := (fT_sm _ _ _ _).symm
                        have hP : va_P (dC, dI) vwCl (WR a k h0 (fT vi 11 qk1) (fT vj 12 qd1) (fT (fT (fT (fT (fT (fT vF 0 g1) 2 f21) 3 f31) 4 f41) 5 f51) 6 (upd f61 ((nI k6)).toNatClampNeg (vp_nar FieldType.boolean 1))) (fT (fT (fT vG 7 F1) 1 gs1) 8 L81)) H := by rw [e9, ← WR_F 6 (by decide) _ rfl]; exact hP
                        have hD : va_D A (WR a k h0 (fT vi 11 qk1) (fT vj 12 qd1) (fT (fT (fT (fT (fT (fT vF 0 g1) 2 f21) 3 f31) 4 f41) 5 f51) 6 (upd f61 ((nI k6)).toNatClampNeg (vp_nar FieldType.boolean 1))) (fT (fT (fT vG 7 F1) 1 gs1) 8 L81)) := by rw [e9, ← WR_F 6 (by decide) _ rfl]; exact hD
                        clear e9
                        refine lv_iinc (v := (nI (k6 + 1))) hx hb dX12_canKeep_236 hl (k := 2) rfl (nI_add k6 1) (by decide) rfl (fun ls (hl : lv_has ls _ ([(3, .int (nI (k6 + 1))), (0, .ref h0), (1, .int (nI (C - 1)))])) => ?_)
                        refine lv_goto (tgt := 198) hx hb dX12_canKeep_239 (by decide) ?_
                        have hl : lv_has _ _ ([(0, .ref h0), (1, .int (nI (C - 1))), (3, .int (nI (k6 + 1)))]) := lv_sub hl [1, 2, 0] rfl
                        exact ih198_2 (k6 + 1) (upd f61 ((nI k6)).toNatClampNeg (vp_nar FieldType.boolean 1)) _ _ _ (by omega) (by omega) hP hD hS hl
              · have t_130 : ¬ ((i : Nat) : Int) ≥ ((R : Nat) : Int) := toI_nge c_130 (nI_toInt (by omega)) (nI_toInt (by omega))
                refine lv_aload_n hx hb dX12_canKeep_133 rfl (lv_at hl 0 rfl) ?_
                refine va_get (D := (dC, dI)) (ci := 12) (v := .ref (a 5)) (C := RX12) (T := TX12) (N := 163) (fs := fM (vS a (fT vi 11 qk1) (fT vj 12 qd1))) hx hb hts iwsRX12_canKeep_in12 hown hK hP 0 rfl rfl 9 (by decide) (hts (.fieldLink RX12 26 "OptimaWorksModel" "rowOf" "[I") (by decide +kernel)) (fun _ h9 => h9) rfl dX12_canKeep_134 ?_
                refine lv_iload_n hx hb dX12_canKeep_137 rfl (lv_at hl 2 rfl) ?_
                refine va_iald (cA := k 5) (n := 60) (f := f51) hx hb hK hP 6 5 (WR_get 5 (by decide)) (TR_get 5 (by decide)) (vp_in_nI (show i < 60 by omega) (by omega)) dX12_canKeep_138 ?_
                refine lv_topi (fun y11 hy11 => ?_)
                obtain rfl : (f51 i) = y11 := (hy11.trans (by rw [nI_clamp (by omega)])).symm
                refine lv_iload_n hx hb dX12_canKeep_139 rfl (lv_at hl 1 rfl) ?_
                refine lv_icmp_eq (tgt := 146) hx hb dX12_canKeep_140 (by decide) (fun c_140 => ?_) (fun c_140 => ?_)
                · have t_140 : ((f51 i)).toInt = (((C - 1) : Nat) : Int) := toI_eq c_140 rfl (nI_toInt (by omega))
                  refine lv_iconst (v := 0) hx hb dX12_canKeep_146 (by decide) ?_
                  refine lv_istore hx hb dX12_canKeep_147 hl (by decide) rfl (fun ls (hl : lv_has ls _ ([(4, .int 0), (0, .ref h0), (1, .int (nI (C - 1))), (3, .int (nI i))])) => ?_)
                  have hl : lv_has _ _ ([(0, .ref h0), (1, .int (nI (C - 1))), (3, .int (nI i)), (4, .int (nI 0))]) := lv_sub hl [1, 2, 3, 0] rfl
                  refine (fun (loop : ∀ (n9 : Nat) (cc : Nat) (H : Heap) (locs : List Loc) (ls : Array Slot), (cc ≤ C) →  (C < cc + n9) → va_P (dC, dI) vwCl (WR a k h0 (fT vi 11 qk1) (fT vj 12 qd1) (fT (fT (fT (fT (fT (fT vF 0 g1) 2 f21) 3 f31) 4 f41) 5 f51) 6 f6A) (fT (fT (fT vG 7 F1) 1 gs1) 8 L81)) H → va_D A (WR a k h0 (fT vi 11 qk1) (fT vj 12 qd1) (fT (fT (fT (fT (fT (fT vF 0 g1) 2 f21) 3 f31) 4 f41) 5 f51) 6 f6A) (fT (fT (fT vG 7 F1) 1 gs1) 8 L81)) → va_S A s.heap H locs → lv_has ls 5 [(0, .ref h0), (1, .int (nI (C - 1))), (3, .int (nI i)), (4, .int (nI cc))] → W p l e _ s m _ below meth c H locs 0 0 _ (F0 m 149 ls [])) => loop (C + 1) 0 _ _ _ (by omega) (by omega) hP hD hS hl) ?_
                  intro n9
                  induction n9 with
                  | zero => intro cc H locs ls hcc hf9; exact False.elim (by omega)
                  | succ n9 ih149_3 =>
                    intro cc H locs ls hcc hf149_3 hP hD hS hl
                    refine lv_iload hx hb dX12_canKeep_149 (lv_at hl 3 rfl) ?_
                    refine lv_aload_n hx hb dX12_canKeep_151 rfl (lv_at hl 0 rfl) ?_
                    refine va_get (D := (dC, dI)) (ci := 12) (v := .int (vi 5)) (C := RX12) (T := TX12) (N := 163) (fs := fM (vS a (fT vi 11 qk1) (fT vj 12 qd1))) hx hb hts iwsRX12_canKeep_in12 hown hK hP 0 rfl rfl 5 (by decide) (hts (.fieldLink RX12 396 "OptimaWorksModel" "columns" "I") (by decide +kernel)) (fun _ h9 => h9) rfl dX12_canKeep_152 ?_
                    refine lv_topi (fun y12 hy12 => ?_)
                    obtain rfl : (nI C) = y12 := (hy12.trans (hC)).symm
                    refine lv_icmp_ge (tgt := 174) hx hb dX12_canKeep_155 (by decide) (fun c_155 => ?_) (fun c_155 => ?_)
                    · have t_155 : ((cc : Nat) : Int) ≥ ((C : Nat) : Int) := toI_ge c_155 (nI_toInt (by omega)) (nI_toInt (by omega))
                      refine lv_iload hx hb dX12_canKeep_174 (lv_at hl 3 rfl) ?_
                      refine lv_aload_n hx hb dX12_canKeep_176 rfl (lv_at hl 0 rfl) ?_
                      refine va_get (D := (dC, dI)) (ci := 12) (v := .int (vi 5)) (C := RX12) (T := TX12) (N := 163) (fs := fM (vS a (fT vi 11 qk1) (fT vj 12 qd1))) hx hb hts iwsRX12_canKeep_in12 hown hK hP 0 rfl rfl 5 (by decide) (hts (.fieldLink RX12 396 "OptimaWorksModel" "columns" "I") (by decide +kernel)) (fun _ h9 => h9) rfl dX12_canKeep_177 ?_
                      refine lv_topi (fun y13 hy13 => ?_)
                      obtain rfl : (nI C) = y13 := (hy13.trans (hC)).symm
                      refine lv_icmp_ge (tgt := 190) hx hb dX12_canKeep_180 (by decide) (fun c_180 => ?_) (fun c9 => False.elim (by have t9 : ¬ ((cc : Nat) : Int) ≥ ((C : Nat) : Int) := toI_nge c9 (nI_toInt (by omega)) (nI_toInt (by omega)); omega))
                      have t_180 : ((cc : Nat) : Int) ≥ ((C : Nat) : Int) := toI_ge c_180 (nI_toInt (by omega)) (nI_toInt (by omega))
                      refine lv_iinc (v := (nI (i + 1))) hx hb dX12_canKeep_190 hl (k := 2) rfl (nI_add i 1) (by decide) rfl (fun ls (hl : lv_has ls _ ([(3, .int (nI (i + 1))), (0, .ref h0), (1, .int (nI (C - 1))), (4, .int (nI cc))])) => ?_)
                      refine lv_goto (tgt := 125) hx hb dX12_canKeep_193 (by decide) ?_
                      have hl : lv_has _ _ ([(0, .ref h0), (1, .int (nI (C - 1))), (3, .int (nI (i + 1)))]) := lv_sub hl [1, 2, 0] rfl
                      exact ih125_1 (i + 1) t1 D1 g1 f21 f31 f41 f51 gs1 F1 L81 qk1 qd1 m1 _ _ _ (hB1) (by omega) (hT1) (hS1) (hG1) (hRC) (ho) (by omega) hP hD hS hl
                    · have t_155 : ¬ ((cc : Nat) : Int) ≥ ((C : Nat) : Int) := toI_nge c_155 (nI_toInt (by omega)) (nI_toInt (by omega))
                      refine lv_aload_n hx hb dX12_canKeep_158 rfl (lv_at hl 0 rfl) ?_
                      refine lv_iload_n hx hb dX12_canKeep_159 rfl (lv_at hl 2 rfl) ?_
                      refine lv_iload hx hb dX12_canKeep_160 (lv_at hl 3 rfl) ?_
                      have hFc := allFree hD hS hA
                      refine va_calli (va_runV (As := [.int (nI i), .int (nI cc)]) (rest := []) ⟨hx, hb, hml, hown, hts⟩ (r_X12_signAt l dC dI a k h0 (fT vi 11 qk1) (fT vj 12 qd1) (fT (fT (fT (fT (fT (fT vF 0 g1) 2 f21) 3 f31) 4 f41) 5 f51) 6 f6A) (fT (fT (fT vG 7 F1) 1 gs1) 8 L81) i cc C (R + Gq) t1 D1 m1 hB1 (by first | assumption | decide | omega | rfl) (hT1) (by first | assumption | decide | omega | rfl) (by first | assumption | decide | omega | rfl) (by first | assumption | decide | omega | rfl) (by first | assumption | decide | omega | rfl) (by first | assumption | decide | omega | rfl) H.size) (cwV 2 hts gwsRX12_canKeep_3 rfl rfl rfl (by decide +kernel) ⟨by decide +kernel, by decide +kernel⟩) ⟨fun a U g mk q => by obtain ⟨q0, q1, qP, qK, qD⟩ := q; exact ⟨q0, q1, qP, va_K.moved (u := U) (U := U.calling g mk a) (Vm.Alike.refl U.vm) qK, qD⟩, va_recv hK hP (ci := 12) (q0 := 0) rfl rfl, fun U hU9 hW => ⟨rfl, by rw [hU9], by rw [hU9]; exact hP, va_K.moved hW.alike hK, hD.weaken (fun _ _ _ _ => trivial)⟩⟩ rfl rfl hl.1 rfl (lv_room (Nat.le_of_ble_eq_true rfl)) dX12_canKeep_162 ⟨by decide +kernel, by decide +kernel⟩) hS (fun q _ h => hFc q h) hFc (fun r162 u t9_ H1 locs ht hvm hw9 hB9 hz1 hk1 hS => ?_)
                      obtain ⟨hP1, hD1⟩ := hB9
                      rw [ht] at hP1
                      have hP := hP1
                      have hD := hD1.weaken (fun _ q _ h => hFc q.1 h)
                      generalize H1 = H at hP hS ⊢
                      have hP : va_P (dC, dI) vwCl (WR a k h0 (fT vi 11 qk1) (fT vj 12 qd1) (fT (fT (fT (fT (fT (fT vF 0 g1) 2 f21) 3 f31) 4 f41) 5 f51) 6 f6A) (fT (fT (fT vG 7 F1) 1 gs1) 8 L81)) H := hP
                      have hD : va_D A (WR a k h0 (fT vi 11 qk1) (fT vj 12 qd1) (fT (fT (fT (fT (fT (fT vF 0 g1) 2 f21) 3 f31) 4 f41) 5 f51) 6 f6A) (fT (fT (fT vG 7 F1) 1 gs1) 8 L81)) := hD
                      have f162_0 := hw9
                      try dsimp only at f162_0
                      refine lv_if_ne (tgt := 174) hx hb dX12_canKeep_165 (by decide) (fun c_165 => ?_) (fun c_165 => ?_)
                      · have t_165 : (r162).toInt ≠ 0 := toI_ne c_165 rfl (by decide)
                        refine lv_iload hx hb dX12_canKeep_174 (lv_at hl 3 rfl) ?_
                        refine lv_aload_n hx hb dX12_canKeep_176 rfl (lv_at hl 0 rfl) ?_
                        refine va_get (D := (dC, dI)) (ci := 12) (v := .int (vi 5)) (C := RX12) (T := TX12) (N := 163) (fs := fM (vS a (fT vi 11 qk1) (fT vj 12 qd1))) hx hb hts iwsRX12_canKeep_in12 hown hK hP 0 rfl rfl 5 (by decide) (hts (.fieldLink RX12 396 "OptimaWorksModel" "columns" "I") (by decide +kernel)) (fun _ h9 => h9) rfl dX12_canKeep_177 ?_
                        refine lv_topi (fun y14 hy14 => ?_)
                        obtain rfl : (nI C) = y14 := (hy14.trans (hC)).symm
                        refine lv_icmp_ge (tgt := 190) hx hb dX12_canKeep_180 (by decide) (fun c9 => False.elim (by have t9 : ((cc : Nat) : Int) ≥ ((C : Nat) : Int) := toI_ge c9 (nI_toInt (by omega)) (nI_toInt (by omega)); omega)) (fun c_180 => ?_)
                        have t_180 : ¬ ((cc : Nat) : Int) ≥ ((C : Nat) : Int) := toI_nge c_180 (nI_toInt (by omega)) (nI_toInt (by omega))
                        have hp8 : t1 i cc ≠ 0 := by (have f9 := f162_0); omega
                        have hz8 := hS1.help0 (by omega) (by omega) (by omega) haR (by omega) c_140 hG1 hRC
                        refine lv_aload_n hx hb dX12_canKeep_183 rfl (lv_at hl 0 rfl) ?_
                        refine lv_iload_n hx hb dX12_canKeep_184 rfl (lv_at hl 2 rfl) ?_
                        refine lv_iload hx hb dX12_canKeep_185 (lv_at hl 3 rfl) ?_
                        have hFc := allFree hD hS hA
                        refine va_callv (va_runV (As := [.int (nI i), .int (nI cc)]) (rest := []) ⟨hx, hb, hml, hown, hts⟩ (r_X12_pivot l dC dI a k h0 (fT vi 11 qk1) (fT vj 12 qd1) (fT (fT (fT (fT (fT (fT vF 0 g1) 2 f21) 3 f31) 4 f41) 5 f51) 6 f6A) (fT (fT (fT vG 7 F1) 1 gs1) 8 L81) i cc C R Gq t1 D1 m1 hB1 (by first | assumption | decide | omega | rfl) (by first | assumption | decide | omega | rfl) (by first | assumption | decide | omega | rfl) (by first | assumption | decide | omega | rfl) (by first | assumption | decide | omega | rfl) (by first | assumption | decide | omega | rfl) (hT1) (by first | assumption | decide | omega | rfl) (by first | assumption | decide | omega | rfl) (hS1.1.2.1) (hp8) ((hsm _ _ _ _ hS1.1).2) H.size) (cwV 2 hts gwsRX12_canKeep_1 rfl rfl rfl (by decide +kernel) ⟨by decide +kernel, by decide +kernel⟩) ⟨fun a U g mk q => by obtain ⟨q0, q1, qP, qK, qD⟩ := q; exact ⟨q0, q1, qP, va_K.moved (u := U) (U := U.calling g mk a) (Vm.Alike.refl U.vm) qK, qD⟩, va_recv hK hP (ci := 12) (q0 := 0) rfl rfl, fun U hU9 hW => ⟨rfl, by rw [hU9], by rw [hU9]; exact hP, va_K.moved hW.alike hK, hD.weaken (fun _ _ _ _ => trivial)⟩⟩ rfl rfl hl.1 rfl (lv_room (Nat.le_of_ble_eq_true rfl)) dX12_canKeep_187 ⟨by decide +kernel, by decide +kernel⟩) hS (fun q _ h => hFc q h) hFc (fun u t9_ H1 locs ht hvm hw9 hB9 hz1 hk1 hS => ?_)
                        obtain ⟨g187, f2w187, f3w187, gs187, qk187, qd187, F187, L8187, m2187⟩ := u
                        try dsimp only at hw9 hB9
                        obtain ⟨hP1, hD1⟩ := hB9
                        rw [ht] at hP1
                        have hP := hP1
                        have hD := hD1.weaken (fun _ q _ h => hFc q.1 h)
                        generalize H1 = H at hP hS ⊢
                        have hP : va_P (dC, dI) vwCl (WR a k h0 (fT (fT vi 11 qk1) 11 qk187) (fT (fT vj 12 qd1) 12 qd187) (fT (fT (fT (fT (fT (fT (fT (fT (fT (fT (fT vF 0 g1) 2 f21) 3 f31) 4 f41) 5 f51) 6 f6A) 0 g187) 2 f2w187) 3 f3w187) 4 (upd f41 (nI cc).toNatClampNeg (f51 i))) 5 (upd f51 (nI i).toNatClampNeg (f41 cc))) (fT (fT (fT (fT (fT (fT vG 7 F1) 1 gs1) 8 L81) 8 L8187) 7 F187) 1 gs187)) H := hP
                        have hD : va_D A (WR a k h0 (fT (fT vi 11 qk1) 11 qk187) (fT (fT vj 12 qd1) 12 qd187) (fT (fT (fT (fT (fT (fT (fT (fT (fT (fT (fT vF 0 g1) 2 f21) 3 f31) 4 f41) 5 f51) 6 f6A) 0 g187) 2 f2w187) 3 f3w187) 4 (upd f41 (nI cc).toNatClampNeg (f51 i))) 5 (upd f51 (nI i).toNatClampNeg (f41 cc))) (fT (fT (fT (fT (fT (fT vG 7 F1) 1 gs1) 8 L81) 8 L8187) 7 F187) 1 gs187)) := hD
                        have e9 : fT vi 11 qk187 = fT (fT vi 11 qk1) 11 qk187 := (fT_sm _ _ _ _).symm
                        rw [← e9] at hP hD
                        clear e9
                        have e9 : fT vj 12 qd187 = fT (fT vj 12 qd1) 12 qd187 := (fT_sm _ _ _ _).symm
                        rw [← e9] at hP hD
                        clear e9
                        have e9 : fT (fT (fT (fT (fT (fT vF 0 g187) 2 f2w187) 3 f3w187) 4 (upd f41 (nI cc).toNatClampNeg (f51 i))) 5 (upd f51 (nI i).toNatClampNeg (f41 cc))) 6 f6A = fT (fT (fT (fT (fT (fT (fT (fT (fT (fT (fT vF 0 g1) 2 f21) 3 f31) 4 f41) 5 f51) 6 f6A) 0 g187) 2 f2w187) 3 f3w187) 4 (upd f41 (nI cc).toNatClampNeg (f51 i))) 5 (upd f51 (nI i).toNatClampNeg (f41 cc)) := ((congrArg (fun g9 => fT (fT (fT (fT g9 2 f2w187) 3 f3w187) 4 (upd f41 (nI cc).toNatClampNeg (f51 i))) 5 (upd f51 (nI i).toNatClampNeg (f41 cc))) ((fT_sw _ _ _ (Nat.ne_of_beq_eq_false rfl)).trans (congrArg (fun g9 => fT g9 6 f6A) ((fT_sw _ _ _ (Nat.ne_of_beq_eq_false rfl)).trans (congrArg (fun g9 => fT g9 5 f51) ((fT_sw _ _ _ (Nat.ne_of_beq_eq_false rfl)).trans (congrArg (fun g9 => fT g9 4 f41) ((fT_sw _ _ _ (Nat.ne_of_beq_eq_false rfl)).trans (congrArg (fun g9 => fT g9 3 f31) ((fT_sw _ _ _ (Nat.ne_of_beq_eq_false rfl)).trans (congrArg (fun g9 => fT g9 2 f21) (fT_sm _ _ _ _)))))))))))).trans ((congrArg (fun g9 => fT (fT (fT g9 3 f3w187) 4 (upd f41 (nI cc).toNatClampNeg (f51 i))) 5 (upd f51 (nI i).toNatClampNeg (f41 cc))) ((fT_sw _ _ _ (Nat.ne_of_beq_eq_false rfl)).trans (congrArg (fun g9 => fT g9 6 f6A) ((fT_sw _ _ _ (Nat.ne_of_beq_eq_false rfl)).trans (congrArg (fun g9 => fT g9 5 f51) ((fT_sw _ _ _ (Nat.ne_of_beq_eq_false rfl)).trans (congrArg (fun g9 => fT g9 4 f41) ((fT_sw _ _ _ (Nat.ne_of_beq_eq_false rfl)).trans (congrArg (fun g9 => fT g9 3 f31) (fT_sm _ _ _ _)))))))))).trans ((congrArg (fun g9 => fT (fT g9 4 (upd f41 (nI cc).toNatClampNeg (f51 i))) 5 (upd f51 (nI i).toNatClampNeg (f41 cc))) ((fT_sw _ _ _ (Nat.ne_of_beq_eq_false rfl)).trans (congrArg (fun g9 => fT g9 6 f6A) ((fT_sw _ _ _ (Nat.ne_of_beq_eq_false rfl)).trans (congrArg (fun g9 => fT g9 5 f51) ((fT_sw _ _ _ (Nat.ne_of_beq_eq_false rfl)).trans (congrArg (fun g9 => fT g9 4 f41) (fT_sm _ _ _ _)))))))).trans ((congrArg (fun g9 => fT g9 5 (upd f51 (nI i).toNatClampNeg (f41 cc))) ((fT_sw _ _ _ (Nat.ne_of_beq_eq_false rfl)).trans (congrArg (fun g9 => fT g9 6 f6A) ((fT_sw _ _ _ (Nat.ne_of_beq_eq_false rfl)).trans (congrArg (fun g9 => fT g9 5 f51) (fT_sm _ _ _ _)))))).trans ((fT_sw _ _ _ (Nat.ne_of_beq_eq_false rfl)).trans (congrArg (fun g9 => fT g9 6 f6A) (fT_sm _ _ _ _))))))).symm
                        rw [← e9] at hP hD
                        clear e9
                        have e9 : fT (fT (fT vG 7 F187) 1 gs187) 8 L8187 = fT (fT (fT (fT (fT (fT vG 7 F1) 1 gs1) 8 L81) 8 L8187) 7 F187) 1 gs187 := ((congrArg (fun g9 => fT (fT g9 7 F187) 1 gs187) (fT_sm _ _ _ _)).trans ((congrArg (fun g9 => fT g9 1 gs187) ((fT_sw _ _ _ (Nat.ne_of_beq_eq_false rfl)).trans (congrArg (fun g9 => fT g9 8 L8187) ((fT_sw _ _ _ (Nat.ne_of_beq_eq_false rfl)).trans (congrArg (fun g9 => fT g9 1 gs1) (fT_sm _ _ _ _)))))).trans ((fT_sw _ _ _ (Nat.ne_of_beq_eq_false rfl)).trans (congrArg (fun g9 => fT g9 8 L8187) (fT_sm _ _ _ _))))).symm
                        rw [← e9] at hP hD
                        clear e9
                        have hP : va_P (dC, dI) vwCl (WR a k h0 (fT vi 11 qk187) (fT vj 12 qd187) (fT (fT (fT (fT (fT (fT vF 0 g187) 2 f2w187) 3 f3w187) 4 (upd f41 (nI cc).toNatClampNeg (f51 i))) 5 (upd f51 (nI i).toNatClampNeg (f41 cc))) 6 f6A) (fT (fT (fT vG 7 F187) 1 gs187) 8 L8187)) H := hP
                        have hD : va_D A (WR a k h0 (fT vi 11 qk187) (fT vj 12 qd187) (fT (fT (fT (fT (fT (fT vF 0 g187) 2 f2w187) 3 f3w187) 4 (upd f41 (nI cc).toNatClampNeg (f51 i))) 5 (upd f51 (nI i).toNatClampNeg (f41 cc))) 6 f6A) (fT (fT (fT vG 7 F187) 1 gs187) 8 L8187)) := hD
                        obtain ⟨f187_0, f187_1, f187_2⟩ := hw9
                        obtain ⟨hS9, -⟩ := hS1.next (r := i) (c := cc) (by omega) (by omega) (by omega) (by omega) (by omega) (sgI_or _) (sgI_pos hp8)
                        have hG9 : ∀ k, k < R → 0 ≤ nvT i cc (sgI (t1 i cc)) t1 D1 k C := fun k hk => hS1.flat (by omega) (by omega) (by omega) hp8 hz8.1 (by omega) (hG1 k hk)
                        have hRC9 := hS1.flat (i := R) (show i < R by omega) (by omega) (show cc < C by omega) hp8 hz8.1 (by omega) hRC
                        refine lv_iinc (v := (nI (i + 1))) hx hb dX12_canKeep_190 hl (k := 2) rfl (nI_add i 1) (by decide) rfl (fun ls (hl : lv_has ls _ ([(3, .int (nI (i + 1))), (0, .ref h0), (1, .int (nI (C - 1))), (4, .int (nI cc))])) => ?_)
                        refine lv_goto (tgt := 125) hx hb dX12_canKeep_193 (by decide) ?_
                        have hl : lv_has _ _ ([(0, .ref h0), (1, .int (nI (C - 1))), (3, .int (nI (i + 1)))]) := lv_sub hl [1, 2, 0] rfl
                        exact ih125_1 (i + 1) (nvT i cc (sgI (t1 i cc)) t1 D1) (sgI (t1 i cc) * t1 i cc) g187 f2w187 f3w187 (upd f41 (nI cc).toNatClampNeg (f51 i)) (upd f51 (nI i).toNatClampNeg (f41 cc)) gs187 F187 L8187 qk187 qd187 m2187 _ _ _ (f187_0) (by omega) (f187_1) (hS9) (hG9) (hRC9) (fun q hq => by (rw [f187_2 _ (by omega)]); exact ho q hq) (by omega) hP hD hS hl
                      · have t_165 : (r162).toInt = 0 := toI_nne c_165 rfl (by decide)
                        refine lv_iinc (v := (nI (cc + 1))) hx hb dX12_canKeep_168 hl (k := 3) rfl (nI_add cc 1) (by decide) rfl (fun ls (hl : lv_has ls _ ([(4, .int (nI (cc + 1))), (0, .ref h0), (1, .int (nI (C - 1))), (3, .int (nI i))])) => ?_)
                        refine lv_goto (tgt := 149) hx hb dX12_canKeep_171 (by decide) ?_
                        have hl : lv_has _ _ ([(0, .ref h0), (1, .int (nI (C - 1))), (3, .int (nI i)), (4, .int (nI (cc + 1)))]) := lv_sub hl [1, 2, 3, 0] rfl
                        exact ih149_3 (cc + 1) _ _ _ (by omega) (by omega) hP hD hS hl
                · have t_140 : ¬ ((f51 i)).toInt = (((C - 1) : Nat) : Int) := toI_neq c_140 rfl (nI_toInt (by omega))
                  refine lv_goto (tgt := 190) hx hb dX12_canKeep_143 (by decide) ?_
                  refine lv_iinc (v := (nI (i + 1))) hx hb dX12_canKeep_190 hl (k := 2) rfl (nI_add i 1) (by decide) rfl (fun ls (hl : lv_has ls _ ([(3, .int (nI (i + 1))), (0, .ref h0), (1, .int (nI (C - 1)))])) => ?_)
                  refine lv_goto (tgt := 125) hx hb dX12_canKeep_193 (by decide) ?_
                  have hl : lv_has _ _ ([(0, .ref h0), (1, .int (nI (C - 1))), (3, .int (nI (i + 1)))]) := lv_sub hl [1, 2, 0] rfl
                  exact ih125_1 (i + 1) t1 D1 g1 f21 f31 f41 f51 gs1 F1 L81 qk1 qd1 m1 _ _ _ (hB1) (by omega) (hT1) (hS1) (hG1) (hRC) (ho) (by omega) hP hD hS hl
          · have t_118 : ¬ (r115).toInt ≥ 0 := toI_nge c_118 rfl (by decide)
            refine lv_iconst (v := 0) hx hb dX12_canKeep_121 (by decide) ?_
            refine W.widen (k := 0) (n := 0) (by decide +kernel) (by decide +kernel) ?_
            exact W.zret (v := 0) hx hb hr rfl (fun t9_ ht hW => ⟨⟨0, (gA, f2A, f3A, f4A, f5A, f6A, gsA, FA, L8A, qkA, qdA, mA, tA, DA), rfl, by (try dsimp only); exact Or.inl ⟨rfl, hBA, hTA, hSA, hGA, hoA⟩, by rw [ht]; exact hP, hD⟩, hS.F ht⟩) hS.2.2 dX12_canKeep_122
      · have t_79 : (lq).toInt = -1 := toI_nne c_79 rfl (by decide)
        refine lv_aload_n hx hb dX12_canKeep_82 rfl (lv_at hl 0 rfl) ?_
        refine va_get (D := (dC, dI)) (ci := 12) (v := .ref (a 6)) (C := RX12) (T := TX12) (N := 163) (fs := fM (vS a (fT vi 11 qk74) (fT vj 12 1))) hx hb hts iwsRX12_canKeep_in12 hown hK hP 0 rfl rfl 10 (by decide) (hts (.fieldLink RX12 29 "OptimaWorksModel" "still" "[Z") (by decide +kernel)) (fun _ h9 => h9) rfl dX12_canKeep_83 ?_
        refine lv_iload_n hx hb dX12_canKeep_86 rfl (lv_at hl 1 rfl) ?_
        refine lv_iconst (v := 1) hx hb dX12_canKeep_87 (by decide) ?_
        refine va_zast (cA := k 6) (n := 46) (f := (vF 6)) hx hb hK hP hD hS 7 6 (WR_get 6 (by decide)) (TR_get 6 (by decide)) (vp_in_nI (show (C - 1) < 46 by omega) (by omega)) dX12_canKeep_88 (fun H locs hP hD hS => ?_)
        have hP : va_P (dC, dI) vwCl (WR a k h0 (fT vi 11 qk74) (fT vj 12 1) (fT vF 6 (upd (vF 6) ((nI (C - 1))).toNatClampNeg (vp_nar FieldType.boolean 1))) (fT vG 7 F74)) H := by rw [← WR_F 6 (by decide) _ rfl]; exact hP
        have hD : va_D A (WR a k h0 (fT vi 11 qk74) (fT vj 12 1) (fT vF 6 (upd (vF 6) ((nI (C - 1))).toNatClampNeg (vp_nar FieldType.boolean 1))) (fT vG 7 F74)) := by rw [← WR_F 6 (by decide) _ rfl]; exact hD
        refine lv_iconst (v := 1) hx hb dX12_canKeep_89 (by decide) ?_
        refine W.widen (k := 0) (n := 0) (by decide +kernel) (by decide +kernel) ?_
        have e9 : fT (fT (fT (fT (fT (fT vF 0 (vF 0)) 2 (vF 2)) 3 (vF 3)) 4 (vF 4)) 5 (vF 5)) 6 (upd (vF 6) ((nI (C - 1))).toNatClampNeg (vp_nar FieldType.boolean 1)) = fT vF 6 (upd (vF 6) ((nI (C - 1))).toNatClampNeg (vp_nar FieldType.boolean 1)) := by funext q9; by_cases h9_0 : q9 = 0; (subst h9_0; exact ((fT_ne _ _ (Nat.ne_of_beq_eq_false rfl)).trans ((fT_ne _ _ (Nat.ne_of_beq_eq_false rfl)).trans ((fT_ne _ _ (Nat.ne_of_beq_eq_false rfl)).trans ((fT_ne _ _ (Nat.ne_of_beq_eq_false rfl)).trans ((fT_ne _ _ (Nat.ne_of_beq_eq_false rfl)).trans (fT_eq _ _ _)))))).trans (Eq.trans (by first | rfl | assumption | (symm; assumption) | (subst_vars; rfl)) (fT_ne _ _ (Nat.ne_of_beq_eq_false rfl)).symm)); by_cases h9_2 : q9 = 2; (subst h9_2; exact ((fT_ne _ _ (Nat.ne_of_beq_eq_false rfl)).trans ((fT_ne _ _ (Nat.ne_of_beq_eq_false rfl)).trans ((fT_ne _ _ (Nat.ne_of_beq_eq_false rfl)).trans ((fT_ne _ _ (Nat.ne_of_beq_eq_false rfl)).trans (fT_eq _ _ _))))).trans (Eq.trans (by first | rfl | assumption | (symm; assumption) | (subst_vars; rfl)) (fT_ne _ _ (Nat.ne_of_beq_eq_false rfl)).symm)); by_cases h9_3 : q9 = 3; (subst h9_3; exact ((fT_ne _ _ (Nat.ne_of_beq_eq_false rfl)).trans ((fT_ne _ _ (Nat.ne_of_beq_eq_false rfl)).trans ((fT_ne _ _ (Nat.ne_of_beq_eq_false rfl)).trans (fT_eq _ _ _)))).trans (Eq.trans (by first | rfl | assumption | (symm; assumption) | (subst_vars; rfl)) (fT_ne _ _ (Nat.ne_of_beq_eq_false rfl)).symm)); by_cases h9_4 : q9 = 4; (subst h9_4; exact ((fT_ne _ _ (Nat.ne_of_beq_eq_false rfl)).trans ((fT_ne _ _ (Nat.ne_of_beq_eq_false rfl)).trans (fT_eq _ _ _))).trans (Eq.trans (by first | rfl | assumption | (symm; assumption) | (subst_vars; rfl)) (fT_ne _ _ (Nat.ne_of_beq_eq_false rfl)).symm)); by_cases h9_5 : q9 = 5; (subst h9_5; exact ((fT_ne _ _ (Nat.ne_of_beq_eq_false rfl)).trans (fT_eq _ _ _)).trans (Eq.trans (by first | rfl | assumption | (symm; assumption) | (subst_vars; rfl)) (fT_ne _ _ (Nat.ne_of_beq_eq_false rfl)).symm)); by_cases h9_6 : q9 = 6; (subst h9_6; exact (fT_eq _ _ _).trans (Eq.trans (by first | rfl | assumption | (symm; assumption) | (subst_vars; rfl)) (fT_eq _ _ _).symm)); exact ((fT_ne _ _ h9_6).trans ((fT_ne _ _ h9_5).trans ((fT_ne _ _ h9_4).trans ((fT_ne _ _ h9_3).trans ((fT_ne _ _ h9_2).trans (fT_ne _ _ h9_0)))))).trans (fT_ne _ _ h9_6).symm
        have hP : va_P (dC, dI) vwCl (WR a k h0 (fT vi 11 qk74) (fT vj 12 1) (fT (fT (fT (fT (fT (fT vF 0 (vF 0)) 2 (vF 2)) 3 (vF 3)) 4 (vF 4)) 5 (vF 5)) 6 (upd (vF 6) ((nI (C - 1))).toNatClampNeg (vp_nar FieldType.boolean 1))) (fT vG 7 F74)) H := by rw [e9]; exact hP
        have hD : va_D A (WR a k h0 (fT vi 11 qk74) (fT vj 12 1) (fT (fT (fT (fT (fT (fT vF 0 (vF 0)) 2 (vF 2)) 3 (vF 3)) 4 (vF 4)) 5 (vF 5)) 6 (upd (vF 6) ((nI (C - 1))).toNatClampNeg (vp_nar FieldType.boolean 1))) (fT vG 7 F74)) := by rw [e9]; exact hD
        clear e9
        have e9 : fT (fT (fT vG 7 F74) 1 (vG 1)) 8 (vG 8) = fT vG 7 F74 := (fT_id _ _ ((fT_ne _ _ (Nat.ne_of_beq_eq_false rfl)).trans (fT_ne _ _ (Nat.ne_of_beq_eq_false rfl)))).trans (fT_id _ _ (fT_ne _ _ (Nat.ne_of_beq_eq_false rfl)))
        have hP : va_P (dC, dI) vwCl (WR a k h0 (fT vi 11 qk74) (fT vj 12 1) (fT (fT (fT (fT (fT (fT vF 0 (vF 0)) 2 (vF 2)) 3 (vF 3)) 4 (vF 4)) 5 (vF 5)) 6 (upd (vF 6) ((nI (C - 1))).toNatClampNeg (vp_nar FieldType.boolean 1))) (fT (fT (fT vG 7 F74) 1 (vG 1)) 8 (vG 8))) H := by rw [e9]; exact hP
        have hD : va_D A (WR a k h0 (fT vi 11 qk74) (fT vj 12 1) (fT (fT (fT (fT (fT (fT vF 0 (vF 0)) 2 (vF 2)) 3 (vF 3)) 4 (vF 4)) 5 (vF 5)) 6 (upd (vF 6) ((nI (C - 1))).toNatClampNeg (vp_nar FieldType.boolean 1))) (fT (fT (fT vG 7 F74) 1 (vG 1)) 8 (vG 8))) := by rw [e9]; exact hD
        clear e9
        exact W.zret (v := 1) hx hb hr rfl (fun t9_ ht hW => ⟨⟨1, ((vF 0), (vF 2), (vF 3), (vF 4), (vF 5), (upd (vF 6) ((nI (C - 1))).toNatClampNeg (vp_nar FieldType.boolean 1)), (vG 1), F74, (vG 8), qk74, 1, mg, a_, 1), rfl, by (try dsimp only); exact Or.inr ⟨rfl, hBg, f74_0, hS0, fun i2 hi2 => by rcases hlq with h9 | h9; (exact h9.2 i2 (by omega)); (exfalso; (have h8 := nI_toInt (n := lb) (by omega)); rw [← h9.1, c_79] at h8; (have h7 : ((-1 : Int32)).toInt = -1 := by decide); omega), fun q _ => rfl⟩, by rw [ht]; exact hP, hD⟩, hS.F ht⟩) hS.2.2 dX12_canKeep_90
    · have t_16 : ¬ ((i : Nat) : Int) ≥ ((R : Nat) : Int) := toI_nge c_16 (nI_toInt (by omega)) (nI_toInt (by omega))
      have e1 := hN.1 i (by omega) C (by omega)
      have hpl := pl_lt (C := C) (show i < R + Gq by omega) (Nat.le_refl C)
      refine lv_aload_n hx hb dX12_canKeep_19 rfl (lv_at hl 0 rfl) ?_
      refine lv_aload_n hx hb dX12_canKeep_20 rfl (lv_at hl 0 rfl) ?_
      refine lv_iload_n hx hb dX12_canKeep_21 rfl (lv_at hl 3 rfl) ?_
      refine lv_aload_n hx hb dX12_canKeep_22 rfl (lv_at hl 0 rfl) ?_
      refine va_get (D := (dC, dI)) (ci := 12) (v := .int (vi 5)) (C := RX12) (T := TX12) (N := 163) (fs := fM (vS a vi vj)) hx hb hts iwsRX12_canKeep_in12 hown hK hP 0 rfl rfl 5 (by decide) (hts (.fieldLink RX12 396 "OptimaWorksModel" "columns" "I") (by decide +kernel)) (fun _ h9 => h9) rfl dX12_canKeep_23 ?_
      refine lv_topi (fun y15 hy15 => ?_)
      obtain rfl : (nI C) = y15 := (hy15.trans (hC)).symm
      have hFc := allFree hD hS hA
      refine va_calli (va_runV (As := [.int (nI i), .int (nI C)]) (rest := [.ref h0]) ⟨hx, hb, hml, hown, hts⟩ (r_X12_at l dC dI a k h0 vi vj vF vG i C C (by first | assumption | decide | omega | rfl) H.size) (cwV 2 hts gwsRX12_canKeep_4 rfl rfl rfl (by decide +kernel) ⟨by decide +kernel, by decide +kernel⟩) ⟨fun a U g mk q => by obtain ⟨q0, q1, qP, qK, qD⟩ := q; exact ⟨q0, q1, qP, va_K.moved (u := U) (U := U.calling g mk a) (Vm.Alike.refl U.vm) qK, qD⟩, va_recv hK hP (ci := 12) (q0 := 0) rfl rfl, fun U hU9 hW => ⟨rfl, by rw [hU9], by rw [hU9]; exact hP, va_K.moved hW.alike hK, hD.weaken (fun _ _ _ _ => trivial)⟩⟩ rfl rfl hl.1 rfl (lv_room (Nat.le_of_ble_eq_true rfl)) dX12_canKeep_26 ⟨by decide +kernel, by decide +kernel⟩) hS (fun q _ h => hFc q h) hFc (fun r26 u t9_ H1 locs ht hvm hw9 hB9 hz1 hk1 hS => ?_)
      obtain ⟨hP1, hD1⟩ := hB9
      rw [ht] at hP1
      have hP := hP1
      have hD := hD1.weaken (fun _ q _ h => hFc q.1 h)
      generalize H1 = H at hP hS ⊢
      have hP : va_P (dC, dI) vwCl (WR a k h0 vi vj vF vG) H := hP
      have hD : va_D A (WR a k h0 vi vj vF vG) := hD
      obtain rfl := hw9
      have hFc := allFree hD hS hA
      refine va_calli (va_runV (As := [.int (nI (30 + i * (C + 1) + C))]) (rest := []) ⟨hx, hb, hml, hown, hts⟩ (b_X12_sign l dC dI a k h0 vi vj vF vG (30 + i * (C + 1) + C) mg hBg (mg (30 + i * (C + 1) + C)) rfl (by first | assumption | decide | omega | rfl) H.size) (cwV 1 hts gwsRX12_canKeep_5 rfl rfl rfl (by decide +kernel) ⟨by decide +kernel, by decide +kernel⟩) ⟨fun a U g mk q => by obtain ⟨q0, q1, qP, qK, qD⟩ := q; exact ⟨q0, q1, qP, va_K.moved (u := U) (U := U.calling g mk a) (Vm.Alike.refl U.vm) qK, qD⟩, va_recv hK hP (ci := 12) (q0 := 0) rfl rfl, fun U hU9 hW => ⟨rfl, by rw [hU9], by rw [hU9]; exact hP, va_K.moved hW.alike hK, hD.weaken (fun _ _ _ _ => trivial)⟩⟩ rfl rfl hl.1 rfl (lv_room (Nat.le_of_ble_eq_true rfl)) dX12_canKeep_29 ⟨by decide +kernel, by decide +kernel⟩) hS (fun q _ h => hFc q h) hFc (fun r29 u t9_ H1 locs ht hvm hw9 hB9 hz1 hk1 hS => ?_)
      obtain ⟨hP1, hD1⟩ := hB9
      rw [ht] at hP1
      have hP := hP1
      have hD := hD1.weaken (fun _ q _ h => hFc q.1 h)
      generalize H1 = H at hP hS ⊢
      have hP : va_P (dC, dI) vwCl (WR a k h0 vi vj vF vG) H := hP
      have hD : va_D A (WR a k h0 vi vj vF vG) := hD
      have f29_0 := hw9
      try dsimp only at f29_0
      refine lv_if_ge (tgt := 67) hx hb dX12_canKeep_32 (by decide) (fun c_32 => ?_) (fun c_32 => ?_)
      · have t_32 : (r29).toInt ≥ 0 := toI_ge c_32 rfl (by decide)
        refine lv_iinc (v := (nI (i + 1))) hx hb dX12_canKeep_67 hl (k := 3) rfl (nI_add i 1) (by decide) rfl (fun ls (hl : lv_has ls _ ([(3, .int (nI (i + 1))), (0, .ref h0), (1, .int (nI (C - 1))), (2, .int lq)])) => ?_)
        refine lv_goto (tgt := 11) hx hb dX12_canKeep_70 (by decide) ?_
        have hl : lv_has _ _ ([(0, .ref h0), (1, .int (nI (C - 1))), (2, .int lq), (3, .int (nI (i + 1)))]) := lv_sub hl [1, 2, 3, 0] rfl
        exact ih11 (i + 1) lq lb _ _ _ (by omega) (by (have f9 := f29_0); rcases hlq with ⟨h1, h2⟩ | ⟨h1, h2, h3, h4⟩; (exact Or.inl ⟨h1, fun i2 hi2 => by by_cases e9 : i2 = i; (rw [e9]; omega); (have h9 := h2 i2 (by omega); omega)⟩); (exact Or.inr ⟨h1, by omega, h3, fun i2 hi2 => by by_cases e9 : i2 = i; (rw [e9]; omega); (have h9 := h4 i2 (by omega); omega)⟩)) (by omega) hP hD hS hl
      · have t_32 : ¬ (r29).toInt ≥ 0 := toI_nge c_32 rfl (by decide)
        refine lv_iload_n hx hb dX12_canKeep_35 rfl (lv_at hl 2 rfl) ?_
        refine lv_iconst (v := (-1)) hx hb dX12_canKeep_36 (by decide) ?_
        refine lv_icmp_eq (tgt := 65) hx hb dX12_canKeep_37 (by decide) (fun c_37 => ?_) (fun c_37 => ?_)
        · have t_37 : (lq).toInt = -1 := toI_eq c_37 rfl (by decide)
          refine lv_iload_n hx hb dX12_canKeep_65 rfl (lv_at hl 3 rfl) ?_
          refine lv_istore_n hx hb dX12_canKeep_66 rfl hl (by decide) rfl (fun ls (hl : lv_has ls _ ([(2, .int (nI i)), (0, .ref h0), (1, .int (nI (C - 1))), (3, .int (nI i))])) => ?_)
          refine lv_iinc (v := (nI (i + 1))) hx hb dX12_canKeep_67 hl (k := 3) rfl (nI_add i 1) (by decide) rfl (fun ls (hl : lv_has ls _ ([(3, .int (nI (i + 1))), (2, .int (nI i)), (0, .ref h0), (1, .int (nI (C - 1)))])) => ?_)
          refine lv_goto (tgt := 11) hx hb dX12_canKeep_70 (by decide) ?_
          have hl : lv_has _ _ ([(0, .ref h0), (1, .int (nI (C - 1))), (2, .int (nI i)), (3, .int (nI (i + 1)))]) := lv_sub hl [2, 3, 1, 0] rfl
          exact ih11 (i + 1) (nI i) i _ _ _ (by omega) (by (have f9 := f29_0); (have h2 : ∀ i2, i2 < i → 0 ≤ a_ i2 C := by rcases hlq with ⟨h1, h2⟩ | ⟨h1, h2, h3⟩; (exact h2); (exfalso; (have h9 := nI_toInt (n := lb) (by omega)); rw [← h1, c_37] at h9; (have h8 : ((-1 : Int32)).toInt = -1 := by decide); omega)); exact Or.inr ⟨rfl, by omega, by omega, fun i2 hi2 => by by_cases e9 : i2 = i; (rw [e9]; omega); (have h9 := h2 i2 (by omega); omega)⟩) (by omega) hP hD hS hl
        · have t_37 : ¬ (lq).toInt = -1 := toI_neq c_37 rfl (by decide)
          obtain ⟨h1c, h2c, h3c, h4c⟩ := hlq.resolve_left (fun h => c_37 h.1)
          subst h1c
          have e2 := hN.1 lb (by omega) C (by omega)
          have hpl2 := pl_lt (C := C) (show lb < R + Gq by omega) (Nat.le_refl C)
          refine lv_aload_n hx hb dX12_canKeep_40 rfl (lv_at hl 0 rfl) ?_
          refine lv_aload_n hx hb dX12_canKeep_41 rfl (lv_at hl 0 rfl) ?_
          refine lv_iload_n hx hb dX12_canKeep_42 rfl (lv_at hl 3 rfl) ?_
          refine lv_aload_n hx hb dX12_canKeep_43 rfl (lv_at hl 0 rfl) ?_
          refine va_get (D := (dC, dI)) (ci := 12) (v := .int (vi 5)) (C := RX12) (T := TX12) (N := 163) (fs := fM (vS a vi vj)) hx hb hts iwsRX12_canKeep_in12 hown hK hP 0 rfl rfl 5 (by decide) (hts (.fieldLink RX12 396 "OptimaWorksModel" "columns" "I") (by decide +kernel)) (fun _ h9 => h9) rfl dX12_canKeep_44 ?_
          refine lv_topi (fun y16 hy16 => ?_)
          obtain rfl : (nI C) = y16 := (hy16.trans (hC)).symm
          have hFc := allFree hD hS hA
          refine va_calli (va_runV (As := [.int (nI i), .int (nI C)]) (rest := [.ref h0]) ⟨hx, hb, hml, hown, hts⟩ (r_X12_at l dC dI a k h0 vi vj vF vG i C C (by first | assumption | decide | omega | rfl) H.size) (cwV 2 hts gwsRX12_canKeep_4 rfl rfl rfl (by decide +kernel) ⟨by decide +kernel, by decide +kernel⟩) ⟨fun a U g mk q => by obtain ⟨q0, q1, qP, qK, qD⟩ := q; exact ⟨q0, q1, qP, va_K.moved (u := U) (U := U.calling g mk a) (Vm.Alike.refl U.vm) qK, qD⟩, va_recv hK hP (ci := 12) (q0 := 0) rfl rfl, fun U hU9 hW => ⟨rfl, by rw [hU9], by rw [hU9]; exact hP, va_K.moved hW.alike hK, hD.weaken (fun _ _ _ _ => trivial)⟩⟩ rfl rfl hl.1 rfl (lv_room (Nat.le_of_ble_eq_true rfl)) dX12_canKeep_47 ⟨by decide +kernel, by decide +kernel⟩) hS (fun q _ h => hFc q h) hFc (fun r47 u t9_ H1 locs ht hvm hw9 hB9 hz1 hk1 hS => ?_)
          obtain ⟨hP1, hD1⟩ := hB9
          rw [ht] at hP1
          have hP := hP1
          have hD := hD1.weaken (fun _ q _ h => hFc q.1 h)
          generalize H1 = H at hP hS ⊢
          have hP : va_P (dC, dI) vwCl (WR a k h0 vi vj vF vG) H := hP
          have hD : va_D A (WR a k h0 vi vj vF vG) := hD
          obtain rfl := hw9
          refine lv_aload_n hx hb dX12_canKeep_50 rfl (lv_at hl 0 rfl) ?_
          refine lv_iload_n hx hb dX12_canKeep_51 rfl (lv_at hl 2 rfl) ?_
          refine lv_aload_n hx hb dX12_canKeep_52 rfl (lv_at hl 0 rfl) ?_
          refine va_get (D := (dC, dI)) (ci := 12) (v := .int (vi 5)) (C := RX12) (T := TX12) (N := 163) (fs := fM (vS a vi vj)) hx hb hts iwsRX12_canKeep_in12 hown hK hP 0 rfl rfl 5 (by decide) (hts (.fieldLink RX12 396 "OptimaWorksModel" "columns" "I") (by decide +kernel)) (fun _ h9 => h9) rfl dX12_canKeep_53 ?_
          refine lv_topi (fun y17 hy17 => ?_)
          obtain rfl : (nI C) = y17 := (hy17.trans (hC)).symm
          have hFc := allFree hD hS hA
          refine va_calli (va_runV (As := [.int (nI lb), .int (nI C)]) (rest := [.int (nI (30 + i * (C + 1) + C)), .ref h0]) ⟨hx, hb, hml, hown, hts⟩ (r_X12_at l dC dI a k h0 vi vj vF vG lb C C (by first | assumption | decide | omega | rfl) H.size) (cwV 2 hts gwsRX12_canKeep_4 rfl rfl rfl (by decide +kernel) ⟨by decide +kernel, by decide +kernel⟩) ⟨fun a U g mk q => by obtain ⟨q0, q1, qP, qK, qD⟩ := q; exact ⟨q0, q1, qP, va_K.moved (u := U) (U := U.calling g mk a) (Vm.Alike.refl U.vm) qK, qD⟩, va_recv hK hP (ci := 12) (q0 := 0) rfl rfl, fun U hU9 hW => ⟨rfl, by rw [hU9], by rw [hU9]; exact hP, va_K.moved hW.alike hK, hD.weaken (fun _ _ _ _ => trivial)⟩⟩ rfl rfl hl.1 rfl (lv_room (Nat.le_of_ble_eq_true rfl)) dX12_canKeep_56 ⟨by decide +kernel, by decide +kernel⟩) hS (fun q _ h => hFc q h) hFc (fun r56 u t9_ H1 locs ht hvm hw9 hB9 hz1 hk1 hS => ?_)
          obtain ⟨hP1, hD1⟩ := hB9
          rw [ht] at hP1
          have hP := hP1
          have hD := hD1.weaken (fun _ q _ h => hFc q.1 h)
          generalize H1 = H at hP hS ⊢
          have hP : va_P (dC, dI) vwCl (WR a k h0 vi vj vF vG) H := hP
          have hD : va_D A (WR a k h0 vi vj vF vG) := hD
          obtain rfl := hw9
          have hFc := allFree hD hS hA
          refine va_calli (va_runV (As := [.int (nI (30 + i * (C + 1) + C)), .int (nI (30 + lb * (C + 1) + C))]) (rest := []) ⟨hx, hb, hml, hown, hts⟩ (b_X12_compare l dC dI a k h0 vi vj vF vG (30 + i * (C + 1) + C) (30 + lb * (C + 1) + C) mg hBg (mg (30 + i * (C + 1) + C)) (mg (30 + lb * (C + 1) + C)) rfl rfl (by first | assumption | decide | omega | rfl) (by first | assumption | decide | omega | rfl) H.size) (cwV 2 hts gwsRX12_canKeep_6 rfl rfl rfl (by decide +kernel) ⟨by decide +kernel, by decide +kernel⟩) ⟨fun a U g mk q => by obtain ⟨q0, q1, qP, qK, qD⟩ := q; exact ⟨q0, q1, qP, va_K.moved (u := U) (U := U.calling g mk a) (Vm.Alike.refl U.vm) qK, qD⟩, va_recv hK hP (ci := 12) (q0 := 0) rfl rfl, fun U hU9 hW => ⟨rfl, by rw [hU9], by rw [hU9]; exact hP, va_K.moved hW.alike hK, hD.weaken (fun _ _ _ _ => trivial)⟩⟩ rfl rfl hl.1 rfl (lv_room (Nat.le_of_ble_eq_true rfl)) dX12_canKeep_59 ⟨by decide +kernel, by decide +kernel⟩) hS (fun q _ h => hFc q h) hFc (fun r59 u t9_ H1 locs ht hvm hw9 hB9 hz1 hk1 hS => ?_)
          obtain ⟨hP1, hD1⟩ := hB9
          rw [ht] at hP1
          have hP := hP1
          have hD := hD1.weaken (fun _ q _ h => hFc q.1 h)
          generalize H1 = H at hP hS ⊢
          have hP : va_P (dC, dI) vwCl (WR a k h0 vi vj vF vG) H := hP
          have hD : va_D A (WR a k h0 vi vj vF vG) := hD
          have f59_0 := hw9
          try dsimp only at f59_0
          refine lv_if_ge (tgt := 67) hx hb dX12_canKeep_62 (by decide) (fun c_62 => ?_) (fun c_62 => ?_)
          · have t_62 : (r59).toInt ≥ 0 := toI_ge c_62 rfl (by decide)
            refine lv_iinc (v := (nI (i + 1))) hx hb dX12_canKeep_67 hl (k := 3) rfl (nI_add i 1) (by decide) rfl (fun ls (hl : lv_has ls _ ([(3, .int (nI (i + 1))), (0, .ref h0), (1, .int (nI (C - 1))), (2, .int (nI lb))])) => ?_)
            refine lv_goto (tgt := 11) hx hb dX12_canKeep_70 (by decide) ?_
            have hl : lv_has _ _ ([(0, .ref h0), (1, .int (nI (C - 1))), (2, .int (nI lb)), (3, .int (nI (i + 1)))]) := lv_sub hl [1, 2, 3, 0] rfl
            exact ih11 (i + 1) (nI lb) lb _ _ _ (by omega) (Or.inr ⟨rfl, by omega, h3c, by (have f9 := f59_0); exact fun i2 hi2 => by by_cases e9 : i2 = i; (rw [e9]; omega); (have h9 := h4c i2 (by omega); omega)⟩) (by omega) hP hD hS hl
          · have t_62 : ¬ (r59).toInt ≥ 0 := toI_nge c_62 rfl (by decide)
            refine lv_iload_n hx hb dX12_canKeep_65 rfl (lv_at hl 3 rfl) ?_
            refine lv_istore_n hx hb dX12_canKeep_66 rfl hl (by decide) rfl (fun ls (hl : lv_has ls _ ([(2, .int (nI i)), (0, .ref h0), (1, .int (nI (C - 1))), (3, .int (nI i))])) => ?_)
            refine lv_iinc (v := (nI (i + 1))) hx hb dX12_canKeep_67 hl (k := 3) rfl (nI_add i 1) (by decide) rfl (fun ls (hl : lv_has ls _ ([(3, .int (nI (i + 1))), (2, .int (nI i)), (0, .ref h0), (1, .int (nI (C - 1)))])) => ?_)
            refine lv_goto (tgt := 11) hx hb dX12_canKeep_70 (by decide) ?_
            have hl : lv_has _ _ ([(0, .ref h0), (1, .int (nI (C - 1))), (2, .int (nI i)), (3, .int (nI (i + 1)))]) := lv_sub hl [2, 3, 1, 0] rfl
            exact ih11 (i + 1) (nI i) i _ _ _ (by omega) (by (have f9 := f59_0); exact Or.inr ⟨rfl, by omega, by omega, fun i2 hi2 => by by_cases e9 : i2 = i; (rw [e9]; omega); (have h9 := h4c i2 (by omega); omega)⟩) (by omega) hP hD hS hl
theorem dX12_thing_0 : decode cX12_thing 0 = .ok (.aload_n 0, 1) := dk_42 (by decide +kernel)
theorem dX12_thing_1 : decode cX12_thing 1 = .ok (.iload_n 1, 1) := dk_27 (by decide +kernel)
theorem dX12_thing_2 : decode cX12_thing 2 = .ok (.lconst 0, 1) := dk_9 (by decide +kernel)
theorem dX12_thing_3 : decode cX12_thing 3 = .ok (.invokevirtual 369, 3) := dk_182 (by decide +kernel)
theorem dX12_thing_6 : decode cX12_thing 6 = .ok (.iconst 0, 1) := dk_3 (by decide +kernel)
theorem dX12_thing_7 : decode cX12_thing 7 = .ok (.istore_n 3, 1) := dk_62 (by decide +kernel)
theorem dX12_thing_8 : decode cX12_thing 8 = .ok (.iload_n 3, 1) := dk_29 (by decide +kernel)
theorem dX12_thing_9 : decode cX12_thing 9 = .ok (.aload_n 0, 1) := dk_42 (by decide +kernel)
theorem dX12_thing_10 : decode cX12_thing 10 = .ok (.getfield 399, 3) := dk_180 (by decide +kernel)
theorem dX12_thing_13 : decode cX12_thing 13 = .ok (.if_icmp .ge 33, 3) := dk_162 (by decide +kernel)
theorem dX12_thing_16 : decode cX12_thing 16 = .ok (.aload_n 0, 1) := dk_42 (by decide +kernel)
theorem dX12_thing_17 : decode cX12_thing 17 = .ok (.getfield 26, 3) := dk_180 (by decide +kernel)
theorem dX12_thing_20 : decode cX12_thing 20 = .ok (.iload_n 3, 1) := dk_29 (by decide +kernel)
theorem dX12_thing_21 : decode cX12_thing 21 = .ok (.iaload, 1) := dk_46 (by decide +kernel)
theorem dX12_thing_22 : decode cX12_thing 22 = .ok (.iload_n 2, 1) := dk_28 (by decide +kernel)
theorem dX12_thing_23 : decode cX12_thing 23 = .ok (.if_icmp .ne 17, 3) := dk_160 (by decide +kernel)
theorem dX12_thing_26 : decode cX12_thing 26 = .ok (.aload_n 0, 1) := dk_42 (by decide +kernel)
theorem dX12_thing_27 : decode cX12_thing 27 = .ok (.iload_n 1, 1) := dk_27 (by decide +kernel)
theorem dX12_thing_28 : decode cX12_thing 28 = .ok (.aload_n 0, 1) := dk_42 (by decide +kernel)
theorem dX12_thing_29 : decode cX12_thing 29 = .ok (.iload_n 3, 1) := dk_29 (by decide +kernel)
theorem dX12_thing_30 : decode cX12_thing 30 = .ok (.aload_n 0, 1) := dk_42 (by decide +kernel)
theorem dX12_thing_31 : decode cX12_thing 31 = .ok (.getfield 396, 3) := dk_180 (by decide +kernel)
theorem dX12_thing_34 : decode cX12_thing 34 = .ok (.invokevirtual 405, 3) := dk_182 (by decide +kernel)
theorem dX12_thing_37 : decode cX12_thing 37 = .ok (.invokevirtual 365, 3) := dk_182 (by decide +kernel)
theorem dX12_thing_40 : decode cX12_thing 40 = .ok (.iinc 3 1, 3) := dk_132 (by decide +kernel)
theorem dX12_thing_43 : decode cX12_thing 43 = .ok (.goto (-35), 3) := dk_167 (by decide +kernel)
theorem dX12_thing_46 : decode cX12_thing 46 = .ok (.return_, 1) := dk_177 (by decide +kernel)
def wsRX12_thing : List Cond := .code yX12_thing cX12_thing 4 none :: ([.fieldLink RX12 399 "OptimaWorksModel" "rows" "I", .fieldLink RX12 26 "OptimaWorksModel" "rowOf" "[I", .fieldLink RX12 396 "OptimaWorksModel" "columns" "I"] ++ wsX120 ++ (wsV RX12 369 RX12 yX12_put wsRX12_put) ++ (wsV RX12 405 RX12 yX12_at wsRX12_at) ++ (wsV RX12 365 RX12 yX12_copy wsRX12_copy))
theorem iwsRX12_thing_in12 : ∀ w ∈ wsX120, w ∈ wsRX12_thing := fun _ h => List.mem_cons_of_mem _ (List.mem_append_left _ (List.mem_append_left _ (List.mem_append_left _ (List.mem_append_right _ h))))
theorem gwsRX12_thing_0 : GoodIn wsRX12_thing (wsV RX12 369 RX12 yX12_put wsRX12_put) := goodIn_sub (fun _ h => List.mem_cons_of_mem _ (List.mem_append_left _ (List.mem_append_left _ (List.mem_append_right _ h)))) (gdV (by decide +kernel) gdwsRX12_put)
theorem gwsRX12_thing_1 : GoodIn wsRX12_thing (wsV RX12 405 RX12 yX12_at wsRX12_at) := goodIn_sub (fun _ h => List.mem_cons_of_mem _ (List.mem_append_left _ (List.mem_append_right _ h))) (gdV (by decide +kernel) gdwsRX12_at)
theorem gwsRX12_thing_2 : GoodIn wsRX12_thing (wsV RX12 365 RX12 yX12_copy wsRX12_copy) := goodIn_sub (fun _ h => List.mem_cons_of_mem _ (List.mem_append_right _ h)) (gdV (by decide +kernel) gdwsRX12_copy)
theorem gdwsRX12_thing : wsRX12_thing.all goodWord = true := gdC rfl (gdA (gdA (gdA (gdA (by decide +kernel : ([.fieldLink RX12 399 "OptimaWorksModel" "rows" "I", .fieldLink RX12 26 "OptimaWorksModel" "rowOf" "[I", .fieldLink RX12 396 "OptimaWorksModel" "columns" "I"] : List Cond).all goodWord = true) gdwsX120) (gdV (by decide +kernel) gdwsRX12_put)) (gdV (by decide +kernel) gdwsRX12_at)) (gdV (by decide +kernel) gdwsRX12_copy))
set_option maxHeartbeats 4000000 in
set_option maxRecDepth 100000 in
/-- thing(s, k) -/
theorem r_X12_thing (l : Launch) (dC : Nat → ClassId) (dI : Nat → Nat → Nat) (a : Nat → Nat) (k : Nat → ClassId) (h0 : Nat) (vi : Nat → Int32) (vj : Nat → Int64) (vF : Nat → Nat → Int32) (vG : Nat → Nat → Int64) (sn : Nat) (kq : Int32) (C : Nat) (R : Nat) (Gq : Nat) (t : Nat → Nat → Int) (D : Int) (mg : Nat → Int) (hBg : Bg (vF 0) mg) (hC : vi 5 = nI C) (hR : vi 6 = nI R) (hG : vi 7 = nI Gq) (hC45 : 0 < C ∧ C ≤ 45) (hT60 : R + Gq < 60) (hsz : (R + Gq) * (C + 1) ≤ 970) (hN : TabN C (R + Gq) mg t D) (hsn : sn < 30) (hsn20 : sn ≠ 20) (sz : Nat) : Met l yX12_thing wsRX12_thing ({ frames := 1, cells := 0, slots := 0, locals := 27 }) (va_Pc [.ref h0, .int (nI sn), .int kq] (fun U => U.heap.size = sz ∧ va_P (dC, dI) vwCl (WR a k h0 vi vj vF vG) U.heap ∧ va_K (dC, dI) vwCl (tX12 k) U ∧ va_D (fun _ => True) (WR a k h0 vi vj vF vG))) (va_Qv (fun (u : (Nat → Int32) × (Nat → Int)) => (Bg (u.1) (u.2)) ∧ ((u.2) sn = 0 ∨ ∃ i, i < R ∧ (u.2) sn = t i C) ∧ (∀ q, q ≠ sn → (u.2) q = mg q)) (fun (u : (Nat → Int32) × (Nat → Int)) t => va_P (dC, dI) vwCl (WR a k h0 vi vj (fT vF 0 (u.1)) vG) t.heap ∧ va_D (va_A (WR a k h0 vi vj vF vG) sz) (WR a k h0 vi vj (fT vF 0 (u.1)) vG)) (va_A (WR a k h0 vi vj vF vG) sz)) 0 0 (va_A (WR a k h0 vi vj vF vG) sz) := by
  refine Met.ofW (cc := cX12_thing) (maxL := 4) (ret := none) (by decide) rfl ?_
  intro p e s m args below meth c s₁ B hml hv
  obtain ⟨rfl, hsz, hP, hK, hD0⟩ := hv
  have hx := B.exec
  have hb := B.bytes
  have hr := B.returns
  have hts := atoms_spec (ws := wsRX12_thing) B.pre
  have hown : s.vm.findClass RX12 = some m.cls := findClass_of_methodNamed B.named
  have hlocks := B.notSynchronized
  subst hsz
  have hD := hD0.self (sz := s.heap.size)
  generalize hAe : va_A (WR a k h0 vi vj vF vG) s.heap.size = A at hD ⊢
  have hA : ∀ q : Nat, s.heap.size ≤ q → A q := fun q h => by rw [← hAe]; exact Or.inr h
  have hS : va_S A s.heap s.heap [] := va_S.rf
  have hl := lv_entry ([.ref h0, .int (nI sn), .int kq]) (n := 4) (Nat.le_of_ble_eq_true rfl)
  rw [lg_entry_eq]
  generalize (lg_sl ([.ref h0, .int (nI sn), .int kq]) ++ List.replicate (4 - (lg_sl ([.ref h0, .int (nI sn), .int kq])).length) Slot.unset).toArray = ls at hl ⊢
  have hl : lv_has ls 4 [(0, .ref h0), (1, .int (nI sn)), (2, .int kq)] := hl
  refine lv_aload_n hx hb dX12_thing_0 rfl (lv_at hl 0 rfl) ?_
  refine lv_iload_n hx hb dX12_thing_1 rfl (lv_at hl 1 rfl) ?_
  refine lv_lconst (v := 0) hx hb dX12_thing_2 (by decide) ?_
  have hFc := allFree hD hS hA
  refine va_callv (va_runV (As := [.int (nI sn), .long 0]) (rest := []) ⟨hx, hb, hml, hown, hts⟩ (b_X12_put l dC dI a k h0 vi vj vF vG sn 0 0 mg hBg (by first | assumption | decide | omega | rfl) (by decide) (by first | assumption | decide | omega | rfl) s.heap.size) (cwV 2 hts gwsRX12_thing_0 rfl rfl rfl (by decide +kernel) ⟨by decide +kernel, by decide +kernel⟩) ⟨fun a U g mk q => by obtain ⟨q0, q1, qP, qK, qD⟩ := q; exact ⟨q0, q1, qP, va_K.moved (u := U) (U := U.calling g mk a) (Vm.Alike.refl U.vm) qK, qD⟩, va_recv hK hP (ci := 12) (q0 := 0) rfl rfl, fun U hU9 hW => ⟨rfl, by rw [hU9], by rw [hU9]; exact hP, va_K.moved hW.alike hK, hD.weaken (fun _ _ _ _ => trivial)⟩⟩ rfl rfl hl.1 rfl (lv_room (Nat.le_of_ble_eq_true rfl)) dX12_thing_3 ⟨by decide +kernel, by decide +kernel⟩) hS (fun q _ h => hFc q h) hFc (fun u t9_ H1 locs ht hvm hw9 hB9 hz1 hk1 hS => ?_)
  obtain ⟨g3, hwit3⟩ : ∃ w9, w9 = u := ⟨u, rfl⟩
  subst hwit3
  obtain ⟨hP1, hD1⟩ := hB9
  rw [ht] at hP1
  have hP := hP1
  have hD := hD1.weaken (fun _ q _ h => hFc q.1 h)
  generalize H1 = H at hP hS ⊢
  have hP : va_P (dC, dI) vwCl (WR a k h0 vi vj (fT vF 0 g3) vG) H := hP
  have hD : va_D A (WR a k h0 vi vj (fT vF 0 g3) vG) := hD
  have f3_0 := hw9
  try dsimp only at f3_0
  refine lv_iconst (v := 0) hx hb dX12_thing_6 (by decide) ?_
  refine lv_istore_n hx hb dX12_thing_7 rfl hl (by decide) rfl (fun ls (hl : lv_has ls _ ([(3, .int 0), (0, .ref h0), (1, .int (nI sn)), (2, .int kq)])) => ?_)
  have hl : lv_has _ _ ([(0, .ref h0), (1, .int (nI sn)), (2, .int kq), (3, .int (nI 0))]) := lv_sub hl [1, 2, 3, 0] rfl
  refine (fun (loop : ∀ (n9 : Nat) (i : Nat) (g1 : Nat → Int32) (m1 : Nat → Int) (H : Heap) (locs : List Loc) (ls : Array Slot), (Bg g1 m1) → (i ≤ R) → (m1 sn = 0 ∨ ∃ i, i < R ∧ m1 sn = t i C) → (∀ q, q ≠ sn → m1 q = mg q) →  (R < i + n9) → va_P (dC, dI) vwCl (WR a k h0 vi vj (fT vF 0 g1) vG) H → va_D A (WR a k h0 vi vj (fT vF 0 g1) vG) → va_S A s.heap H locs → lv_has ls 4 [(0, .ref h0), (1, .int (nI sn)), (2, .int kq), (3, .int (nI i))] → W p l e _ s m _ below meth c H locs 0 0 _ (F0 m 8 ls [])) => loop (R + 1) 0 g3 (fT mg sn 0) _ _ _ (f3_0) (by omega) (Or.inl (by rw [fT_eq])) (fun q hq => by (rw [fT_ne _ _ (by omega)])) (by omega) hP hD hS hl) ?_
  intro n9
  induction n9 with
  | zero => intro i g1 m1 H locs ls hB1 hi hval ho hf9; exact False.elim (by omega)
  | succ n9 ih8 =>
    intro i g1 m1 H locs ls hB1 hi hval ho hf8 hP hD hS hl
    refine lv_iload_n hx hb dX12_thing_8 rfl (lv_at hl 3 rfl) ?_
    refine lv_aload_n hx hb dX12_thing_9 rfl (lv_at hl 0 rfl) ?_
    refine va_get (D := (dC, dI)) (ci := 12) (v := .int (vi 6)) (C := RX12) (T := TX12) (N := 163) (fs := fM (vS a vi vj)) hx hb hts iwsRX12_thing_in12 hown hK hP 0 rfl rfl 6 (by decide) (hts (.fieldLink RX12 399 "OptimaWorksModel" "rows" "I") (by decide +kernel)) (fun _ h9 => h9) rfl dX12_thing_10 ?_
    refine lv_topi (fun y1 hy1 => ?_)
    obtain rfl : (nI R) = y1 := (hy1.trans (hR)).symm
    refine lv_icmp_ge (tgt := 46) hx hb dX12_thing_13 (by decide) (fun c_13 => ?_) (fun c_13 => ?_)
    · have t_13 : ((i : Nat) : Int) ≥ ((R : Nat) : Int) := toI_ge c_13 (nI_toInt (by omega)) (nI_toInt (by omega))
      refine W.widen (k := 0) (n := 0) (by decide +kernel) (by decide +kernel) ?_
      exact W.vret hx hb hr (fun t9_ ht hW => ⟨⟨(g1, m1), rfl, by (try dsimp only); exact ⟨hB1, hval, ho⟩, by rw [ht]; exact hP, hD⟩, hS.F ht⟩) hS.2.2 dX12_thing_46
    · have t_13 : ¬ ((i : Nat) : Int) ≥ ((R : Nat) : Int) := toI_nge c_13 (nI_toInt (by omega)) (nI_toInt (by omega))
      refine lv_aload_n hx hb dX12_thing_16 rfl (lv_at hl 0 rfl) ?_
      refine va_get (D := (dC, dI)) (ci := 12) (v := .ref (a 5)) (C := RX12) (T := TX12) (N := 163) (fs := fM (vS a vi vj)) hx hb hts iwsRX12_thing_in12 hown hK hP 0 rfl rfl 9 (by decide) (hts (.fieldLink RX12 26 "OptimaWorksModel" "rowOf" "[I") (by decide +kernel)) (fun _ h9 => h9) rfl dX12_thing_17 ?_
      refine lv_iload_n hx hb dX12_thing_20 rfl (lv_at hl 3 rfl) ?_
      refine va_iald (cA := k 5) (n := 60) (f := (vF 5)) hx hb hK hP 6 5 (WR_get 5 (by decide)) (TR_get 5 (by decide)) (vp_in_nI (show i < 60 by omega) (by omega)) dX12_thing_21 ?_
      refine lv_topi (fun y2 hy2 => ?_)
      obtain rfl : ((vF 5) i) = y2 := (hy2.trans (by rw [nI_clamp (by omega)])).symm
      refine lv_iload_n hx hb dX12_thing_22 rfl (lv_at hl 2 rfl) ?_
      refine lv_icmp_ne (tgt := 40) hx hb dX12_thing_23 (by decide) (fun c_23 => ?_) (fun c_23 => ?_)
      · have t_23 : (((vF 5) i)).toInt ≠ (kq).toInt := toI_ne c_23 rfl rfl
        refine lv_iinc (v := (nI (i + 1))) hx hb dX12_thing_40 hl (k := 3) rfl (nI_add i 1) (by decide) rfl (fun ls (hl : lv_has ls _ ([(3, .int (nI (i + 1))), (0, .ref h0), (1, .int (nI sn)), (2, .int kq)])) => ?_)
        refine lv_goto (tgt := 8) hx hb dX12_thing_43 (by decide) ?_
        have hl : lv_has _ _ ([(0, .ref h0), (1, .int (nI sn)), (2, .int kq), (3, .int (nI (i + 1)))]) := lv_sub hl [1, 2, 3, 0] rfl
        exact ih8 (i + 1) g1 m1 _ _ _ (hB1) (by omega) (hval) (ho) (by omega) hP hD hS hl
      · have t_23 : (((vF 5) i)).toInt = (kq).toInt := toI_nne c_23 rfl rfl
        have hpl := pl_lt (C := C) (show i < R + Gq by omega) (Nat.le_refl C)
        refine lv_aload_n hx hb dX12_thing_26 rfl (lv_at hl 0 rfl) ?_
        refine lv_iload_n hx hb dX12_thing_27 rfl (lv_at hl 1 rfl) ?_
        refine lv_aload_n hx hb dX12_thing_28 rfl (lv_at hl 0 rfl) ?_
        refine lv_iload_n hx hb dX12_thing_29 rfl (lv_at hl 3 rfl) ?_
        refine lv_aload_n hx hb dX12_thing_30 rfl (lv_at hl 0 rfl) ?_
        refine va_get (D := (dC, dI)) (ci := 12) (v := .int (vi 5)) (C := RX12) (T := TX12) (N := 163) (fs := fM (vS a vi vj)) hx hb hts iwsRX12_thing_in12 hown hK hP 0 rfl rfl 5 (by decide) (hts (.fieldLink RX12 396 "OptimaWorksModel" "columns" "I") (by decide +kernel)) (fun _ h9 => h9) rfl dX12_thing_31 ?_
        refine lv_topi (fun y3 hy3 => ?_)
        obtain rfl : (nI C) = y3 := (hy3.trans (hC)).symm
        have hFc := allFree hD hS hA
        refine va_calli (va_runV (As := [.int (nI i), .int (nI C)]) (rest := [.int (nI sn), .ref h0]) ⟨hx, hb, hml, hown, hts⟩ (r_X12_at l dC dI a k h0 vi vj (fT vF 0 g1) vG i C C (by first | assumption | decide | omega | rfl) H.size) (cwV 2 hts gwsRX12_thing_1 rfl rfl rfl (by decide +kernel) ⟨by decide +kernel, by decide +kernel⟩) ⟨fun a U g mk q => by obtain ⟨q0, q1, qP, qK, qD⟩ := q; exact ⟨q0, q1, qP, va_K.moved (u := U) (U := U.calling g mk a) (Vm.Alike.refl U.vm) qK, qD⟩, va_recv hK hP (ci := 12) (q0 := 0) rfl rfl, fun U hU9 hW => ⟨rfl, by rw [hU9], by rw [hU9]; exact hP, va_K.moved hW.alike hK, hD.weaken (fun _ _ _ _ => trivial)⟩⟩ rfl rfl hl.1 rfl (lv_room (Nat.le_of_ble_eq_true rfl)) dX12_thing_34 ⟨by decide +kernel, by decide +kernel⟩) hS (fun q _ h => hFc q h) hFc (fun r34 u t9_ H1 locs ht hvm hw9 hB9 hz1 hk1 hS => ?_)
        obtain ⟨hP1, hD1⟩ := hB9
        rw [ht] at hP1
        have hP := hP1
        have hD := hD1.weaken (fun _ q _ h => hFc q.1 h)
        generalize H1 = H at hP hS ⊢
        have hP : va_P (dC, dI) vwCl (WR a k h0 vi vj (fT vF 0 g1) vG) H := hP
        have hD : va_D A (WR a k h0 vi vj (fT vF 0 g1) vG) := hD
        obtain rfl := hw9
        have hFc := allFree hD hS hA
        refine va_callv (va_runV (As := [.int (nI sn), .int (nI (30 + i * (C + 1) + C))]) (rest := []) ⟨hx, hb, hml, hown, hts⟩ (b_X12_copy l dC dI a k h0 vi vj (fT vF 0 g1) vG sn (30 + i * (C + 1) + C) m1 hB1 (t i C) (by rw [((ho _ (by omega)).trans (hN.1 i (by omega) C (by omega)))]) (by first | assumption | decide | omega | rfl) (by first | assumption | decide | omega | rfl) (by first | assumption | decide | omega | rfl) H.size) (cwV 2 hts gwsRX12_thing_2 rfl rfl rfl (by decide +kernel) ⟨by decide +kernel, by decide +kernel⟩) ⟨fun a U g mk q => by obtain ⟨q0, q1, qP, qK, qD⟩ := q; exact ⟨q0, q1, qP, va_K.moved (u := U) (U := U.calling g mk a) (Vm.Alike.refl U.vm) qK, qD⟩, va_recv hK hP (ci := 12) (q0 := 0) rfl rfl, fun U hU9 hW => ⟨rfl, by rw [hU9], by rw [hU9]; exact hP, va_K.moved hW.alike hK, hD.weaken (fun _ _ _ _ => trivial)⟩⟩ rfl rfl hl.1 rfl (lv_room (Nat.le_of_ble_eq_true rfl)) dX12_thing_37 ⟨by decide +kernel, by decide +kernel⟩) hS (fun q _ h => hFc q h) hFc (fun u t9_ H1 locs ht hvm hw9 hB9 hz1 hk1 hS => ?_)
        obtain ⟨g37, hwit37⟩ : ∃ w9, w9 = u := ⟨u, rfl⟩
        subst hwit37
        obtain ⟨hP1, hD1⟩ := hB9
        rw [ht] at hP1
        have hP := hP1
        have hD := hD1.weaken (fun _ q _ h => hFc q.1 h)
        generalize H1 = H at hP hS ⊢
        have hP : va_P (dC, dI) vwCl (WR a k h0 vi vj (fT (fT vF 0 g1) 0 g37) vG) H := hP
        have hD : va_D A (WR a k h0 vi vj (fT (fT vF 0 g1) 0 g37) vG) := hD
        have e9 : fT vF 0 g37 = fT (fT vF 0 g1) 0 g37 := (fT_sm _ _ _ _).symm
        rw [← e9] at hP hD
        clear e9
        have hP : va_P (dC, dI) vwCl (WR a k h0 vi vj (fT vF 0 g37) vG) H := hP
        have hD : va_D A (WR a k h0 vi vj (fT vF 0 g37) vG) := hD
        have f37_0 := hw9
        try dsimp only at f37_0
        refine lv_iinc (v := (nI (i + 1))) hx hb dX12_thing_40 hl (k := 3) rfl (nI_add i 1) (by decide) rfl (fun ls (hl : lv_has ls _ ([(3, .int (nI (i + 1))), (0, .ref h0), (1, .int (nI sn)), (2, .int kq)])) => ?_)
        refine lv_goto (tgt := 8) hx hb dX12_thing_43 (by decide) ?_
        have hl : lv_has _ _ ([(0, .ref h0), (1, .int (nI sn)), (2, .int kq), (3, .int (nI (i + 1)))]) := lv_sub hl [1, 2, 3, 0] rfl
        exact ih8 (i + 1) g37 (fT m1 sn (t i C)) _ _ _ (f37_0) (by omega) (Or.inr ⟨i, by omega, by rw [fT_eq]⟩) (fun q hq => by (rw [fT_ne _ _ (by omega)]); exact ho q hq) (by omega) hP hD hS hl

section
theorem hd_yX6_begin_RX6 : yX6_begin.cls = RX6 ∧ yX6_begin.cls ≠ "java/lang/invoke/MethodHandle" ∧ yX6_begin.cls ≠ "java/lang/invoke/VarHandle" ∧ (parseMethodDescriptor yX6_begin.desc).map (fun d => d.parameters.length) = some 3 := by decide +kernel
theorem hd_yX5_layGoal_RX5 : yX5_layGoal.cls = RX5 ∧ yX5_layGoal.cls ≠ "java/lang/invoke/MethodHandle" ∧ yX5_layGoal.cls ≠ "java/lang/invoke/VarHandle" ∧ (parseMethodDescriptor yX5_layGoal.desc).map (fun d => d.parameters.length) = some 2 := by decide +kernel
theorem hd_yX5_layWay_RX5 : yX5_layWay.cls = RX5 ∧ yX5_layWay.cls ≠ "java/lang/invoke/MethodHandle" ∧ yX5_layWay.cls ≠ "java/lang/invoke/VarHandle" ∧ (parseMethodDescriptor yX5_layWay.desc).map (fun d => d.parameters.length) = some 3 := by decide +kernel
theorem dX5_lay_0 : decode cX5_lay 0 = .ok (.iconst 0, 1) := dk_3 (by decide +kernel)
theorem dX5_lay_1 : decode cX5_lay 1 = .ok (.istore_n 3, 1) := dk_62 (by decide +kernel)
theorem dX5_lay_2 : decode cX5_lay 2 = .ok (.iconst 0, 1) := dk_3 (by decide +kernel)
theorem dX5_lay_3 : decode cX5_lay 3 = .ok (.istore 4, 2) := dk_54 (by decide +kernel)
theorem dX5_lay_5 : decode cX5_lay 5 = .ok (.iload 4, 2) := dk_21 (by decide +kernel)
theorem dX5_lay_7 : decode cX5_lay 7 = .ok (.aload_n 0, 1) := dk_42 (by decide +kernel)
theorem dX5_lay_8 : decode cX5_lay 8 = .ok (.getfield 74, 3) := dk_180 (by decide +kernel)
theorem dX5_lay_11 : decode cX5_lay 11 = .ok (.getfield 112, 3) := dk_180 (by decide +kernel)
theorem dX5_lay_14 : decode cX5_lay 14 = .ok (.if_icmp .ge 74, 3) := dk_162 (by decide +kernel)
theorem dX5_lay_17 : decode cX5_lay 17 = .ok (.iload_n 1, 1) := dk_27 (by decide +kernel)
theorem dX5_lay_18 : decode cX5_lay 18 = .ok (.ifCond .ne 16, 3) := dk_154 (by decide +kernel)
theorem dX5_lay_21 : decode cX5_lay 21 = .ok (.aload_n 0, 1) := dk_42 (by decide +kernel)
theorem dX5_lay_22 : decode cX5_lay 22 = .ok (.getfield 74, 3) := dk_180 (by decide +kernel)
theorem dX5_lay_25 : decode cX5_lay 25 = .ok (.getfield 143, 3) := dk_180 (by decide +kernel)
theorem dX5_lay_28 : decode cX5_lay 28 = .ok (.iload 4, 2) := dk_21 (by decide +kernel)
theorem dX5_lay_30 : decode cX5_lay 30 = .ok (.baload, 1) := dk_51 (by decide +kernel)
theorem dX5_lay_31 : decode cX5_lay 31 = .ok (.ifCond .ne 7, 3) := dk_154 (by decide +kernel)
theorem dX5_lay_34 : decode cX5_lay 34 = .ok (.iconst 1, 1) := dk_4 (by decide +kernel)
theorem dX5_lay_35 : decode cX5_lay 35 = .ok (.goto 4, 3) := dk_167 (by decide +kernel)
theorem dX5_lay_38 : decode cX5_lay 38 = .ok (.iconst 0, 1) := dk_3 (by decide +kernel)
theorem dX5_lay_39 : decode cX5_lay 39 = .ok (.istore 5, 2) := dk_54 (by decide +kernel)
theorem dX5_lay_41 : decode cX5_lay 41 = .ok (.aload_n 0, 1) := dk_42 (by decide +kernel)
theorem dX5_lay_42 : decode cX5_lay 42 = .ok (.getfield 38, 3) := dk_180 (by decide +kernel)
theorem dX5_lay_45 : decode cX5_lay 45 = .ok (.iload 4, 2) := dk_21 (by decide +kernel)
theorem dX5_lay_47 : decode cX5_lay 47 = .ok (.iload 5, 2) := dk_21 (by decide +kernel)
theorem dX5_lay_49 : decode cX5_lay 49 = .ok (.ifCond .eq 10, 3) := dk_153 (by decide +kernel)
theorem dX5_lay_52 : decode cX5_lay 52 = .ok (.iinc 3 1, 3) := dk_132 (by decide +kernel)
theorem dX5_lay_55 : decode cX5_lay 55 = .ok (.iload_n 3, 1) := dk_29 (by decide +kernel)
theorem dX5_lay_56 : decode cX5_lay 56 = .ok (.goto 4, 3) := dk_167 (by decide +kernel)
theorem dX5_lay_59 : decode cX5_lay 59 = .ok (.iconst (-1), 1) := dk_2 (by decide +kernel)
theorem dX5_lay_60 : decode cX5_lay 60 = .ok (.iastore, 1) := dk_79 (by decide +kernel)
theorem dX5_lay_61 : decode cX5_lay 61 = .ok (.iload_n 1, 1) := dk_27 (by decide +kernel)
theorem dX5_lay_62 : decode cX5_lay 62 = .ok (.ifCond .eq 20, 3) := dk_153 (by decide +kernel)
theorem dX5_lay_65 : decode cX5_lay 65 = .ok (.aload_n 0, 1) := dk_42 (by decide +kernel)
theorem dX5_lay_66 : decode cX5_lay 66 = .ok (.getfield 35, 3) := dk_180 (by decide +kernel)
theorem dX5_lay_69 : decode cX5_lay 69 = .ok (.iload 4, 2) := dk_21 (by decide +kernel)
theorem dX5_lay_71 : decode cX5_lay 71 = .ok (.aload_n 0, 1) := dk_42 (by decide +kernel)
theorem dX5_lay_72 : decode cX5_lay 72 = .ok (.getfield 74, 3) := dk_180 (by decide +kernel)
theorem dX5_lay_75 : decode cX5_lay 75 = .ok (.getfield 150, 3) := dk_180 (by decide +kernel)
theorem dX5_lay_78 : decode cX5_lay 78 = .ok (.iload 4, 2) := dk_21 (by decide +kernel)
theorem dX5_lay_80 : decode cX5_lay 80 = .ok (.iaload, 1) := dk_46 (by decide +kernel)
theorem dX5_lay_81 : decode cX5_lay 81 = .ok (.iastore, 1) := dk_79 (by decide +kernel)
theorem dX5_lay_82 : decode cX5_lay 82 = .ok (.iinc 4 1, 3) := dk_132 (by decide +kernel)
theorem dX5_lay_85 : decode cX5_lay 85 = .ok (.goto (-80), 3) := dk_167 (by decide +kernel)
theorem dX5_lay_88 : decode cX5_lay 88 = .ok (.iload_n 1, 1) := dk_27 (by decide +kernel)
theorem dX5_lay_89 : decode cX5_lay 89 = .ok (.ifCond .eq 13, 3) := dk_153 (by decide +kernel)
theorem dX5_lay_92 : decode cX5_lay 92 = .ok (.aload_n 0, 1) := dk_42 (by decide +kernel)
theorem dX5_lay_93 : decode cX5_lay 93 = .ok (.getfield 74, 3) := dk_180 (by decide +kernel)
theorem dX5_lay_96 : decode cX5_lay 96 = .ok (.getfield 166, 3) := dk_180 (by decide +kernel)
theorem dX5_lay_99 : decode cX5_lay 99 = .ok (.goto 10, 3) := dk_167 (by decide +kernel)
theorem dX5_lay_102 : decode cX5_lay 102 = .ok (.aload_n 0, 1) := dk_42 (by decide +kernel)
theorem dX5_lay_103 : decode cX5_lay 103 = .ok (.getfield 74, 3) := dk_180 (by decide +kernel)
theorem dX5_lay_106 : decode cX5_lay 106 = .ok (.getfield 131, 3) := dk_180 (by decide +kernel)
theorem dX5_lay_109 : decode cX5_lay 109 = .ok (.istore 4, 2) := dk_54 (by decide +kernel)
theorem dX5_lay_111 : decode cX5_lay 111 = .ok (.aload_n 0, 1) := dk_42 (by decide +kernel)
theorem dX5_lay_112 : decode cX5_lay 112 = .ok (.getfield 12, 3) := dk_180 (by decide +kernel)
theorem dX5_lay_115 : decode cX5_lay 115 = .ok (.iload 4, 2) := dk_21 (by decide +kernel)
theorem dX5_lay_117 : decode cX5_lay 117 = .ok (.iload_n 3, 1) := dk_29 (by decide +kernel)
theorem dX5_lay_118 : decode cX5_lay 118 = .ok (.iadd, 1) := dk_96 (by decide +kernel)
theorem dX5_lay_119 : decode cX5_lay 119 = .ok (.iload_n 2, 1) := dk_28 (by decide +kernel)
theorem dX5_lay_120 : decode cX5_lay 120 = .ok (.iload_n 3, 1) := dk_29 (by decide +kernel)
theorem dX5_lay_121 : decode cX5_lay 121 = .ok (.invokevirtual 169, 3) := dk_182 (by decide +kernel)
theorem dX5_lay_124 : decode cX5_lay 124 = .ok (.iconst 0, 1) := dk_3 (by decide +kernel)
theorem dX5_lay_125 : decode cX5_lay 125 = .ok (.istore 5, 2) := dk_54 (by decide +kernel)
theorem dX5_lay_127 : decode cX5_lay 127 = .ok (.iconst 0, 1) := dk_3 (by decide +kernel)
theorem dX5_lay_128 : decode cX5_lay 128 = .ok (.istore 6, 2) := dk_54 (by decide +kernel)
theorem dX5_lay_130 : decode cX5_lay 130 = .ok (.iload 6, 2) := dk_21 (by decide +kernel)
theorem dX5_lay_132 : decode cX5_lay 132 = .ok (.aload_n 0, 1) := dk_42 (by decide +kernel)
theorem dX5_lay_133 : decode cX5_lay 133 = .ok (.getfield 74, 3) := dk_180 (by decide +kernel)
theorem dX5_lay_136 : decode cX5_lay 136 = .ok (.getfield 131, 3) := dk_180 (by decide +kernel)
theorem dX5_lay_139 : decode cX5_lay 139 = .ok (.if_icmp .ge 58, 3) := dk_162 (by decide +kernel)
theorem dX5_lay_142 : decode cX5_lay 142 = .ok (.iload_n 1, 1) := dk_27 (by decide +kernel)
theorem dX5_lay_143 : decode cX5_lay 143 = .ok (.ifCond .eq 17, 3) := dk_153 (by decide +kernel)
theorem dX5_lay_146 : decode cX5_lay 146 = .ok (.aload_n 0, 1) := dk_42 (by decide +kernel)
theorem dX5_lay_147 : decode cX5_lay 147 = .ok (.getfield 74, 3) := dk_180 (by decide +kernel)
theorem dX5_lay_150 : decode cX5_lay 150 = .ok (.getfield 134, 3) := dk_180 (by decide +kernel)
theorem dX5_lay_153 : decode cX5_lay 153 = .ok (.iload 6, 2) := dk_21 (by decide +kernel)
theorem dX5_lay_155 : decode cX5_lay 155 = .ok (.iaload, 1) := dk_46 (by decide +kernel)
theorem dX5_lay_156 : decode cX5_lay 156 = .ok (.iconst 1, 1) := dk_4 (by decide +kernel)
theorem dX5_lay_157 : decode cX5_lay 157 = .ok (.if_icmp .ne 34, 3) := dk_160 (by decide +kernel)
theorem dX5_lay_160 : decode cX5_lay 160 = .ok (.aload_n 0, 1) := dk_42 (by decide +kernel)
theorem dX5_lay_161 : decode cX5_lay 161 = .ok (.iload 5, 2) := dk_21 (by decide +kernel)
theorem dX5_lay_163 : decode cX5_lay 163 = .ok (.iload 6, 2) := dk_21 (by decide +kernel)
theorem dX5_lay_165 : decode cX5_lay 165 = .ok (.iload_n 1, 1) := dk_27 (by decide +kernel)
theorem dX5_lay_166 : decode cX5_lay 166 = .ok (.ifCond .eq 7, 3) := dk_153 (by decide +kernel)
theorem dX5_lay_169 : decode cX5_lay 169 = .ok (.iconst 0, 1) := dk_3 (by decide +kernel)
theorem dX5_lay_170 : decode cX5_lay 170 = .ok (.goto 10, 3) := dk_167 (by decide +kernel)
theorem dX5_lay_173 : decode cX5_lay 173 = .ok (.aload_n 0, 1) := dk_42 (by decide +kernel)
theorem dX5_lay_174 : decode cX5_lay 174 = .ok (.getfield 41, 3) := dk_180 (by decide +kernel)
theorem dX5_lay_177 : decode cX5_lay 177 = .ok (.iload 6, 2) := dk_21 (by decide +kernel)
theorem dX5_lay_179 : decode cX5_lay 179 = .ok (.iaload, 1) := dk_46 (by decide +kernel)
theorem dX5_lay_180 : decode cX5_lay 180 = .ok (.invokevirtual 173, 3) := dk_182 (by decide +kernel)
theorem dX5_lay_183 : decode cX5_lay 183 = .ok (.ifCond .ne 5, 3) := dk_154 (by decide +kernel)
theorem dX5_lay_186 : decode cX5_lay 186 = .ok (.iconst 0, 1) := dk_3 (by decide +kernel)
theorem dX5_lay_187 : decode cX5_lay 187 = .ok (.ireturn, 1) := dk_172 (by decide +kernel)
theorem dX5_lay_188 : decode cX5_lay 188 = .ok (.iinc 5 1, 3) := dk_132 (by decide +kernel)
theorem dX5_lay_191 : decode cX5_lay 191 = .ok (.iinc 6 1, 3) := dk_132 (by decide +kernel)
theorem dX5_lay_194 : decode cX5_lay 194 = .ok (.goto (-64), 3) := dk_167 (by decide +kernel)
theorem dX5_lay_197 : decode cX5_lay 197 = .ok (.iconst 0, 1) := dk_3 (by decide +kernel)
theorem dX5_lay_198 : decode cX5_lay 198 = .ok (.istore 6, 2) := dk_54 (by decide +kernel)
theorem dX5_lay_200 : decode cX5_lay 200 = .ok (.iload 6, 2) := dk_21 (by decide +kernel)
theorem dX5_lay_202 : decode cX5_lay 202 = .ok (.aload_n 0, 1) := dk_42 (by decide +kernel)
theorem dX5_lay_203 : decode cX5_lay 203 = .ok (.getfield 74, 3) := dk_180 (by decide +kernel)
theorem dX5_lay_206 : decode cX5_lay 206 = .ok (.getfield 112, 3) := dk_180 (by decide +kernel)
theorem dX5_lay_209 : decode cX5_lay 209 = .ok (.if_icmp .ge 80, 3) := dk_162 (by decide +kernel)
theorem dX5_lay_212 : decode cX5_lay 212 = .ok (.aload_n 0, 1) := dk_42 (by decide +kernel)
theorem dX5_lay_213 : decode cX5_lay 213 = .ok (.getfield 38, 3) := dk_180 (by decide +kernel)
theorem dX5_lay_216 : decode cX5_lay 216 = .ok (.iload 6, 2) := dk_21 (by decide +kernel)
theorem dX5_lay_218 : decode cX5_lay 218 = .ok (.iaload, 1) := dk_46 (by decide +kernel)
theorem dX5_lay_219 : decode cX5_lay 219 = .ok (.iconst (-1), 1) := dk_2 (by decide +kernel)
theorem dX5_lay_220 : decode cX5_lay 220 = .ok (.if_icmp .eq 63, 3) := dk_159 (by decide +kernel)
theorem dX5_lay_223 : decode cX5_lay 223 = .ok (.aload_n 0, 1) := dk_42 (by decide +kernel)
theorem dX5_lay_224 : decode cX5_lay 224 = .ok (.getfield 12, 3) := dk_180 (by decide +kernel)
theorem dX5_lay_227 : decode cX5_lay 227 = .ok (.iload 5, 2) := dk_21 (by decide +kernel)
theorem dX5_lay_229 : decode cX5_lay 229 = .ok (.iconst 0, 1) := dk_3 (by decide +kernel)
theorem dX5_lay_230 : decode cX5_lay 230 = .ok (.invokevirtual 177, 3) := dk_182 (by decide +kernel)
theorem dX5_lay_233 : decode cX5_lay 233 = .ok (.aload_n 0, 1) := dk_42 (by decide +kernel)
theorem dX5_lay_234 : decode cX5_lay 234 = .ok (.getfield 74, 3) := dk_180 (by decide +kernel)
theorem dX5_lay_237 : decode cX5_lay 237 = .ok (.getfield 181, 3) := dk_180 (by decide +kernel)
theorem dX5_lay_240 : decode cX5_lay 240 = .ok (.iload 6, 2) := dk_21 (by decide +kernel)
theorem dX5_lay_242 : decode cX5_lay 242 = .ok (.iaload, 1) := dk_46 (by decide +kernel)
theorem dX5_lay_243 : decode cX5_lay 243 = .ok (.aload_n 0, 1) := dk_42 (by decide +kernel)
theorem dX5_lay_244 : decode cX5_lay 244 = .ok (.getfield 74, 3) := dk_180 (by decide +kernel)
theorem dX5_lay_247 : decode cX5_lay 247 = .ok (.getfield 150, 3) := dk_180 (by decide +kernel)
theorem dX5_lay_250 : decode cX5_lay 250 = .ok (.iload 6, 2) := dk_21 (by decide +kernel)
theorem dX5_lay_252 : decode cX5_lay 252 = .ok (.iaload, 1) := dk_46 (by decide +kernel)
theorem dX5_lay_253 : decode cX5_lay 253 = .ok (.isub, 1) := dk_100 (by decide +kernel)
theorem dX5_lay_254 : decode cX5_lay 254 = .ok (.i2l, 1) := dk_133 (by decide +kernel)
theorem dX5_lay_255 : decode cX5_lay 255 = .ok (.invokevirtual 184, 3) := dk_182 (by decide +kernel)
theorem dX5_lay_258 : decode cX5_lay 258 = .ok (.aload_n 0, 1) := dk_42 (by decide +kernel)
theorem dX5_lay_259 : decode cX5_lay 259 = .ok (.getfield 12, 3) := dk_180 (by decide +kernel)
theorem dX5_lay_262 : decode cX5_lay 262 = .ok (.iload 5, 2) := dk_21 (by decide +kernel)
theorem dX5_lay_264 : decode cX5_lay 264 = .ok (.aload_n 0, 1) := dk_42 (by decide +kernel)
theorem dX5_lay_265 : decode cX5_lay 265 = .ok (.getfield 38, 3) := dk_180 (by decide +kernel)
theorem dX5_lay_268 : decode cX5_lay 268 = .ok (.iload 6, 2) := dk_21 (by decide +kernel)
theorem dX5_lay_270 : decode cX5_lay 270 = .ok (.iaload, 1) := dk_46 (by decide +kernel)
theorem dX5_lay_271 : decode cX5_lay 271 = .ok (.invokevirtual 177, 3) := dk_182 (by decide +kernel)
theorem dX5_lay_274 : decode cX5_lay 274 = .ok (.ldc2_w 188, 3) := dk_20 (by decide +kernel)
theorem dX5_lay_277 : decode cX5_lay 277 = .ok (.invokevirtual 184, 3) := dk_182 (by decide +kernel)
theorem dX5_lay_280 : decode cX5_lay 280 = .ok (.iinc 5 1, 3) := dk_132 (by decide +kernel)
theorem dX5_lay_283 : decode cX5_lay 283 = .ok (.iinc 6 1, 3) := dk_132 (by decide +kernel)
theorem dX5_lay_286 : decode cX5_lay 286 = .ok (.goto (-86), 3) := dk_167 (by decide +kernel)
theorem dX5_lay_289 : decode cX5_lay 289 = .ok (.iconst 0, 1) := dk_3 (by decide +kernel)
theorem dX5_lay_290 : decode cX5_lay 290 = .ok (.istore 6, 2) := dk_54 (by decide +kernel)
theorem dX5_lay_292 : decode cX5_lay 292 = .ok (.iload 6, 2) := dk_21 (by decide +kernel)
theorem dX5_lay_294 : decode cX5_lay 294 = .ok (.iload_n 2, 1) := dk_28 (by decide +kernel)
theorem dX5_lay_295 : decode cX5_lay 295 = .ok (.if_icmp .ge 20, 3) := dk_162 (by decide +kernel)
theorem dX5_lay_298 : decode cX5_lay 298 = .ok (.aload_n 0, 1) := dk_42 (by decide +kernel)
theorem dX5_lay_299 : decode cX5_lay 299 = .ok (.iload 5, 2) := dk_21 (by decide +kernel)
theorem dX5_lay_301 : decode cX5_lay 301 = .ok (.iload 6, 2) := dk_21 (by decide +kernel)
theorem dX5_lay_303 : decode cX5_lay 303 = .ok (.iadd, 1) := dk_96 (by decide +kernel)
theorem dX5_lay_304 : decode cX5_lay 304 = .ok (.iload 6, 2) := dk_21 (by decide +kernel)
theorem dX5_lay_306 : decode cX5_lay 306 = .ok (.invokevirtual 190, 3) := dk_182 (by decide +kernel)
theorem dX5_lay_309 : decode cX5_lay 309 = .ok (.iinc 6 1, 3) := dk_132 (by decide +kernel)
theorem dX5_lay_312 : decode cX5_lay 312 = .ok (.goto (-20), 3) := dk_167 (by decide +kernel)
theorem dX5_lay_315 : decode cX5_lay 315 = .ok (.iconst 1, 1) := dk_4 (by decide +kernel)
theorem dX5_lay_316 : decode cX5_lay 316 = .ok (.ireturn, 1) := dk_172 (by decide +kernel)
def wsMX5_lay : List Cond := .code yX5_lay cX5_lay 7 (some .boolean) :: ([.fieldLink RX5 74 "OptimaWorks$Solver" "model" "LOptimaWorks$Model;", .fieldLink RX5 112 "OptimaWorks$Model" "variables" "I", .fieldLink RX5 38 "OptimaWorks$Solver" "column" "[I", .fieldLink RX5 35 "OptimaWorks$Solver" "start" "[I", .fieldLink RX5 150 "OptimaWorks$Model" "from" "[I", .fieldLink RX5 143 "OptimaWorks$Model" "whole" "[Z", .fieldLink RX5 131 "OptimaWorks$Model" "rows" "I", .fieldLink RX5 166 "OptimaWorks$Model" "plainRows" "I", .fieldLink RX5 12 "OptimaWorks$Solver" "tableau" "LOptimaWorks$Tableau;", .fieldLink RX5 181 "OptimaWorks$Model" "to" "[I", .constantLong RX5 188 (-1), .fieldLink RX5 41 "OptimaWorks$Solver" "chosen" "[I", .fieldLink RX5 134 "OptimaWorks$Model" "ways" "[I"] ++ wsX10 ++ wsX50 ++ (wsV RX5 169 RX6 yX6_begin wsMX6_begin) ++ (wsV RX5 177 RX6 yX6_cellAt wsMX6_cellAt) ++ (wsV RX5 184 RX8 yX8_setLong wsMX8_setLong) ++ (wsV RX5 190 RX5 yX5_layGoal wsMX5_layGoal) ++ (wsV RX5 173 RX5 yX5_layWay wsMX5_layWay))
theorem iwsMX5_lay_in1 : ∀ w ∈ wsX10, w ∈ wsMX5_lay := fun _ h => List.mem_cons_of_mem _ (List.mem_append_left _ (List.mem_append_left _ (List.mem_append_left _ (List.mem_append_left _ (List.mem_append_left _ (List.mem_append_left _ (List.mem_append_right _ h)))))))
theorem iwsMX5_lay_in5 : ∀ w ∈ wsX50, w ∈ wsMX5_lay := fun _ h => List.mem_cons_of_mem _ (List.mem_append_left _ (List.mem_append_left _ (List.mem_append_left _ (List.mem_append_left _ (List.mem_append_left _ (List.mem_append_right _ h))))))
theorem gwsMX5_lay_0 : GoodIn wsMX5_lay (wsV RX5 169 RX6 yX6_begin wsMX6_begin) := goodIn_sub (fun _ h => List.mem_cons_of_mem _ (List.mem_append_left _ (List.mem_append_left _ (List.mem_append_left _ (List.mem_append_left _ (List.mem_append_right _ h)))))) (gdV (by decide +kernel) gdwsMX6_begin)
theorem gwsMX5_lay_1 : GoodIn wsMX5_lay (wsV RX5 177 RX6 yX6_cellAt wsMX6_cellAt) := goodIn_sub (fun _ h => List.mem_cons_of_mem _ (List.mem_append_left _ (List.mem_append_left _ (List.mem_append_left _ (List.mem_append_right _ h))))) (gdV (by decide +kernel) gdwsMX6_cellAt)
theorem gwsMX5_lay_2 : GoodIn wsMX5_lay (wsV RX5 184 RX8 yX8_setLong wsMX8_setLong) := goodIn_sub (fun _ h => List.mem_cons_of_mem _ (List.mem_append_left _ (List.mem_append_left _ (List.mem_append_right _ h)))) (gdV (by decide +kernel) gdwsMX8_setLong)
theorem gwsMX5_lay_3 : GoodIn wsMX5_lay (wsV RX5 190 RX5 yX5_layGoal wsMX5_layGoal) := goodIn_sub (fun _ h => List.mem_cons_of_mem _ (List.mem_append_left _ (List.mem_append_right _ h))) (gdV (by decide +kernel) gdwsMX5_layGoal)
theorem gwsMX5_lay_4 : GoodIn wsMX5_lay (wsV RX5 173 RX5 yX5_layWay wsMX5_layWay) := goodIn_sub (fun _ h => List.mem_cons_of_mem _ (List.mem_append_right _ h)) (gdV (by decide +kernel) gdwsMX5_layWay)
theorem gdwsMX5_lay : wsMX5_lay.all goodWord = true := gdC rfl (gdA (gdA (gdA (gdA (gdA (gdA (gdA (by decide +kernel : ([.fieldLink RX5 74 "OptimaWorks$Solver" "model" "LOptimaWorks$Model;", .fieldLink RX5 112 "OptimaWorks$Model" "variables" "I", .fieldLink RX5 38 "OptimaWorks$Solver" "column" "[I", .fieldLink RX5 35 "OptimaWorks$Solver" "start" "[I", .fieldLink RX5 150 "OptimaWorks$Model" "from" "[I", .fieldLink RX5 143 "OptimaWorks$Model" "whole" "[Z", .fieldLink RX5 131 "OptimaWorks$Model" "rows" "I", .fieldLink RX5 166 "OptimaWorks$Model" "plainRows" "I", .fieldLink RX5 12 "OptimaWorks$Solver" "tableau" "LOptimaWorks$Tableau;", .fieldLink RX5 181 "OptimaWorks$Model" "to" "[I", .constantLong RX5 188 (-1), .fieldLink RX5 41 "OptimaWorks$Solver" "chosen" "[I", .fieldLink RX5 134 "OptimaWorks$Model" "ways" "[I"] : List Cond).all goodWord = true) gdwsX10) gdwsX50) (gdV (by decide +kernel) gdwsMX6_begin)) (gdV (by decide +kernel) gdwsMX6_cellAt)) (gdV (by decide +kernel) gdwsMX8_setLong)) (gdV (by decide +kernel) gdwsMX5_layGoal)) (gdV (by decide +kernel) gdwsMX5_layWay))
theorem hm_m_X5_lay_0 : (.fieldLink RX5 74 "OptimaWorks$Solver" "model" "LOptimaWorks$Model;" : Cond) ∈ wsMX5_lay := by decide +kernel
theorem hm_m_X5_lay_1 : (.fieldLink RX5 112 "OptimaWorks$Model" "variables" "I" : Cond) ∈ wsMX5_lay := by decide +kernel
theorem hm_m_X5_lay_2 : (.fieldLink RX5 131 "OptimaWorks$Model" "rows" "I" : Cond) ∈ wsMX5_lay := by decide +kernel
theorem hm_m_X5_lay_3 : (.fieldLink RX5 12 "OptimaWorks$Solver" "tableau" "LOptimaWorks$Tableau;" : Cond) ∈ wsMX5_lay := by decide +kernel
theorem hm_m_X5_lay_4 : (.fieldLink RX5 38 "OptimaWorks$Solver" "column" "[I" : Cond) ∈ wsMX5_lay := by decide +kernel
theorem hm_m_X5_lay_5 : (.fieldLink RX5 150 "OptimaWorks$Model" "from" "[I" : Cond) ∈ wsMX5_lay := by decide +kernel
theorem hm_m_X5_lay_6 : (.fieldLink RX5 41 "OptimaWorks$Solver" "chosen" "[I" : Cond) ∈ wsMX5_lay := by decide +kernel
theorem hm_m_X5_lay_7 : (.fieldLink RX5 35 "OptimaWorks$Solver" "start" "[I" : Cond) ∈ wsMX5_lay := by decide +kernel
set_option maxHeartbeats 4000000 in
set_option maxRecDepth 100000 in
/-- a case is laid out -/
theorem m_X5_lay (l : Launch) (dC : Nat → ClassId) (dI : Nat → Nat → Nat) (hO : Nat → Nat) (aO : Nat → Nat) (kO : Nat → ClassId) (hM : Nat → Nat) (hQ : Nat → Nat) (hw : Nat → Nat) (iO_answered : Int32) (iO_searched : Int32) (iO_searchedRelaxed : Int32) (iO_counted : Int32) (fO_countedCase : Nat → Int32) (gO_goalNumber : Nat → Int64) (gO_goalScale : Nat → Int64) (fO_start : Nat → Int32) (fO_column : Nat → Int32) (fO_chosen : Nat → Int32) (aM : Nat → Nat) (kM : Nat → ClassId) (iM_stands : Int32) (iM_variables : Int32) (iM_rows : Int32) (iM_goals : Int32) (iM_differents : Int32) (iM_cases : Int32) (fM_from : Nat → Int32) (fM_to : Nat → Int32) (fM_whole : Nat → Int32) (fM_ways : Nat → Int32) (iM_plainRows : Int32) (fM_plainRow : Nat → Int32) (fM_kept : Nat → Int32) (fM_goalOver : Nat → Int32) (fM_goalUnder : Nat → Int32) (fM_goalMax : Nat → Int32) (fM_different : Nat → Int32) (aQ : Nat → Nat) (kQ : Nat → ClassId) (fQ_inside : Nat → Int32) (fQ_outside : Nat → Int32) (fQ_shut : Nat → Int32) (iQ_rows : Int32) (iQ_allRows : Int32) (iQ_columns : Int32) (nW : Nat) (lw : Nat → Nat) (kw : ClassId) (wl : Nat → Int32) (wb : Nat → Int32) (wG : Nat → Nat → Int64) (p1 : Int32) (p2 : Int32) (b_iO_answered : 0 ≤ iO_answered.toInt ∧ iO_answered.toInt ≤ 1) (b_iO_searched : 0 ≤ iO_searched.toInt ∧ iO_searched.toInt ≤ 1) (b_iO_searchedRelaxed : 0 ≤ iO_searchedRelaxed.toInt ∧ iO_searchedRelaxed.toInt ≤ 1) (b_iO_counted : (-1) ≤ iO_counted.toInt ∧ iO_counted.toInt ≤ 64) (b_fO_countedCase : ∀ q : Nat, 0 ≤ (fO_countedCase q).toInt ∧ (fO_countedCase q).toInt ≤ 200000) (b_fO_column : ∀ q : Nat, (-1) ≤ (fO_column q).toInt ∧ (fO_column q).toInt ≤ 8) (b_fO_chosen : ∀ q : Nat, 0 ≤ (fO_chosen q).toInt ∧ (fO_chosen q).toInt ≤ 2) (b_iM_stands : 0 ≤ iM_stands.toInt ∧ iM_stands.toInt ≤ 1) (b_iM_variables : 0 ≤ iM_variables.toInt ∧ iM_variables.toInt ≤ 8) (b_iM_rows : 0 ≤ iM_rows.toInt ∧ iM_rows.toInt ≤ 12) (b_iM_goals : 0 ≤ iM_goals.toInt ∧ iM_goals.toInt ≤ 3) (b_iM_differents : 0 ≤ iM_differents.toInt ∧ iM_differents.toInt ≤ 8) (b_iM_cases : 0 ≤ iM_cases.toInt ∧ iM_cases.toInt ≤ 200000) (b_fM_ways : ∀ q : Nat, 0 ≤ (fM_ways q).toInt ∧ (fM_ways q).toInt ≤ 3) (b_iM_plainRows : 0 ≤ iM_plainRows.toInt ∧ iM_plainRows.toInt ≤ 12) (b_fM_plainRow : ∀ q : Nat, 0 ≤ (fM_plainRow q).toInt ∧ (fM_plainRow q).toInt ≤ 11) (b_pr : iM_plainRows.toInt ≤ iM_rows.toInt) (b_iQ_rows : 0 ≤ iQ_rows.toInt ∧ iQ_rows.toInt ≤ 40) (b_iQ_allRows : 0 ≤ iQ_allRows.toInt ∧ iQ_allRows.toInt ≤ 40) (b_iQ_columns : 0 ≤ iQ_columns.toInt ∧ iQ_columns.toInt ≤ 40) (b_tb : TbO iQ_rows iQ_allRows iQ_columns) (b_wl : ∀ q : Nat, 0 ≤ (wl q).toInt ∧ (wl q).toInt ≤ 14) (b_wb : ∀ q : Nat, 0 ≤ (wb q).toInt ∧ (wb q).toInt ≤ 1) (b_p2 : 0 ≤ p2.toInt ∧ p2.toInt ≤ 3) (hnW : 432 ≤ nW) (sz : Nat) : Met l yX5_lay wsMX5_lay ({ frames := 5, cells := 0, slots := 0, locals := 111 }) (va_Pc [.ref (hO 0), .int p1, .int p2] (fun U => U.heap.size = sz ∧ va_P (dC, dI) vwCl (WO hO aO kO hM hQ hw iO_answered iO_searched iO_searchedRelaxed iO_counted fO_countedCase gO_goalNumber gO_goalScale fO_start fO_column fO_chosen ++ (WM hM aM kM iM_stands iM_variables iM_rows iM_goals iM_differents iM_cases fM_from fM_to fM_whole fM_ways iM_plainRows fM_plainRow fM_kept fM_goalOver fM_goalUnder fM_goalMax fM_different ++ (WQ hQ aQ kQ hw fQ_inside fQ_outside fQ_shut iQ_rows iQ_allRows iQ_columns ++ (WW nW hw lw kw wl wb wG)))) U.heap ∧ va_K (dC, dI) vwCl (tO kO ++ (tM kM ++ (tQ kQ ++ (tW kw)))) U ∧ va_D (fun _ => True) (WO hO aO kO hM hQ hw iO_answered iO_searched iO_searchedRelaxed iO_counted fO_countedCase gO_goalNumber gO_goalScale fO_start fO_column fO_chosen ++ (WM hM aM kM iM_stands iM_variables iM_rows iM_goals iM_differents iM_cases fM_from fM_to fM_whole fM_ways iM_plainRows fM_plainRow fM_kept fM_goalOver fM_goalUnder fM_goalMax fM_different ++ (WQ hQ aQ kQ hw fQ_inside fQ_outside fQ_shut iQ_rows iQ_allRows iQ_columns ++ (WW nW hw lw kw wl wb wG)))))) (va_Qi (fun (r : Int32) (u : (Nat → Int32) × (Nat → Int32) × (Nat → Int32) × (Nat → Int32) × (Nat → Int32) × (Int32) × (Int32) × (Int32) × (Nat → Int32) × (Nat → Int32) × (Nat → Nat → Int64)) => (∀ q : Nat, (-1) ≤ ((u.2.1) q).toInt ∧ ((u.2.1) q).toInt ≤ 8) ∧ (0 ≤ (u.2.2.2.2.2.1).toInt ∧ (u.2.2.2.2.2.1).toInt ≤ 40) ∧ (0 ≤ (u.2.2.2.2.2.2.1).toInt ∧ (u.2.2.2.2.2.2.1).toInt ≤ 40) ∧ (0 ≤ (u.2.2.2.2.2.2.2.1).toInt ∧ (u.2.2.2.2.2.2.2.1).toInt ≤ 40) ∧ (∀ q : Nat, 0 ≤ ((u.2.2.2.2.2.2.2.2.1) q).toInt ∧ ((u.2.2.2.2.2.2.2.2.1) q).toInt ≤ 14) ∧ (∀ q : Nat, 0 ≤ ((u.2.2.2.2.2.2.2.2.2.1) q).toInt ∧ ((u.2.2.2.2.2.2.2.2.2.1) q).toInt ≤ 1) ∧ (TbO (u.2.2.2.2.2.1) (u.2.2.2.2.2.2.1) (u.2.2.2.2.2.2.2.1)) ∧ (0 ≤ r.toInt ∧ r.toInt ≤ 1) ∧ ((u.2.2.2.2.2.2.2.1).toInt ≤ 8) ∧ ((u.2.2.2.2.2.1).toInt ≤ 20)) (fun (u : (Nat → Int32) × (Nat → Int32) × (Nat → Int32) × (Nat → Int32) × (Nat → Int32) × (Int32) × (Int32) × (Int32) × (Nat → Int32) × (Nat → Int32) × (Nat → Nat → Int64)) t => va_P (dC, dI) vwCl (WO hO aO kO hM hQ hw iO_answered iO_searched iO_searchedRelaxed iO_counted fO_countedCase gO_goalNumber gO_goalScale (u.1) (u.2.1) fO_chosen ++ (WM hM aM kM iM_stands iM_variables iM_rows iM_goals iM_differents iM_cases fM_from fM_to fM_whole fM_ways iM_plainRows fM_plainRow fM_kept fM_goalOver fM_goalUnder fM_goalMax fM_different ++ (WQ hQ aQ kQ hw (u.2.2.1) (u.2.2.2.1) (u.2.2.2.2.1) (u.2.2.2.2.2.1) (u.2.2.2.2.2.2.1) (u.2.2.2.2.2.2.2.1) ++ (WW nW hw lw kw (u.2.2.2.2.2.2.2.2.1) (u.2.2.2.2.2.2.2.2.2.1) (u.2.2.2.2.2.2.2.2.2.2))))) t.heap ∧ va_D (va_A (WO hO aO kO hM hQ hw iO_answered iO_searched iO_searchedRelaxed iO_counted fO_countedCase gO_goalNumber gO_goalScale fO_start fO_column fO_chosen ++ (WM hM aM kM iM_stands iM_variables iM_rows iM_goals iM_differents iM_cases fM_from fM_to fM_whole fM_ways iM_plainRows fM_plainRow fM_kept fM_goalOver fM_goalUnder fM_goalMax fM_different ++ (WQ hQ aQ kQ hw fQ_inside fQ_outside fQ_shut iQ_rows iQ_allRows iQ_columns ++ (WW nW hw lw kw wl wb wG)))) sz) (WO hO aO kO hM hQ hw iO_answered iO_searched iO_searchedRelaxed iO_counted fO_countedCase gO_goalNumber gO_goalScale (u.1) (u.2.1) fO_chosen ++ (WM hM aM kM iM_stands iM_variables iM_rows iM_goals iM_differents iM_cases fM_from fM_to fM_whole fM_ways iM_plainRows fM_plainRow fM_kept fM_goalOver fM_goalUnder fM_goalMax fM_different ++ (WQ hQ aQ kQ hw (u.2.2.1) (u.2.2.2.1) (u.2.2.2.2.1) (u.2.2.2.2.2.1) (u.2.2.2.2.2.2.1) (u.2.2.2.2.2.2.2.1) ++ (WW nW hw lw kw (u.2.2.2.2.2.2.2.2.1) (u.2.2.2.2.2.2.2.2.2.1) (u.2.2.2.2.2.2.2.2.2.2)))))) (va_A (WO hO aO kO hM hQ hw iO_answered iO_searched iO_searchedRelaxed iO_counted fO_countedCase gO_goalNumber gO_goalScale fO_start fO_column fO_chosen ++ (WM hM aM kM iM_stands iM_variables iM_rows iM_goals iM_differents iM_cases fM_from fM_to fM_whole fM_ways iM_plainRows fM_plainRow fM_kept fM_goalOver fM_goalUnder fM_goalMax fM_different ++ (WQ hQ aQ kQ hw fQ_inside fQ_outside fQ_shut iQ_rows iQ_allRows iQ_columns ++ (WW nW hw lw kw wl wb wG)))) sz)) 0 0 (va_A (WO hO aO kO hM hQ hw iO_answered iO_searched iO_searchedRelaxed iO_counted fO_countedCase gO_goalNumber gO_goalScale fO_start fO_column fO_chosen ++ (WM hM aM kM iM_stands iM_variables iM_rows iM_goals iM_differents iM_cases fM_from fM_to fM_whole fM_ways iM_plainRows fM_plainRow fM_kept fM_goalOver fM_goalUnder fM_goalMax fM_different ++ (WQ hQ aQ kQ hw fQ_inside fQ_outside fQ_shut iQ_rows iQ_allRows iQ_columns ++ (WW nW hw lw kw wl wb wG)))) sz) := by
  refine Met.ofW (cc := cX5_lay) (maxL := 7) (ret := (some .boolean)) (by decide) rfl ?_
  intro p e s m args below meth c s₁ B hml hv
  obtain ⟨rfl, hsz, hP, hK, hD0⟩ := hv
  have hx := B.exec
  have hb := B.bytes
  have hr := B.returns
  have hts := atoms_spec (ws := wsMX5_lay) B.pre
  have hown : s.vm.findClass RX5 = some m.cls := findClass_of_methodNamed B.named
  have hlocks := B.notSynchronized
  subst hsz
  have hD := hD0.self (sz := s.heap.size)
  generalize hAe : va_A (WO hO aO kO hM hQ hw iO_answered iO_searched iO_searchedRelaxed iO_counted fO_countedCase gO_goalNumber gO_goalScale fO_start fO_column fO_chosen ++ (WM hM aM kM iM_stands iM_variables iM_rows iM_goals iM_differents iM_cases fM_from fM_to fM_whole fM_ways iM_plainRows fM_plainRow fM_kept fM_goalOver fM_goalUnder fM_goalMax fM_different ++ (WQ hQ aQ kQ hw fQ_inside fQ_outside fQ_shut iQ_rows iQ_allRows iQ_columns ++ (WW nW hw lw kw wl wb wG)))) s.heap.size = A at hD ⊢
  have hA : ∀ q : Nat, s.heap.size ≤ q → A q := fun q h => by rw [← hAe]; exact Or.inr h
  have hS : va_S A s.heap s.heap [] := va_S.rf
  have hl := lv_entry ([.ref (hO 0), .int p1, .int p2]) (n := 7) (Nat.le_of_ble_eq_true rfl)
  rw [lg_entry_eq]
  generalize (lg_sl ([.ref (hO 0), .int p1, .int p2]) ++ List.replicate (7 - (lg_sl ([.ref (hO 0), .int p1, .int p2])).length) Slot.unset).toArray = ls at hl ⊢
  have hl : lv_has ls 7 [(0, .ref (hO 0)), (1, .int p1), (2, .int p2)] := hl
  refine lv_iconst (v := 0) hx hb dX5_lay_0 (by decide) ?_
  refine lv_istore_n hx hb dX5_lay_1 rfl hl (by decide) rfl (fun ls (hl : lv_has ls _ ([(3, .int 0), (0, .ref (hO 0)), (1, .int p1), (2, .int p2)])) => ?_)
  refine lv_iconst (v := 0) hx hb dX5_lay_2 (by decide) ?_
  refine lv_istore hx hb dX5_lay_3 hl (by decide) rfl (fun ls (hl : lv_has ls _ ([(4, .int 0), (3, .int 0), (0, .ref (hO 0)), (1, .int p1), (2, .int p2)])) => ?_)
  have hl : lv_has _ _ ([(4, .int 0), (3, .int 0), (0, .ref (hO 0)), (1, .int p1), (2, .int p2)]) := lv_sub hl [0, 1, 2, 3, 4] rfl
  refine (fun (loop : ∀ (n9 : Nat) (fO_start_x5 : Nat → Int32) (fO_column_x5 : Nat → Int32) (l4_x5 : Int32) (l3_x5 : Int32) (H : Heap) (locs : List Loc) (ls : Array Slot), (∀ q : Nat, (-1) ≤ (fO_column_x5 q).toInt ∧ (fO_column_x5 q).toInt ≤ 8) → (0 ≤ l4_x5.toInt ∧ l4_x5.toInt ≤ 8) → (0 ≤ l3_x5.toInt ∧ l3_x5.toInt ≤ 8) → (l3_x5.toInt ≤ l4_x5.toInt) → (8 - l4_x5.toInt < ((n9 : Nat) : Int)) → va_P (dC, dI) vwCl (WO hO aO kO hM hQ hw iO_answered iO_searched iO_searchedRelaxed iO_counted fO_countedCase gO_goalNumber gO_goalScale fO_start_x5 fO_column_x5 fO_chosen ++ (WM hM aM kM iM_stands iM_variables iM_rows iM_goals iM_differents iM_cases fM_from fM_to fM_whole fM_ways iM_plainRows fM_plainRow fM_kept fM_goalOver fM_goalUnder fM_goalMax fM_different ++ (WQ hQ aQ kQ hw fQ_inside fQ_outside fQ_shut iQ_rows iQ_allRows iQ_columns ++ (WW nW hw lw kw wl wb wG)))) H → va_D A (WO hO aO kO hM hQ hw iO_answered iO_searched iO_searchedRelaxed iO_counted fO_countedCase gO_goalNumber gO_goalScale fO_start_x5 fO_column_x5 fO_chosen ++ (WM hM aM kM iM_stands iM_variables iM_rows iM_goals iM_differents iM_cases fM_from fM_to fM_whole fM_ways iM_plainRows fM_plainRow fM_kept fM_goalOver fM_goalUnder fM_goalMax fM_different ++ (WQ hQ aQ kQ hw fQ_inside fQ_outside fQ_shut iQ_rows iQ_allRows iQ_columns ++ (WW nW hw lw kw wl wb wG)))) → va_S A s.heap H locs → lv_has ls 7 [(4, .int l4_x5), (3, .int l3_x5), (0, .ref (hO 0)), (1, .int p1), (2, .int p2)] → W p l e _ s m _ below meth c H locs 0 0 _ (F0 m 5 ls [])) => loop (9) fO_start fO_column 0 0 _ _ _ b_fO_column (show 0 ≤ (0 : Int32).toInt ∧ (0 : Int32).toInt ≤ 8 from by decide) (show 0 ≤ (0 : Int32).toInt ∧ (0 : Int32).toInt ≤ 8 from by decide) (show (0 : Int32).toInt ≤ (0 : Int32).toInt from by decide) ((by have e9 : (0 : Int32).toInt = 0 := (by decide : (0 : Int32).toInt = 0); omega)) hP hD hS hl) ?_
  intro n9
  induction n9 with
  | zero => intro fO_start_x5 fO_column_x5 l4_x5 l3_x5 H locs ls b_fO_column_x5 b_l4_x5 b_l3_x5 hc1 hf9; exact False.elim (by omega)
  | succ n9 ihx5 =>
    intro fO_start_x5 fO_column_x5 l4_x5 l3_x5 H locs ls b_fO_column_x5 b_l4_x5 b_l3_x5 hc1 hfx5 hP hD hS hl
    refine lv_iload hx hb dX5_lay_5 (lv_at hl 0 rfl) ?_
    refine lv_aload_n hx hb dX5_lay_7 rfl (lv_at hl 2 rfl) ?_
    refine va_get (D := (dC, dI)) (ci := 5) (v := .ref (hM 0)) (C := RX5) (T := TX5) (N := 19) hx hb hts iwsMX5_lay_in5 hown hK hP 0 rfl rfl 0 (by decide) (hts _ hm_m_X5_lay_0) (fun _ h9 => h9) rfl dX5_lay_8 ?_
    refine va_get (D := (dC, dI)) (ci := 1) (v := .int iM_variables) (C := RX1) (T := TX1) (N := 17) hx hb hts iwsMX5_lay_in1 hown hK hP 11 rfl rfl 1 (by decide) (hts _ hm_m_X5_lay_1) (fun _ h9 => h9) rfl dX5_lay_11 ?_
    refine lv_icmp_ge (tgt := 88) hx hb dX5_lay_14 (by decide) (fun c_14 => ?_) (fun c_14 => ?_)
    · have t_14 : l4_x5.toInt ≥ iM_variables.toInt := toI_ge c_14 rfl rfl
      refine lv_iload_n hx hb dX5_lay_88 rfl (lv_at hl 3 rfl) ?_
      refine W.cut (pc := 109) (fun H locs ls stk => ∃ (k0_j36 : Int32), (0 ≤ k0_j36.toInt ∧ k0_j36.toInt ≤ 12) ∧  stk = [.int k0_j36] ∧ va_P (dC, dI) vwCl (WO hO aO kO hM hQ hw iO_answered iO_searched iO_searchedRelaxed iO_counted fO_countedCase gO_goalNumber gO_goalScale fO_start_x5 fO_column_x5 fO_chosen ++ (WM hM aM kM iM_stands iM_variables iM_rows iM_goals iM_differents iM_cases fM_from fM_to fM_whole fM_ways iM_plainRows fM_plainRow fM_kept fM_goalOver fM_goalUnder fM_goalMax fM_different ++ (WQ hQ aQ kQ hw fQ_inside fQ_outside fQ_shut iQ_rows iQ_allRows iQ_columns ++ (WW nW hw lw kw wl wb wG)))) H ∧ va_D A (WO hO aO kO hM hQ hw iO_answered iO_searched iO_searchedRelaxed iO_counted fO_countedCase gO_goalNumber gO_goalScale fO_start_x5 fO_column_x5 fO_chosen ++ (WM hM aM kM iM_stands iM_variables iM_rows iM_goals iM_differents iM_cases fM_from fM_to fM_whole fM_ways iM_plainRows fM_plainRow fM_kept fM_goalOver fM_goalUnder fM_goalMax fM_different ++ (WQ hQ aQ kQ hw fQ_inside fQ_outside fQ_shut iQ_rows iQ_allRows iQ_columns ++ (WW nW hw lw kw wl wb wG)))) ∧ va_S A s.heap H locs ∧ lv_has ls 7 [(4, .int l4_x5), (3, .int l3_x5), (0, .ref (hO 0)), (1, .int p1), (2, .int p2)]) (fun join36 => ?_) ?_
      · refine lv_if_eq (tgt := 102) hx hb dX5_lay_89 (by decide) (fun c_89 => ?_) (fun c_89 => ?_)
        · have t_89 : p1.toInt = 0 := toI_eq c_89 rfl (by decide : (0 : Int32).toInt = 0)
          refine lv_aload_n hx hb dX5_lay_102 rfl (lv_at hl 2 rfl) ?_
          refine va_get (D := (dC, dI)) (ci := 5) (v := .ref (hM 0)) (C := RX5) (T := TX5) (N := 19) hx hb hts iwsMX5_lay_in5 hown hK hP 0 rfl rfl 0 (by decide) (hts _ hm_m_X5_lay_0) (fun _ h9 => h9) rfl dX5_lay_103 ?_
          refine va_get (D := (dC, dI)) (ci := 1) (v := .int iM_rows) (C := RX1) (T := TX1) (N := 17) hx hb hts iwsMX5_lay_in1 hown hK hP 11 rfl rfl 2 (by decide) (hts _ hm_m_X5_lay_2) (fun _ h9 => h9) rfl dX5_lay_106 ?_
          have hl : lv_has _ _ ([(4, .int l4_x5), (3, .int l3_x5), (0, .ref (hO 0)), (1, .int p1), (2, .int p2)]) := lv_sub hl [0, 1, 2, 3, 4] rfl
          exact join36 _ _ _ _ ⟨iM_rows, (b_iM_rows), rfl, hP, hD, hS, hl⟩
        · have t_89 : ¬ p1.toInt = 0 := toI_neq c_89 rfl (by decide : (0 : Int32).toInt = 0)
          refine lv_aload_n hx hb dX5_lay_92 rfl (lv_at hl 2 rfl) ?_
          refine va_get (D := (dC, dI)) (ci := 5) (v := .ref (hM 0)) (C := RX5) (T := TX5) (N := 19) hx hb hts iwsMX5_lay_in5 hown hK hP 0 rfl rfl 0 (by decide) (hts _ hm_m_X5_lay_0) (fun _ h9 => h9) rfl dX5_lay_93 ?_
          refine va_get (D := (dC, dI)) (ci := 1) (v := .int iM_plainRows) (C := RX1) (T := TX1) (N := 17) hx hb hts iwsMX5_lay_in1 hown hK hP 11 rfl rfl 10 (by decide) (hts (.fieldLink RX5 166 "OptimaWorks$Model" "plainRows" "I") (by decide +kernel)) (fun _ h9 => h9) rfl dX5_lay_96 ?_
          refine lv_goto (tgt := 109) hx hb dX5_lay_99 (by decide) ?_
          have hl : lv_has _ _ ([(4, .int l4_x5), (3, .int l3_x5), (0, .ref (hO 0)), (1, .int p1), (2, .int p2)]) := lv_sub hl [0, 1, 2, 3, 4] rfl
          exact join36 _ _ _ _ ⟨iM_plainRows, (b_iM_plainRows), rfl, hP, hD, hS, hl⟩
      · rintro H locs ls stk ⟨k0_j36, b_k0_j36, rfl, hP, hD, hS, hl⟩
        refine lv_istore hx hb dX5_lay_109 hl (by decide) rfl (fun ls (hl : lv_has ls _ ([(4, .int k0_j36), (3, .int l3_x5), (0, .ref (hO 0)), (1, .int p1), (2, .int p2)])) => ?_)
        refine lv_aload_n hx hb dX5_lay_111 rfl (lv_at hl 2 rfl) ?_
        refine va_get (D := (dC, dI)) (ci := 5) (v := .ref (hQ 0)) (C := RX5) (T := TX5) (N := 19) hx hb hts iwsMX5_lay_in5 hown hK hP 0 rfl rfl 1 (by decide) (hts _ hm_m_X5_lay_3) (fun _ h9 => h9) rfl dX5_lay_112 ?_
        refine lv_iload hx hb dX5_lay_115 (lv_at hl 0 rfl) ?_
        refine lv_iload_n hx hb dX5_lay_117 rfl (lv_at hl 1 rfl) ?_
        refine lv_iadd hx hb dX5_lay_118 ?_
        refine lv_topi (fun y673 hy673 => ?_)
        obtain rfl : (iI (k0_j36.toInt + l3_x5.toInt)) = y673 := (hy673.trans (iI_add2 (iI_of _) (iI_of _))).symm
        refine lv_iload_n hx hb dX5_lay_119 rfl (lv_at hl 4 rfl) ?_
        refine lv_iload_n hx hb dX5_lay_120 rfl (lv_at hl 1 rfl) ?_
        have p9 := cj_4_2_3 (WO hO aO kO hM hQ hw iO_answered iO_searched iO_searchedRelaxed iO_counted fO_countedCase gO_goalNumber gO_goalScale fO_start_x5 fO_column_x5 fO_chosen) (WM hM aM kM iM_stands iM_variables iM_rows iM_goals iM_differents iM_cases fM_from fM_to fM_whole fM_ways iM_plainRows fM_plainRow fM_kept fM_goalOver fM_goalUnder fM_goalMax fM_different) (WQ hQ aQ kQ hw fQ_inside fQ_outside fQ_shut iQ_rows iQ_allRows iQ_columns) (WW nW hw lw kw wl wb wG)
        have hPc := hP.mem (fun q h => p9.mem_iff.mpr (List.mem_append_left _ h))
        have hDc := (hD.perm p9).left
        have hKc : va_K (dC, dI) vwCl (tQ kQ ++ (tW kw)) _ := hK.sub [20, 21, 22, 23, 24] rfl
        have hFc := freeG p9 hD hS hA
        refine va_callv (va_runV (As := [.int (iI (k0_j36.toInt + l3_x5.toInt)), .int p2, .int l3_x5]) (rest := []) ⟨hx, hb, hml, hown, hts⟩ (m_X6_begin l dC dI hQ aQ kQ hw fQ_inside fQ_outside fQ_shut iQ_rows iQ_allRows iQ_columns nW lw kw wl wb wG (iI (k0_j36.toInt + l3_x5.toInt)) p2 l3_x5 (b_iQ_rows) (b_iQ_allRows) (b_iQ_columns) (by first | with_reducible assumption | omega | assumption) b_wl b_wb (iI_rng (Int.le_trans (by decide) (Int.add_le_add (b_k0_j36.1) (b_l3_x5.1))) (Int.le_trans (Int.add_le_add (b_k0_j36.2) (b_l3_x5.2)) (by decide)) (by decide) (by decide)) (⟨b_p2.1, Int.le_trans b_p2.2 (by decide)⟩) (⟨b_l3_x5.1, Int.le_trans b_l3_x5.2 (by decide)⟩) (by omega) (by (try rw [iI_t (by omega) (by omega)]); omega) (mul40 (by rw [iI_t (by omega) (by omega)]; omega) (by rw [iI_t (by omega) (by omega)]; omega) (by omega) (by omega)) H.size) (cwV 3 hts gwsMX5_lay_0 rfl rfl rfl hd_yX6_begin_RX6 (by decide +kernel)) (fz_pre (va_recv hK hP (ci := 6) (q0 := 22) rfl rfl) hPc hKc hDc) rfl rfl hl.1 rfl (lv_room (Nat.le_of_ble_eq_true rfl)) dX5_lay_121 (by decide +kernel)) hS (fun q _ h => hFc q h) hFc (fun u t9_ H locs ht hvm hw9 hB9 hz1 hk1 hS => ?_)
        revert u hw9 hB9
        refine fz_p9 ?_
        intro fQ_inside_674 fQ_outside_674 fQ_shut_674 iQ_rows_674 iQ_allRows_674 iQ_columns_674 wl_674 wb_674 wG_674 hw9 hB9
        try dsimp only at hw9 hB9
        revert hw9
        refine fz_a9 ?_
        intro b_iQ_rows_674 b_iQ_allRows_674 b_iQ_columns_674 b_wl_674 b_wb_674 b_tb_674 f674_0 f674_1 f674_2
        have p8 := cj_4_2_3 (WO hO aO kO hM hQ hw iO_answered iO_searched iO_searchedRelaxed iO_counted fO_countedCase gO_goalNumber gO_goalScale fO_start_x5 fO_column_x5 fO_chosen) (WM hM aM kM iM_stands iM_variables iM_rows iM_goals iM_differents iM_cases fM_from fM_to fM_whole fM_ways iM_plainRows fM_plainRow fM_kept fM_goalOver fM_goalUnder fM_goalMax fM_different) (WQ hQ aQ kQ hw fQ_inside_674 fQ_outside_674 fQ_shut_674 iQ_rows_674 iQ_allRows_674 iQ_columns_674) (WW nW hw lw kw wl_674 wb_674 wG_674)
        obtain ⟨hP, hD⟩ := frameG p9 p8 hP hD hk1 hFc (fz_P ht hB9.1) hB9.2
        have hb1 := f674_0
        have hb3 := f674_2
        rw [iI_t (by omega) (by omega)] at hb1
        refine lv_iconst (v := 0) hx hb dX5_lay_124 (by decide) ?_
        refine lv_istore hx hb dX5_lay_125 hl (by decide) rfl (fun ls (hl : lv_has ls _ ([(5, .int 0), (4, .int k0_j36), (3, .int l3_x5), (0, .ref (hO 0)), (1, .int p1), (2, .int p2)])) => ?_)
        refine lv_iconst (v := 0) hx hb dX5_lay_127 (by decide) ?_
        refine lv_istore hx hb dX5_lay_128 hl (by decide) rfl (fun ls (hl : lv_has ls _ ([(6, .int 0), (5, .int 0), (4, .int k0_j36), (3, .int l3_x5), (0, .ref (hO 0)), (1, .int p1), (2, .int p2)])) => ?_)
        have hl : lv_has _ _ ([(6, .int 0), (5, .int 0), (4, .int k0_j36), (3, .int l3_x5), (0, .ref (hO 0)), (1, .int p1), (2, .int p2)]) := lv_sub hl [0, 1, 2, 3, 4, 5, 6] rfl
        refine (fun (loop : ∀ (n9 : Nat) (wl_x130 : Nat → Int32) (wb_x130 : Nat → Int32) (wG_x130 : Nat → Nat → Int64) (l6_x130 : Int32) (l5_x130 : Int32) (H : Heap) (locs : List Loc) (ls : Array Slot), (∀ q : Nat, 0 ≤ (wl_x130 q).toInt ∧ (wl_x130 q).toInt ≤ 14) → (∀ q : Nat, 0 ≤ (wb_x130 q).toInt ∧ (wb_x130 q).toInt ≤ 1) → (0 ≤ l6_x130.toInt ∧ l6_x130.toInt ≤ 12) → (0 ≤ l5_x130.toInt ∧ l5_x130.toInt ≤ 20) → (l5_x130.toInt ≤ l6_x130.toInt) → (12 - l6_x130.toInt < ((n9 : Nat) : Int)) → va_P (dC, dI) vwCl (WO hO aO kO hM hQ hw iO_answered iO_searched iO_searchedRelaxed iO_counted fO_countedCase gO_goalNumber gO_goalScale fO_start_x5 fO_column_x5 fO_chosen ++ (WM hM aM kM iM_stands iM_variables iM_rows iM_goals iM_differents iM_cases fM_from fM_to fM_whole fM_ways iM_plainRows fM_plainRow fM_kept fM_goalOver fM_goalUnder fM_goalMax fM_different ++ (WQ hQ aQ kQ hw fQ_inside_674 fQ_outside_674 fQ_shut_674 iQ_rows_674 iQ_allRows_674 iQ_columns_674 ++ (WW nW hw lw kw wl_x130 wb_x130 wG_x130)))) H → va_D A (WO hO aO kO hM hQ hw iO_answered iO_searched iO_searchedRelaxed iO_counted fO_countedCase gO_goalNumber gO_goalScale fO_start_x5 fO_column_x5 fO_chosen ++ (WM hM aM kM iM_stands iM_variables iM_rows iM_goals iM_differents iM_cases fM_from fM_to fM_whole fM_ways iM_plainRows fM_plainRow fM_kept fM_goalOver fM_goalUnder fM_goalMax fM_different ++ (WQ hQ aQ kQ hw fQ_inside_674 fQ_outside_674 fQ_shut_674 iQ_rows_674 iQ_allRows_674 iQ_columns_674 ++ (WW nW hw lw kw wl_x130 wb_x130 wG_x130)))) → va_S A s.heap H locs → lv_has ls 7 [(6, .int l6_x130), (5, .int l5_x130), (4, .int k0_j36), (3, .int l3_x5), (0, .ref (hO 0)), (1, .int p1), (2, .int p2)] → W p l e _ s m _ below meth c H locs 0 0 _ (F0 m 130 ls [])) => loop (13) wl_674 wb_674 wG_674 0 0 _ _ _ b_wl_674 b_wb_674 (show 0 ≤ (0 : Int32).toInt ∧ (0 : Int32).toInt ≤ 12 from by decide) (show 0 ≤ (0 : Int32).toInt ∧ (0 : Int32).toInt ≤ 20 from by decide) (show (0 : Int32).toInt ≤ (0 : Int32).toInt from by decide) ((by have e9 : (0 : Int32).toInt = 0 := (by decide : (0 : Int32).toInt = 0); omega)) hP hD hS hl) ?_
        intro n9
        induction n9 with
        | zero => intro wl_x130 wb_x130 wG_x130 l6_x130 l5_x130 H locs ls b_wl_x130 b_wb_x130 b_l6_x130 b_l5_x130 hl1 hf9; exact False.elim (by omega)
        | succ n9 ihx130 =>
          intro wl_x130 wb_x130 wG_x130 l6_x130 l5_x130 H locs ls b_wl_x130 b_wb_x130 b_l6_x130 b_l5_x130 hl1 hfx130 hP hD hS hl
          refine lv_iload hx hb dX5_lay_130 (lv_at hl 0 rfl) ?_
          refine lv_aload_n hx hb dX5_lay_132 rfl (lv_at hl 4 rfl) ?_
          refine va_get (D := (dC, dI)) (ci := 5) (v := .ref (hM 0)) (C := RX5) (T := TX5) (N := 19) hx hb hts iwsMX5_lay_in5 hown hK hP 0 rfl rfl 0 (by decide) (hts _ hm_m_X5_lay_0) (fun _ h9 => h9) rfl dX5_lay_133 ?_
          refine va_get (D := (dC, dI)) (ci := 1) (v := .int iM_rows) (C := RX1) (T := TX1) (N := 17) hx hb hts iwsMX5_lay_in1 hown hK hP 11 rfl rfl 2 (by decide) (hts _ hm_m_X5_lay_2) (fun _ h9 => h9) rfl dX5_lay_136 ?_
          refine lv_icmp_ge (tgt := 197) hx hb dX5_lay_139 (by decide) (fun c_139 => ?_) (fun c_139 => ?_)
          · have t_139 : l6_x130.toInt ≥ iM_rows.toInt := toI_ge c_139 rfl rfl
            refine lv_iconst (v := 0) hx hb dX5_lay_197 (by decide) ?_
            refine lv_istore hx hb dX5_lay_198 hl (by decide) rfl (fun ls (hl : lv_has ls _ ([(6, .int 0), (5, .int l5_x130), (4, .int k0_j36), (3, .int l3_x5), (0, .ref (hO 0)), (1, .int p1), (2, .int p2)])) => ?_)
            have hl : lv_has _ _ ([(6, .int 0), (5, .int l5_x130), (4, .int k0_j36), (3, .int l3_x5), (0, .ref (hO 0)), (1, .int p1), (2, .int p2)]) := lv_sub hl [0, 1, 2, 3, 4, 5, 6] rfl
            refine (fun (loop : ∀ (n9 : Nat) (wl_x200 : Nat → Int32) (wb_x200 : Nat → Int32) (wG_x200 : Nat → Nat → Int64) (l6_x200 : Int32) (l5_x200 : Int32) (H : Heap) (locs : List Loc) (ls : Array Slot), (∀ q : Nat, 0 ≤ (wl_x200 q).toInt ∧ (wl_x200 q).toInt ≤ 14) → (∀ q : Nat, 0 ≤ (wb_x200 q).toInt ∧ (wb_x200 q).toInt ≤ 1) → (0 ≤ l6_x200.toInt ∧ l6_x200.toInt ≤ 8) → (0 ≤ l5_x200.toInt ∧ l5_x200.toInt ≤ 20) → (l5_x200.toInt ≤ 12 + l6_x200.toInt) → (8 - l6_x200.toInt < ((n9 : Nat) : Int)) → va_P (dC, dI) vwCl (WO hO aO kO hM hQ hw iO_answered iO_searched iO_searchedRelaxed iO_counted fO_countedCase gO_goalNumber gO_goalScale fO_start_x5 fO_column_x5 fO_chosen ++ (WM hM aM kM iM_stands iM_variables iM_rows iM_goals iM_differents iM_cases fM_from fM_to fM_whole fM_ways iM_plainRows fM_plainRow fM_kept fM_goalOver fM_goalUnder fM_goalMax fM_different ++ (WQ hQ aQ kQ hw fQ_inside_674 fQ_outside_674 fQ_shut_674 iQ_rows_674 iQ_allRows_674 iQ_columns_674 ++ (WW nW hw lw kw wl_x200 wb_x200 wG_x200)))) H → va_D A (WO hO aO kO hM hQ hw iO_answered iO_searched iO_searchedRelaxed iO_counted fO_countedCase gO_goalNumber gO_goalScale fO_start_x5 fO_column_x5 fO_chosen ++ (WM hM aM kM iM_stands iM_variables iM_rows iM_goals iM_differents iM_cases fM_from fM_to fM_whole fM_ways iM_plainRows fM_plainRow fM_kept fM_goalOver fM_goalUnder fM_goalMax fM_different ++ (WQ hQ aQ kQ hw fQ_inside_674 fQ_outside_674 fQ_shut_674 iQ_rows_674 iQ_allRows_674 iQ_columns_674 ++ (WW nW hw lw kw wl_x200 wb_x200 wG_x200)))) → va_S A s.heap H locs → lv_has ls 7 [(6, .int l6_x200), (5, .int l5_x200), (4, .int k0_j36), (3, .int l3_x5), (0, .ref (hO 0)), (1, .int p1), (2, .int p2)] → W p l e _ s m _ below meth c H locs 0 0 _ (F0 m 200 ls [])) => loop (9) wl_x130 wb_x130 wG_x130 0 l5_x130 _ _ _ b_wl_x130 b_wb_x130 (show 0 ≤ (0 : Int32).toInt ∧ (0 : Int32).toInt ≤ 8 from by decide) (b_l5_x130) (show l5_x130.toInt ≤ 12 + (0 : Int32).toInt from by have h9 : (0 : Int32).toInt = 0 := (by decide); omega) ((by have e9 : (0 : Int32).toInt = 0 := (by decide : (0 : Int32).toInt = 0); omega)) hP hD hS hl) ?_
            intro n9
            induction n9 with
            | zero => intro wl_x200 wb_x200 wG_x200 l6_x200 l5_x200 H locs ls b_wl_x200 b_wb_x200 b_l6_x200 b_l5_x200 hl2 hf9; exact False.elim (by omega)
            | succ n9 ihx200 =>
              intro wl_x200 wb_x200 wG_x200 l6_x200 l5_x200 H locs ls b_wl_x200 b_wb_x200 b_l6_x200 b_l5_x200 hl2 hfx200 hP hD hS hl
              refine lv_iload hx hb dX5_lay_200 (lv_at hl 0 rfl) ?_
              refine lv_aload_n hx hb dX5_lay_202 rfl (lv_at hl 4 rfl) ?_
              refine va_get (D := (dC, dI)) (ci := 5) (v := .ref (hM 0)) (C := RX5) (T := TX5) (N := 19) hx hb hts iwsMX5_lay_in5 hown hK hP 0 rfl rfl 0 (by decide) (hts _ hm_m_X5_lay_0) (fun _ h9 => h9) rfl dX5_lay_203 ?_
              refine va_get (D := (dC, dI)) (ci := 1) (v := .int iM_variables) (C := RX1) (T := TX1) (N := 17) hx hb hts iwsMX5_lay_in1 hown hK hP 11 rfl rfl 1 (by decide) (hts _ hm_m_X5_lay_1) (fun _ h9 => h9) rfl dX5_lay_206 ?_
              refine lv_icmp_ge (tgt := 289) hx hb dX5_lay_209 (by decide) (fun c_209 => ?_) (fun c_209 => ?_)
              · have t_209 : l6_x200.toInt ≥ iM_variables.toInt := toI_ge c_209 rfl rfl
                refine lv_iconst (v := 0) hx hb dX5_lay_289 (by decide) ?_
                refine lv_istore hx hb dX5_lay_290 hl (by decide) rfl (fun ls (hl : lv_has ls _ ([(6, .int 0), (5, .int l5_x200), (4, .int k0_j36), (3, .int l3_x5), (0, .ref (hO 0)), (1, .int p1), (2, .int p2)])) => ?_)
                have hl : lv_has _ _ ([(6, .int 0), (5, .int l5_x200), (4, .int k0_j36), (3, .int l3_x5), (0, .ref (hO 0)), (1, .int p1), (2, .int p2)]) := lv_sub hl [0, 1, 2, 3, 4, 5, 6] rfl
                refine (fun (loop : ∀ (n9 : Nat) (wl_x292 : Nat → Int32) (wb_x292 : Nat → Int32) (wG_x292 : Nat → Nat → Int64) (l6_x292 : Int32) (H : Heap) (locs : List Loc) (ls : Array Slot), (∀ q : Nat, 0 ≤ (wl_x292 q).toInt ∧ (wl_x292 q).toInt ≤ 14) → (∀ q : Nat, 0 ≤ (wb_x292 q).toInt ∧ (wb_x292 q).toInt ≤ 1) → (0 ≤ l6_x292.toInt ∧ l6_x292.toInt ≤ 3) → (3 - l6_x292.toInt < ((n9 : Nat) : Int)) → va_P (dC, dI) vwCl (WO hO aO kO hM hQ hw iO_answered iO_searched iO_searchedRelaxed iO_counted fO_countedCase gO_goalNumber gO_goalScale fO_start_x5 fO_column_x5 fO_chosen ++ (WM hM aM kM iM_stands iM_variables iM_rows iM_goals iM_differents iM_cases fM_from fM_to fM_whole fM_ways iM_plainRows fM_plainRow fM_kept fM_goalOver fM_goalUnder fM_goalMax fM_different ++ (WQ hQ aQ kQ hw fQ_inside_674 fQ_outside_674 fQ_shut_674 iQ_rows_674 iQ_allRows_674 iQ_columns_674 ++ (WW nW hw lw kw wl_x292 wb_x292 wG_x292)))) H → va_D A (WO hO aO kO hM hQ hw iO_answered iO_searched iO_searchedRelaxed iO_counted fO_countedCase gO_goalNumber gO_goalScale fO_start_x5 fO_column_x5 fO_chosen ++ (WM hM aM kM iM_stands iM_variables iM_rows iM_goals iM_differents iM_cases fM_from fM_to fM_whole fM_ways iM_plainRows fM_plainRow fM_kept fM_goalOver fM_goalUnder fM_goalMax fM_different ++ (WQ hQ aQ kQ hw fQ_inside_674 fQ_outside_674 fQ_shut_674 iQ_rows_674 iQ_allRows_674 iQ_columns_674 ++ (WW nW hw lw kw wl_x292 wb_x292 wG_x292)))) → va_S A s.heap H locs → lv_has ls 7 [(6, .int l6_x292), (5, .int l5_x200), (4, .int k0_j36), (3, .int l3_x5), (0, .ref (hO 0)), (1, .int p1), (2, .int p2)] → W p l e _ s m _ below meth c H locs 0 0 _ (F0 m 292 ls [])) => loop (4) wl_x200 wb_x200 wG_x200 0 _ _ _ b_wl_x200 b_wb_x200 (show 0 ≤ (0 : Int32).toInt ∧ (0 : Int32).toInt ≤ 3 from by decide) ((by have e9 : (0 : Int32).toInt = 0 := (by decide : (0 : Int32).toInt = 0); omega)) hP hD hS hl) ?_
                intro n9
                induction n9 with
                | zero => intro wl_x292 wb_x292 wG_x292 l6_x292 H locs ls b_wl_x292 b_wb_x292 b_l6_x292 hf9; exact False.elim (by omega)
                | succ n9 ihx292 =>
                  intro wl_x292 wb_x292 wG_x292 l6_x292 H locs ls b_wl_x292 b_wb_x292 b_l6_x292 hfx292 hP hD hS hl
                  refine lv_iload hx hb dX5_lay_292 (lv_at hl 0 rfl) ?_
                  refine lv_iload_n hx hb dX5_lay_294 rfl (lv_at hl 6 rfl) ?_
                  refine lv_icmp_ge (tgt := 315) hx hb dX5_lay_295 (by decide) (fun c_295 => ?_) (fun c_295 => ?_)
                  · have t_295 : l6_x292.toInt ≥ p2.toInt := toI_ge c_295 rfl rfl
                    refine lv_iconst (v := 1) hx hb dX5_lay_315 (by decide) ?_
                    refine W.widen (k := 0) (n := 0) (by decide +kernel) (by decide +kernel) ?_
                    exact W.zret (v := 1) hx hb hr rfl (fun t9_ ht hW => ⟨⟨(1 : Int32), (fO_start_x5, fO_column_x5, fQ_inside_674, fQ_outside_674, fQ_shut_674, iQ_rows_674, iQ_allRows_674, iQ_columns_674, wl_x292, wb_x292, wG_x292), rfl, ⟨b_fO_column_x5, b_iQ_rows_674, b_iQ_allRows_674, b_iQ_columns_674, b_wl_x292, b_wb_x292, (by (try dsimp only); exact (by first | with_reducible assumption | omega | assumption)), (show 0 ≤ (1 : Int32).toInt ∧ (1 : Int32).toInt ≤ 1 from by decide), (by (try dsimp only); omega), (by (try dsimp only); omega)⟩, by rw [ht]; exact hP, hD⟩, hS.F ht⟩) hS.2.2 dX5_lay_316
                  · have t_295 : ¬ l6_x292.toInt ≥ p2.toInt := toI_nge c_295 rfl rfl
                    refine lv_aload_n hx hb dX5_lay_298 rfl (lv_at hl 4 rfl) ?_
                    refine lv_iload hx hb dX5_lay_299 (lv_at hl 1 rfl) ?_
                    refine lv_iload hx hb dX5_lay_301 (lv_at hl 0 rfl) ?_
                    refine lv_iadd hx hb dX5_lay_303 ?_
                    refine lv_topi (fun y965 hy965 => ?_)
                    obtain rfl : (iI (l5_x200.toInt + l6_x292.toInt)) = y965 := (hy965.trans (iI_add2 (iI_of _) (iI_of _))).symm
                    refine lv_iload hx hb dX5_lay_304 (lv_at hl 0 rfl) ?_
                    have hFc := allFree hD hS hA
                    refine va_callv (va_runV (As := [.int (iI (l5_x200.toInt + l6_x292.toInt)), .int l6_x292]) (rest := []) ⟨hx, hb, hml, hown, hts⟩ (m_X5_layGoal l dC dI hO aO kO hM hQ hw iO_answered iO_searched iO_searchedRelaxed iO_counted fO_countedCase gO_goalNumber gO_goalScale fO_start_x5 fO_column_x5 fO_chosen aM kM iM_stands iM_variables iM_rows iM_goals iM_differents iM_cases fM_from fM_to fM_whole fM_ways iM_plainRows fM_plainRow fM_kept fM_goalOver fM_goalUnder fM_goalMax fM_different aQ kQ fQ_inside_674 fQ_outside_674 fQ_shut_674 iQ_rows_674 iQ_allRows_674 iQ_columns_674 nW lw kw wl_x292 wb_x292 wG_x292 (iI (l5_x200.toInt + l6_x292.toInt)) l6_x292 (b_iO_answered) (b_iO_searched) (b_iO_searchedRelaxed) (b_iO_counted) b_fO_countedCase b_fO_column_x5 b_fO_chosen (b_iM_stands) (b_iM_variables) (b_iM_rows) (b_iM_goals) (b_iM_differents) (b_iM_cases) b_fM_ways (b_iM_plainRows) b_fM_plainRow (by first | with_reducible assumption | omega | assumption) (b_iQ_rows_674) (b_iQ_allRows_674) (b_iQ_columns_674) (by first | with_reducible assumption | omega | assumption) b_wl_x292 b_wb_x292 (iI_rng (Int.le_trans (by decide) (Int.add_le_add (b_l5_x200.1) (b_l6_x292.1))) (Int.le_trans (Int.add_le_add (b_l5_x200.2) (b_l6_x292.2)) (by decide)) (by decide) (by decide)) (by first | exact b_l6_x292 | with_reducible assumption | exact ⟨by omega, by omega⟩ | assumption) (by omega) (by omega) H.size) (cwV 2 hts gwsMX5_lay_3 rfl rfl rfl hd_yX5_layGoal_RX5 (by decide +kernel)) (fz_pre (va_recv hK hP (ci := 5) (q0 := 0) rfl rfl) hP hK hD) rfl rfl hl.1 rfl (lv_room (Nat.le_of_ble_eq_true rfl)) dX5_lay_306 (by decide +kernel)) hS (fun q _ h => hFc q h) hFc (fun u t9_ H locs ht hvm hw9 hB9 hz1 hk1 hS => ?_)
                    revert u hw9 hB9
                    refine fz_p3 ?_
                    intro wl_966 wb_966 wG_966 hw9 hB9
                    try dsimp only at hw9 hB9
                    revert hw9
                    refine fz_a2 ?_
                    intro b_wl_966 b_wb_966
                    have hP : va_P (dC, dI) vwCl (WO hO aO kO hM hQ hw iO_answered iO_searched iO_searchedRelaxed iO_counted fO_countedCase gO_goalNumber gO_goalScale fO_start_x5 fO_column_x5 fO_chosen ++ (WM hM aM kM iM_stands iM_variables iM_rows iM_goals iM_differents iM_cases fM_from fM_to fM_whole fM_ways iM_plainRows fM_plainRow fM_kept fM_goalOver fM_goalUnder fM_goalMax fM_different ++ (WQ hQ aQ kQ hw fQ_inside_674 fQ_outside_674 fQ_shut_674 iQ_rows_674 iQ_allRows_674 iQ_columns_674 ++ (WW nW hw lw kw wl_966 wb_966 wG_966)))) H := fz_P ht hB9.1
                    have hD := fz_sd hP (hB9.2.weaken (fun _ q _ h => hFc q.1 h)) rfl
                    refine lv_iinc (v := (iI (l6_x292.toInt + 1))) hx hb dX5_lay_309 hl (k := 0) rfl (iI_add2 (iI_of _) (by decide : (1 : Int32) = iI 1)) (by decide) rfl (fun ls (hl : lv_has ls _ ([(6, .int (iI (l6_x292.toInt + 1))), (5, .int l5_x200), (4, .int k0_j36), (3, .int l3_x5), (0, .ref (hO 0)), (1, .int p1), (2, .int p2)])) => ?_)
                    refine lv_goto (tgt := 292) hx hb dX5_lay_312 (by decide) ?_
                    have hl : lv_has _ _ ([(6, .int (iI (l6_x292.toInt + 1))), (5, .int l5_x200), (4, .int k0_j36), (3, .int l3_x5), (0, .ref (hO 0)), (1, .int p1), (2, .int p2)]) := lv_sub hl [0, 1, 2, 3, 4, 5, 6] rfl
                    exact ihx292 wl_966 wb_966 wG_966 (iI (l6_x292.toInt + 1)) _ _ _ b_wl_966 b_wb_966 (iI_rng (Int.le_trans (by decide) (Int.add_le_add (b_l6_x292.1) (Int.le_refl _))) (by omega) (by decide) (by decide)) (by have e9 : ((iI (l6_x292.toInt + 1))).toInt = (l6_x292.toInt + 1) := (iI_t (Int.le_trans (by decide) (Int.add_le_add (b_l6_x292.1) (Int.le_refl _))) (Int.le_trans (Int.add_le_add (b_l6_x292.2) (Int.le_refl _)) (by decide))); omega) hP hD hS hl
              · have t_209 : ¬ l6_x200.toInt ≥ iM_variables.toInt := toI_nge c_209 rfl rfl
                refine lv_aload_n hx hb dX5_lay_212 rfl (lv_at hl 4 rfl) ?_
                refine va_get (D := (dC, dI)) (ci := 5) (v := .ref (aO 4)) (C := RX5) (T := TX5) (N := 19) hx hb hts iwsMX5_lay_in5 hown hK hP 0 rfl rfl 10 (by decide) (hts _ hm_m_X5_lay_4) (fun _ h9 => h9) rfl dX5_lay_213 ?_
                refine lv_iload hx hb dX5_lay_216 (lv_at hl 0 rfl) ?_
                refine va_iald (cA := kO 4) (n := 8) (f := fO_column_x5) hx hb hK hP 5 4 rfl rfl (vp_in_iff.mpr ⟨b_l6_x200.1, (Int.lt_of_lt_of_le (Int.not_le.mp t_209) (Int.le_trans b_iM_variables.2 (by decide)))⟩) dX5_lay_218 ?_
                refine lv_topi (fun v967 hv967 => ?_)
                have b_v967 : (-1) ≤ v967.toInt ∧ v967.toInt ≤ 8 := by rw [hv967]; exact b_fO_column_x5 _
                have b1_v967 : v967 = fO_column_x5 (l6_x200).toNatClampNeg := hv967
                clear hv967
                refine lv_iconst (v := (-1)) hx hb dX5_lay_219 (by decide) ?_
                refine lv_icmp_eq (tgt := 283) hx hb dX5_lay_220 (by decide) (fun c_220 => ?_) (fun c_220 => ?_)
                · have t_220 : v967.toInt = (-1) := toI_eq c_220 rfl (by decide : ((-1) : Int32).toInt = (-1))
                  refine lv_iinc (v := (iI (l6_x200.toInt + 1))) hx hb dX5_lay_283 hl (k := 0) rfl (iI_add2 (iI_of _) (by decide : (1 : Int32) = iI 1)) (by decide) rfl (fun ls (hl : lv_has ls _ ([(6, .int (iI (l6_x200.toInt + 1))), (5, .int l5_x200), (4, .int k0_j36), (3, .int l3_x5), (0, .ref (hO 0)), (1, .int p1), (2, .int p2)])) => ?_)
                  refine lv_goto (tgt := 200) hx hb dX5_lay_286 (by decide) ?_
                  have hl : lv_has _ _ ([(6, .int (iI (l6_x200.toInt + 1))), (5, .int l5_x200), (4, .int k0_j36), (3, .int l3_x5), (0, .ref (hO 0)), (1, .int p1), (2, .int p2)]) := lv_sub hl [0, 1, 2, 3, 4, 5, 6] rfl
                  exact ihx200 wl_x200 wb_x200 wG_x200 (iI (l6_x200.toInt + 1)) l5_x200 _ _ _ b_wl_x200 b_wb_x200 (iI_rng (Int.le_trans (by decide) (Int.add_le_add (b_l6_x200.1) (Int.le_refl _))) (by omega) (by decide) (by decide)) (b_l5_x200) (show l5_x200.toInt ≤ 12 + (iI (l6_x200.toInt + 1)).toInt from by (try rw [iI_t (E := l3_x5.toInt + 1) (by omega) (by omega)]); (try rw [iI_t (E := l4_x5.toInt + 1) (by omega) (by omega)]); (try rw [iI_t (E := l5_x130.toInt + 1) (by omega) (by omega)]); (try rw [iI_t (E := l6_x130.toInt + 1) (by omega) (by omega)]); (try rw [iI_t (E := l5_x200.toInt + 1) (by omega) (by omega)]); (try rw [iI_t (E := l6_x200.toInt + 1) (by omega) (by omega)]); omega) (by have e9 : ((iI (l6_x200.toInt + 1))).toInt = (l6_x200.toInt + 1) := (iI_t (Int.le_trans (by decide) (Int.add_le_add (b_l6_x200.1) (Int.le_refl _))) (Int.le_trans (Int.add_le_add (b_l6_x200.2) (Int.le_refl _)) (by decide))); omega) hP hD hS hl
                · have t_220 : ¬ v967.toInt = (-1) := toI_neq c_220 rfl (by decide : ((-1) : Int32).toInt = (-1))
                  refine lv_aload_n hx hb dX5_lay_223 rfl (lv_at hl 4 rfl) ?_
                  refine va_get (D := (dC, dI)) (ci := 5) (v := .ref (hQ 0)) (C := RX5) (T := TX5) (N := 19) hx hb hts iwsMX5_lay_in5 hown hK hP 0 rfl rfl 1 (by decide) (hts _ hm_m_X5_lay_3) (fun _ h9 => h9) rfl dX5_lay_224 ?_
                  refine lv_iload hx hb dX5_lay_227 (lv_at hl 1 rfl) ?_
                  refine lv_iconst (v := 0) hx hb dX5_lay_229 (by decide) ?_
                  have p9 := cj_4_2_3 (WO hO aO kO hM hQ hw iO_answered iO_searched iO_searchedRelaxed iO_counted fO_countedCase gO_goalNumber gO_goalScale fO_start_x5 fO_column_x5 fO_chosen) (WM hM aM kM iM_stands iM_variables iM_rows iM_goals iM_differents iM_cases fM_from fM_to fM_whole fM_ways iM_plainRows fM_plainRow fM_kept fM_goalOver fM_goalUnder fM_goalMax fM_different) (WQ hQ aQ kQ hw fQ_inside_674 fQ_outside_674 fQ_shut_674 iQ_rows_674 iQ_allRows_674 iQ_columns_674) (WW nW hw lw kw wl_x200 wb_x200 wG_x200)
                  have hPc := hP.mem (fun q h => p9.mem_iff.mpr (List.mem_append_left _ h))
                  have hDc := (hD.perm p9).left
                  have hKc : va_K (dC, dI) vwCl (tQ kQ ++ (tW kw)) _ := hK.sub [20, 21, 22, 23, 24] rfl
                  have hFc := freeG p9 hD hS hA
                  refine va_callr (va_runV (As := [.int l5_x200, .int 0]) (rest := []) ⟨hx, hb, hml, hown, hts⟩ (m_X6_cellAt l dC dI hQ aQ kQ hw fQ_inside_674 fQ_outside_674 fQ_shut_674 iQ_rows_674 iQ_allRows_674 iQ_columns_674 nW lw kw wl_x200 wb_x200 wG_x200 l5_x200 0 (b_iQ_rows_674) (b_iQ_allRows_674) (b_iQ_columns_674) (by first | with_reducible assumption | omega | assumption) b_wl_x200 b_wb_x200 (⟨b_l5_x200.1, Int.le_trans b_l5_x200.2 (by decide)⟩) (show 0 ≤ (0 : Int32).toInt ∧ (0 : Int32).toInt ≤ 40 from by decide) (by omega) ((by have h9 := ix_small (i := l5_x200.toInt) (j := 0) (c := iQ_columns_674.toInt) (by omega) (by omega) (by omega) (by omega) (by omega) (by omega); have h8 : (0 : Int32).toInt = 0 := (by decide); rw [h8]; exact h9)) H.size) (cwV 2 hts gwsMX5_lay_1 rfl rfl rfl hd_yX6_cellAt_RX6 (by decide +kernel)) (fz_pre (va_recv hK hP (ci := 6) (q0 := 22) rfl rfl) hPc hKc hDc) rfl rfl hl.1 rfl (lv_room (Nat.le_of_ble_eq_true rfl)) dX5_lay_230 (by decide +kernel)) hS (fun q _ h => hFc q h) hFc (fun kR_968 ra968 t9_ H locs ht hvm hw9 hB9 hz1 hk1 hS => ?_)
                  revert hB9
                  refine fz_a2 ?_
                  intro hra hB9
                  subst hra
                  have f968_0 := hw9
                  try dsimp only at f968_0
                  have p8 := p9
                  obtain ⟨hP, hD⟩ := frameG p9 p8 hP hD hk1 hFc (fz_P ht hB9.1) hB9.2
                  refine lv_aload_n hx hb dX5_lay_233 rfl (lv_at hl 4 rfl) ?_
                  refine va_get (D := (dC, dI)) (ci := 5) (v := .ref (hM 0)) (C := RX5) (T := TX5) (N := 19) hx hb hts iwsMX5_lay_in5 hown hK hP 0 rfl rfl 0 (by decide) (hts _ hm_m_X5_lay_0) (fun _ h9 => h9) rfl dX5_lay_234 ?_
                  refine va_get (D := (dC, dI)) (ci := 1) (v := .ref (aM 1)) (C := RX1) (T := TX1) (N := 17) hx hb hts iwsMX5_lay_in1 hown hK hP 11 rfl rfl 7 (by decide) (hts (.fieldLink RX5 181 "OptimaWorks$Model" "to" "[I") (by decide +kernel)) (fun _ h9 => h9) rfl dX5_lay_237 ?_
                  refine lv_iload hx hb dX5_lay_240 (lv_at hl 0 rfl) ?_
                  refine va_iald (cA := kM 1) (n := 8) (f := fM_to) hx hb hK hP 13 11 rfl rfl (vp_in_iff.mpr ⟨b_l6_x200.1, (Int.lt_of_lt_of_le (Int.not_le.mp t_209) (Int.le_trans b_iM_variables.2 (by decide)))⟩) dX5_lay_242 ?_
                  refine lv_topi (fun v969 hv969 => ?_)
                  clear hv969
                  refine lv_aload_n hx hb dX5_lay_243 rfl (lv_at hl 4 rfl) ?_
                  refine va_get (D := (dC, dI)) (ci := 5) (v := .ref (hM 0)) (C := RX5) (T := TX5) (N := 19) hx hb hts iwsMX5_lay_in5 hown hK hP 0 rfl rfl 0 (by decide) (hts _ hm_m_X5_lay_0) (fun _ h9 => h9) rfl dX5_lay_244 ?_
                  refine va_get (D := (dC, dI)) (ci := 1) (v := .ref (aM 0)) (C := RX1) (T := TX1) (N := 17) hx hb hts iwsMX5_lay_in1 hown hK hP 11 rfl rfl 6 (by decide) (hts _ hm_m_X5_lay_5) (fun _ h9 => h9) rfl dX5_lay_247 ?_
                  refine lv_iload hx hb dX5_lay_250 (lv_at hl 0 rfl) ?_
                  refine va_iald (cA := kM 0) (n := 8) (f := fM_from) hx hb hK hP 12 10 rfl rfl (vp_in_iff.mpr ⟨b_l6_x200.1, (Int.lt_of_lt_of_le (Int.not_le.mp t_209) (Int.le_trans b_iM_variables.2 (by decide)))⟩) dX5_lay_252 ?_
                  refine lv_topi (fun v970 hv970 => ?_)
                  clear hv970
                  refine lv_isub hx hb dX5_lay_253 ?_
                  refine lv_topi (fun y971 hy971 => ?_)
                  obtain rfl : (iI (v969.toInt - v970.toInt)) = y971 := (hy971.trans (iI_sub2 (iI_of _) (iI_of _))).symm
                  refine lv_i2l hx hb dX5_lay_254 rfl ?_
                  refine lv_topl (fun v972 hv972 => ?_)
                  clear hv972
                  have p9 := cj_4_3 (WO hO aO kO hM hQ hw iO_answered iO_searched iO_searchedRelaxed iO_counted fO_countedCase gO_goalNumber gO_goalScale fO_start_x5 fO_column_x5 fO_chosen) (WM hM aM kM iM_stands iM_variables iM_rows iM_goals iM_differents iM_cases fM_from fM_to fM_whole fM_ways iM_plainRows fM_plainRow fM_kept fM_goalOver fM_goalUnder fM_goalMax fM_different) (WQ hQ aQ kQ hw fQ_inside_674 fQ_outside_674 fQ_shut_674 iQ_rows_674 iQ_allRows_674 iQ_columns_674) (WW nW hw lw kw wl_x200 wb_x200 wG_x200)
                  have hPc := hP.mem (fun q h => p9.mem_iff.mpr (List.mem_append_left _ h))
                  have hDc := (hD.perm p9).left
                  have hKc : va_K (dC, dI) vwCl (tW kw) _ := hK.sub [24] rfl
                  have hFc := freeG p9 hD hS hA
                  refine va_callv (va_runV (As := [.long v972]) (rest := []) ⟨hx, hb, hml, hown, hts⟩ (m_X8_setLong l dC dI nW hw lw kw wl_x200 wb_x200 wG_x200 kR_968 v972 b_wl_x200 b_wb_x200 (by first | with_reducible assumption | omega | (rw [iI_t (by omega) (by omega)]; omega) | decide | assumption) H.size) (cwV 1 hts gwsMX5_lay_2 rfl rfl rfl hd_yX8_setLong_RX8 (by decide +kernel)) (fz_pre (va_recv hK hP (ci := 8) (q0 := 11 + (11 + (5 + (kR_968)))) rfl (apR rfl (apR rfl (apR rfl (WW_o (by omega)))))) hPc hKc hDc) rfl rfl hl.1 rfl (lv_room (Nat.le_of_ble_eq_true rfl)) dX5_lay_255 (by decide +kernel)) hS (fun q _ h => hFc q h) hFc (fun u t9_ H locs ht hvm hw9 hB9 hz1 hk1 hS => ?_)
                  revert u hw9 hB9
                  refine fz_p3 ?_
                  intro wl_973 wb_973 wG_973 hw9 hB9
                  try dsimp only at hw9 hB9
                  revert hw9
                  refine fz_a2 ?_
                  intro b_wl_973 b_wb_973
                  have p8 := cj_4_3 (WO hO aO kO hM hQ hw iO_answered iO_searched iO_searchedRelaxed iO_counted fO_countedCase gO_goalNumber gO_goalScale fO_start_x5 fO_column_x5 fO_chosen) (WM hM aM kM iM_stands iM_variables iM_rows iM_goals iM_differents iM_cases fM_from fM_to fM_whole fM_ways iM_plainRows fM_plainRow fM_kept fM_goalOver fM_goalUnder fM_goalMax fM_different) (WQ hQ aQ kQ hw fQ_inside_674 fQ_outside_674 fQ_shut_674 iQ_rows_674 iQ_allRows_674 iQ_columns_674) (WW nW hw lw kw wl_973 wb_973 wG_973)
                  obtain ⟨hP, hD⟩ := frameG p9 p8 hP hD hk1 hFc (fz_P ht hB9.1) hB9.2
                  refine lv_aload_n hx hb dX5_lay_258 rfl (lv_at hl 4 rfl) ?_
                  refine va_get (D := (dC, dI)) (ci := 5) (v := .ref (hQ 0)) (C := RX5) (T := TX5) (N := 19) hx hb hts iwsMX5_lay_in5 hown hK hP 0 rfl rfl 1 (by decide) (hts _ hm_m_X5_lay_3) (fun _ h9 => h9) rfl dX5_lay_259 ?_
                  refine lv_iload hx hb dX5_lay_262 (lv_at hl 1 rfl) ?_
                  refine lv_aload_n hx hb dX5_lay_264 rfl (lv_at hl 4 rfl) ?_
                  refine va_get (D := (dC, dI)) (ci := 5) (v := .ref (aO 4)) (C := RX5) (T := TX5) (N := 19) hx hb hts iwsMX5_lay_in5 hown hK hP 0 rfl rfl 10 (by decide) (hts _ hm_m_X5_lay_4) (fun _ h9 => h9) rfl dX5_lay_265 ?_
                  refine lv_iload hx hb dX5_lay_268 (lv_at hl 0 rfl) ?_
                  refine va_iald (cA := kO 4) (n := 8) (f := fO_column_x5) hx hb hK hP 5 4 rfl rfl (vp_in_iff.mpr ⟨b_l6_x200.1, (Int.lt_of_lt_of_le (Int.not_le.mp t_209) (Int.le_trans b_iM_variables.2 (by decide)))⟩) dX5_lay_270 ?_
                  refine lv_topi (fun v974 hv974 => ?_)
                  have b_v974 : (-1) ≤ v974.toInt ∧ v974.toInt ≤ 8 := by rw [hv974]; exact b_fO_column_x5 _
                  have b1_v974 : v974 = fO_column_x5 (l6_x200).toNatClampNeg := hv974
                  have b2_v974 : v974.toInt = v967.toInt := by rw [hv974]; exact (congrArg Int32.toInt b1_v967).symm
                  clear hv974
                  have p9 := cj_4_2_3 (WO hO aO kO hM hQ hw iO_answered iO_searched iO_searchedRelaxed iO_counted fO_countedCase gO_goalNumber gO_goalScale fO_start_x5 fO_column_x5 fO_chosen) (WM hM aM kM iM_stands iM_variables iM_rows iM_goals iM_differents iM_cases fM_from fM_to fM_whole fM_ways iM_plainRows fM_plainRow fM_kept fM_goalOver fM_goalUnder fM_goalMax fM_different) (WQ hQ aQ kQ hw fQ_inside_674 fQ_outside_674 fQ_shut_674 iQ_rows_674 iQ_allRows_674 iQ_columns_674) (WW nW hw lw kw wl_973 wb_973 wG_973)
                  have hPc := hP.mem (fun q h => p9.mem_iff.mpr (List.mem_append_left _ h))
                  have hDc := (hD.perm p9).left
                  have hKc : va_K (dC, dI) vwCl (tQ kQ ++ (tW kw)) _ := hK.sub [20, 21, 22, 23, 24] rfl
                  have hFc := freeG p9 hD hS hA
                  refine va_callr (va_runV (As := [.int l5_x200, .int v974]) (rest := []) ⟨hx, hb, hml, hown, hts⟩ (m_X6_cellAt l dC dI hQ aQ kQ hw fQ_inside_674 fQ_outside_674 fQ_shut_674 iQ_rows_674 iQ_allRows_674 iQ_columns_674 nW lw kw wl_973 wb_973 wG_973 l5_x200 v974 (b_iQ_rows_674) (b_iQ_allRows_674) (b_iQ_columns_674) (by first | with_reducible assumption | omega | assumption) b_wl_973 b_wb_973 (⟨b_l5_x200.1, Int.le_trans b_l5_x200.2 (by decide)⟩) (by first | exact b_v974 | with_reducible assumption | exact ⟨by omega, by omega⟩ | assumption) (by omega) ((by have h9 := ix_small (i := l5_x200.toInt) (j := v974.toInt) (c := iQ_columns_674.toInt) (by omega) (by omega) (by omega) (by omega) (by omega) (by omega); exact h9)) H.size) (cwV 2 hts gwsMX5_lay_1 rfl rfl rfl hd_yX6_cellAt_RX6 (by decide +kernel)) (fz_pre (va_recv hK hP (ci := 6) (q0 := 22) rfl rfl) hPc hKc hDc) rfl rfl hl.1 rfl (lv_room (Nat.le_of_ble_eq_true rfl)) dX5_lay_271 (by decide +kernel)) hS (fun q _ h => hFc q h) hFc (fun kR_975 ra975 t9_ H locs ht hvm hw9 hB9 hz1 hk1 hS => ?_)
                  revert hB9
                  refine fz_a2 ?_
                  intro hra hB9
                  subst hra
                  have f975_0 := hw9
                  try dsimp only at f975_0
                  have p8 := p9
                  obtain ⟨hP, hD⟩ := frameG p9 p8 hP hD hk1 hFc (fz_P ht hB9.1) hB9.2
                  refine lv_ldc2 (v := (-1)) hx hb hown (hts (.constantLong RX5 188 (-1)) (by decide +kernel)) dX5_lay_274 ?_
                  have p9 := cj_4_3 (WO hO aO kO hM hQ hw iO_answered iO_searched iO_searchedRelaxed iO_counted fO_countedCase gO_goalNumber gO_goalScale fO_start_x5 fO_column_x5 fO_chosen) (WM hM aM kM iM_stands iM_variables iM_rows iM_goals iM_differents iM_cases fM_from fM_to fM_whole fM_ways iM_plainRows fM_plainRow fM_kept fM_goalOver fM_goalUnder fM_goalMax fM_different) (WQ hQ aQ kQ hw fQ_inside_674 fQ_outside_674 fQ_shut_674 iQ_rows_674 iQ_allRows_674 iQ_columns_674) (WW nW hw lw kw wl_973 wb_973 wG_973)
                  have hPc := hP.mem (fun q h => p9.mem_iff.mpr (List.mem_append_left _ h))
                  have hDc := (hD.perm p9).left
                  have hKc : va_K (dC, dI) vwCl (tW kw) _ := hK.sub [24] rfl
                  have hFc := freeG p9 hD hS hA
                  refine va_callv (va_runV (As := [.long (-1)]) (rest := []) ⟨hx, hb, hml, hown, hts⟩ (m_X8_setLong l dC dI nW hw lw kw wl_973 wb_973 wG_973 kR_975 (-1) b_wl_973 b_wb_973 (by first | with_reducible assumption | omega | (rw [iI_t (by omega) (by omega)]; omega) | decide | assumption) H.size) (cwV 1 hts gwsMX5_lay_2 rfl rfl rfl hd_yX8_setLong_RX8 (by decide +kernel)) (fz_pre (va_recv hK hP (ci := 8) (q0 := 11 + (11 + (5 + (kR_975)))) rfl (apR rfl (apR rfl (apR rfl (WW_o (by omega)))))) hPc hKc hDc) rfl rfl hl.1 rfl (lv_room (Nat.le_of_ble_eq_true rfl)) dX5_lay_277 (by decide +kernel)) hS (fun q _ h => hFc q h) hFc (fun u t9_ H locs ht hvm hw9 hB9 hz1 hk1 hS => ?_)
                  revert u hw9 hB9
                  refine fz_p3 ?_
                  intro wl_976 wb_976 wG_976 hw9 hB9
                  try dsimp only at hw9 hB9
                  revert hw9
                  refine fz_a2 ?_
                  intro b_wl_976 b_wb_976
                  have p8 := cj_4_3 (WO hO aO kO hM hQ hw iO_answered iO_searched iO_searchedRelaxed iO_counted fO_countedCase gO_goalNumber gO_goalScale fO_start_x5 fO_column_x5 fO_chosen) (WM hM aM kM iM_stands iM_variables iM_rows iM_goals iM_differents iM_cases fM_from fM_to fM_whole fM_ways iM_plainRows fM_plainRow fM_kept fM_goalOver fM_goalUnder fM_goalMax fM_different) (WQ hQ aQ kQ hw fQ_inside_674 fQ_outside_674 fQ_shut_674 iQ_rows_674 iQ_allRows_674 iQ_columns_674) (WW nW hw lw kw wl_976 wb_976 wG_976)
                  obtain ⟨hP, hD⟩ := frameG p9 p8 hP hD hk1 hFc (fz_P ht hB9.1) hB9.2
                  refine lv_iinc (v := (iI (l5_x200.toInt + 1))) hx hb dX5_lay_280 hl (k := 1) rfl (iI_add2 (iI_of _) (by decide : (1 : Int32) = iI 1)) (by decide) rfl (fun ls (hl : lv_has ls _ ([(5, .int (iI (l5_x200.toInt + 1))), (6, .int l6_x200), (4, .int k0_j36), (3, .int l3_x5), (0, .ref (hO 0)), (1, .int p1), (2, .int p2)])) => ?_)
                  refine lv_iinc (v := (iI (l6_x200.toInt + 1))) hx hb dX5_lay_283 hl (k := 1) rfl (iI_add2 (iI_of _) (by decide : (1 : Int32) = iI 1)) (by decide) rfl (fun ls (hl : lv_has ls _ ([(6, .int (iI (l6_x200.toInt + 1))), (5, .int (iI (l5_x200.toInt + 1))), (4, .int k0_j36), (3, .int l3_x5), (0, .ref (hO 0)), (1, .int p1), (2, .int p2)])) => ?_)
                  refine lv_goto (tgt := 200) hx hb dX5_lay_286 (by decide) ?_
                  have hl : lv_has _ _ ([(6, .int (iI (l6_x200.toInt + 1))), (5, .int (iI (l5_x200.toInt + 1))), (4, .int k0_j36), (3, .int l3_x5), (0, .ref (hO 0)), (1, .int p1), (2, .int p2)]) := lv_sub hl [0, 1, 2, 3, 4, 5, 6] rfl
                  exact ihx200 wl_976 wb_976 wG_976 (iI (l6_x200.toInt + 1)) (iI (l5_x200.toInt + 1)) _ _ _ b_wl_976 b_wb_976 (iI_rng (Int.le_trans (by decide) (Int.add_le_add (b_l6_x200.1) (Int.le_refl _))) (by omega) (by decide) (by decide)) (iI_rng (Int.le_trans (by decide) (Int.add_le_add (b_l5_x200.1) (Int.le_refl _))) (by omega) (by decide) (by decide)) (show (iI (l5_x200.toInt + 1)).toInt ≤ 12 + (iI (l6_x200.toInt + 1)).toInt from by (try rw [iI_t (E := l3_x5.toInt + 1) (by omega) (by omega)]); (try rw [iI_t (E := l4_x5.toInt + 1) (by omega) (by omega)]); (try rw [iI_t (E := l5_x130.toInt + 1) (by omega) (by omega)]); (try rw [iI_t (E := l6_x130.toInt + 1) (by omega) (by omega)]); (try rw [iI_t (E := l5_x200.toInt + 1) (by omega) (by omega)]); (try rw [iI_t (E := l6_x200.toInt + 1) (by omega) (by omega)]); omega) (by have e9 : ((iI (l6_x200.toInt + 1))).toInt = (l6_x200.toInt + 1) := (iI_t (Int.le_trans (by decide) (Int.add_le_add (b_l6_x200.1) (Int.le_refl _))) (Int.le_trans (Int.add_le_add (b_l6_x200.2) (Int.le_refl _)) (by decide))); omega) hP hD hS hl
          · have t_139 : ¬ l6_x130.toInt ≥ iM_rows.toInt := toI_nge c_139 rfl rfl
            refine lv_iload_n hx hb dX5_lay_142 rfl (lv_at hl 5 rfl) ?_
            refine lv_if_eq (tgt := 160) hx hb dX5_lay_143 (by decide) (fun c_143 => ?_) (fun c_143 => ?_)
            · have t_143 : p1.toInt = 0 := toI_eq c_143 rfl (by decide : (0 : Int32).toInt = 0)
              refine lv_aload_n hx hb dX5_lay_160 rfl (lv_at hl 4 rfl) ?_
              refine lv_iload hx hb dX5_lay_161 (lv_at hl 1 rfl) ?_
              refine lv_iload hx hb dX5_lay_163 (lv_at hl 0 rfl) ?_
              refine lv_iload_n hx hb dX5_lay_165 rfl (lv_at hl 5 rfl) ?_
              refine W.cut (pc := 180) (fun H locs ls stk => ∃ (k0_j41 : Int32), (0 ≤ k0_j41.toInt ∧ k0_j41.toInt ≤ 2) ∧  stk = [.int k0_j41, .int l6_x130, .int l5_x130, .ref (hO 0)] ∧ va_P (dC, dI) vwCl (WO hO aO kO hM hQ hw iO_answered iO_searched iO_searchedRelaxed iO_counted fO_countedCase gO_goalNumber gO_goalScale fO_start_x5 fO_column_x5 fO_chosen ++ (WM hM aM kM iM_stands iM_variables iM_rows iM_goals iM_differents iM_cases fM_from fM_to fM_whole fM_ways iM_plainRows fM_plainRow fM_kept fM_goalOver fM_goalUnder fM_goalMax fM_different ++ (WQ hQ aQ kQ hw fQ_inside_674 fQ_outside_674 fQ_shut_674 iQ_rows_674 iQ_allRows_674 iQ_columns_674 ++ (WW nW hw lw kw wl_x130 wb_x130 wG_x130)))) H ∧ va_D A (WO hO aO kO hM hQ hw iO_answered iO_searched iO_searchedRelaxed iO_counted fO_countedCase gO_goalNumber gO_goalScale fO_start_x5 fO_column_x5 fO_chosen ++ (WM hM aM kM iM_stands iM_variables iM_rows iM_goals iM_differents iM_cases fM_from fM_to fM_whole fM_ways iM_plainRows fM_plainRow fM_kept fM_goalOver fM_goalUnder fM_goalMax fM_different ++ (WQ hQ aQ kQ hw fQ_inside_674 fQ_outside_674 fQ_shut_674 iQ_rows_674 iQ_allRows_674 iQ_columns_674 ++ (WW nW hw lw kw wl_x130 wb_x130 wG_x130)))) ∧ va_S A s.heap H locs ∧ lv_has ls 7 [(6, .int l6_x130), (5, .int l5_x130), (4, .int k0_j36), (3, .int l3_x5), (0, .ref (hO 0)), (1, .int p1), (2, .int p2)]) (fun join41 => ?_) ?_
              · refine lv_if_eq (tgt := 173) hx hb dX5_lay_166 (by decide) (fun c_166 => ?_) (fun c_166 => ?_)
                · have t_166 : p1.toInt = 0 := toI_eq c_166 rfl (by decide : (0 : Int32).toInt = 0)
                  refine lv_aload_n hx hb dX5_lay_173 rfl (lv_at hl 4 rfl) ?_
                  refine va_get (D := (dC, dI)) (ci := 5) (v := .ref (aO 5)) (C := RX5) (T := TX5) (N := 19) hx hb hts iwsMX5_lay_in5 hown hK hP 0 rfl rfl 11 (by decide) (hts _ hm_m_X5_lay_6) (fun _ h9 => h9) rfl dX5_lay_174 ?_
                  refine lv_iload hx hb dX5_lay_177 (lv_at hl 0 rfl) ?_
                  refine va_iald (cA := kO 5) (n := 12) (f := fO_chosen) hx hb hK hP 6 5 rfl rfl (vp_in_iff.mpr ⟨b_l6_x130.1, (by omega)⟩) dX5_lay_179 ?_
                  refine lv_topi (fun v978 hv978 => ?_)
                  have b_v978 : 0 ≤ v978.toInt ∧ v978.toInt ≤ 2 := by rw [hv978]; exact b_fO_chosen _
                  clear hv978
                  have hl : lv_has _ _ ([(6, .int l6_x130), (5, .int l5_x130), (4, .int k0_j36), (3, .int l3_x5), (0, .ref (hO 0)), (1, .int p1), (2, .int p2)]) := lv_sub hl [0, 1, 2, 3, 4, 5, 6] rfl
                  exact join41 _ _ _ _ ⟨v978, (b_v978), rfl, hP, hD, hS, hl⟩
                · have t_166 : ¬ p1.toInt = 0 := toI_neq c_166 rfl (by decide : (0 : Int32).toInt = 0)
                  refine lv_iconst (v := 0) hx hb dX5_lay_169 (by decide) ?_
                  refine lv_goto (tgt := 180) hx hb dX5_lay_170 (by decide) ?_
                  have hl : lv_has _ _ ([(6, .int l6_x130), (5, .int l5_x130), (4, .int k0_j36), (3, .int l3_x5), (0, .ref (hO 0)), (1, .int p1), (2, .int p2)]) := lv_sub hl [0, 1, 2, 3, 4, 5, 6] rfl
                  exact join41 _ _ _ _ ⟨0, (show 0 ≤ (0 : Int32).toInt ∧ (0 : Int32).toInt ≤ 2 from by decide), rfl, hP, hD, hS, hl⟩
              · rintro H locs ls stk ⟨k0_j41, b_k0_j41, rfl, hP, hD, hS, hl⟩
                have hFc := allFree hD hS hA
                refine va_calli (va_runV (As := [.int l5_x130, .int l6_x130, .int k0_j41]) (rest := []) ⟨hx, hb, hml, hown, hts⟩ (m_X5_layWay l dC dI hO aO kO hM hQ hw iO_answered iO_searched iO_searchedRelaxed iO_counted fO_countedCase gO_goalNumber gO_goalScale fO_start_x5 fO_column_x5 fO_chosen aM kM iM_stands iM_variables iM_rows iM_goals iM_differents iM_cases fM_from fM_to fM_whole fM_ways iM_plainRows fM_plainRow fM_kept fM_goalOver fM_goalUnder fM_goalMax fM_different aQ kQ fQ_inside_674 fQ_outside_674 fQ_shut_674 iQ_rows_674 iQ_allRows_674 iQ_columns_674 nW lw kw wl_x130 wb_x130 wG_x130 l5_x130 l6_x130 k0_j41 (b_iO_answered) (b_iO_searched) (b_iO_searchedRelaxed) (b_iO_counted) b_fO_countedCase b_fO_column_x5 b_fO_chosen (b_iM_stands) (b_iM_variables) (b_iM_rows) (b_iM_goals) (b_iM_differents) (b_iM_cases) b_fM_ways (b_iM_plainRows) b_fM_plainRow (by first | with_reducible assumption | omega | assumption) (b_iQ_rows_674) (b_iQ_allRows_674) (b_iQ_columns_674) (by first | with_reducible assumption | omega | assumption) b_wl_x130 b_wb_x130 (⟨b_l5_x130.1, Int.le_trans b_l5_x130.2 (by decide)⟩) (by first | exact b_l6_x130 | with_reducible assumption | exact ⟨by omega, by omega⟩ | assumption) (b_k0_j41) (by omega) (by omega) H.size) (cwV 3 hts gwsMX5_lay_4 rfl rfl rfl hd_yX5_layWay_RX5 (by decide +kernel)) (fz_pre (va_recv hK hP (ci := 5) (q0 := 0) rfl rfl) hP hK hD) rfl rfl hl.1 rfl (lv_room (Nat.le_of_ble_eq_true rfl)) dX5_lay_180 (by decide +kernel)) hS (fun q _ h => hFc q h) hFc (fun r979 u t9_ H locs ht hvm hw9 hB9 hz1 hk1 hS => ?_)
                revert u hw9 hB9
                refine fz_p3 ?_
                intro wl_979 wb_979 wG_979 hw9 hB9
                try dsimp only at hw9 hB9
                revert hw9
                refine fz_a3 ?_
                intro b_wl_979 b_wb_979 b_r979
                have hP : va_P (dC, dI) vwCl (WO hO aO kO hM hQ hw iO_answered iO_searched iO_searchedRelaxed iO_counted fO_countedCase gO_goalNumber gO_goalScale fO_start_x5 fO_column_x5 fO_chosen ++ (WM hM aM kM iM_stands iM_variables iM_rows iM_goals iM_differents iM_cases fM_from fM_to fM_whole fM_ways iM_plainRows fM_plainRow fM_kept fM_goalOver fM_goalUnder fM_goalMax fM_different ++ (WQ hQ aQ kQ hw fQ_inside_674 fQ_outside_674 fQ_shut_674 iQ_rows_674 iQ_allRows_674 iQ_columns_674 ++ (WW nW hw lw kw wl_979 wb_979 wG_979)))) H := fz_P ht hB9.1
                have hD := fz_sd hP (hB9.2.weaken (fun _ q _ h => hFc q.1 h)) rfl
                refine lv_if_ne (tgt := 188) hx hb dX5_lay_183 (by decide) (fun c_183 => ?_) (fun c_183 => ?_)
                · have t_183 : r979.toInt ≠ 0 := toI_ne c_183 rfl (by decide : (0 : Int32).toInt = 0)
                  refine lv_iinc (v := (iI (l5_x130.toInt + 1))) hx hb dX5_lay_188 hl (k := 1) rfl (iI_add2 (iI_of _) (by decide : (1 : Int32) = iI 1)) (by decide) rfl (fun ls (hl : lv_has ls _ ([(5, .int (iI (l5_x130.toInt + 1))), (6, .int l6_x130), (4, .int k0_j36), (3, .int l3_x5), (0, .ref (hO 0)), (1, .int p1), (2, .int p2)])) => ?_)
                  refine lv_iinc (v := (iI (l6_x130.toInt + 1))) hx hb dX5_lay_191 hl (k := 1) rfl (iI_add2 (iI_of _) (by decide : (1 : Int32) = iI 1)) (by decide) rfl (fun ls (hl : lv_has ls _ ([(6, .int (iI (l6_x130.toInt + 1))), (5, .int (iI (l5_x130.toInt + 1))), (4, .int k0_j36), (3, .int l3_x5), (0, .ref (hO 0)), (1, .int p1), (2, .int p2)])) => ?_)
                  refine lv_goto (tgt := 130) hx hb dX5_lay_194 (by decide) ?_
                  have hl : lv_has _ _ ([(6, .int (iI (l6_x130.toInt + 1))), (5, .int (iI (l5_x130.toInt + 1))), (4, .int k0_j36), (3, .int l3_x5), (0, .ref (hO 0)), (1, .int p1), (2, .int p2)]) := lv_sub hl [0, 1, 2, 3, 4, 5, 6] rfl
                  exact ihx130 wl_979 wb_979 wG_979 (iI (l6_x130.toInt + 1)) (iI (l5_x130.toInt + 1)) _ _ _ b_wl_979 b_wb_979 (iI_rng (Int.le_trans (by decide) (Int.add_le_add (b_l6_x130.1) (Int.le_refl _))) (by omega) (by decide) (by decide)) (iI_rng (Int.le_trans (by decide) (Int.add_le_add (b_l5_x130.1) (Int.le_refl _))) (by omega) (by decide) (by decide)) (show (iI (l5_x130.toInt + 1)).toInt ≤ (iI (l6_x130.toInt + 1)).toInt from by (try rw [iI_t (E := l3_x5.toInt + 1) (by omega) (by omega)]); (try rw [iI_t (E := l4_x5.toInt + 1) (by omega) (by omega)]); (try rw [iI_t (E := l5_x130.toInt + 1) (by omega) (by omega)]); (try rw [iI_t (E := l6_x130.toInt + 1) (by omega) (by omega)]); (try rw [iI_t (E := l5_x200.toInt + 1) (by omega) (by omega)]); (try rw [iI_t (E := l6_x200.toInt + 1) (by omega) (by omega)]); omega) (by have e9 : ((iI (l6_x130.toInt + 1))).toInt = (l6_x130.toInt + 1) := (iI_t (Int.le_trans (by decide) (Int.add_le_add (b_l6_x130.1) (Int.le_refl _))) (Int.le_trans (Int.add_le_add (b_l6_x130.2) (Int.le_refl _)) (by decide))); omega) hP hD hS hl
                · have t_183 : r979.toInt = 0 := toI_nne c_183 rfl (by decide : (0 : Int32).toInt = 0)
                  refine lv_iconst (v := 0) hx hb dX5_lay_186 (by decide) ?_
                  refine W.widen (k := 0) (n := 0) (by decide +kernel) (by decide +kernel) ?_
                  exact W.zret (v := 0) hx hb hr rfl (fun t9_ ht hW => ⟨⟨(0 : Int32), (fO_start_x5, fO_column_x5, fQ_inside_674, fQ_outside_674, fQ_shut_674, iQ_rows_674, iQ_allRows_674, iQ_columns_674, wl_979, wb_979, wG_979), rfl, ⟨b_fO_column_x5, b_iQ_rows_674, b_iQ_allRows_674, b_iQ_columns_674, b_wl_979, b_wb_979, (by (try dsimp only); exact (by first | with_reducible assumption | omega | assumption)), (show 0 ≤ (0 : Int32).toInt ∧ (0 : Int32).toInt ≤ 1 from by decide), (by (try dsimp only); omega), (by (try dsimp only); omega)⟩, by rw [ht]; exact hP, hD⟩, hS.F ht⟩) hS.2.2 dX5_lay_187
            · have t_143 : ¬ p1.toInt = 0 := toI_neq c_143 rfl (by decide : (0 : Int32).toInt = 0)
              refine lv_aload_n hx hb dX5_lay_146 rfl (lv_at hl 4 rfl) ?_
              refine va_get (D := (dC, dI)) (ci := 5) (v := .ref (hM 0)) (C := RX5) (T := TX5) (N := 19) hx hb hts iwsMX5_lay_in5 hown hK hP 0 rfl rfl 0 (by decide) (hts _ hm_m_X5_lay_0) (fun _ h9 => h9) rfl dX5_lay_147 ?_
              refine va_get (D := (dC, dI)) (ci := 1) (v := .ref (aM 3)) (C := RX1) (T := TX1) (N := 17) hx hb hts iwsMX5_lay_in1 hown hK hP 11 rfl rfl 9 (by decide) (hts (.fieldLink RX5 134 "OptimaWorks$Model" "ways" "[I") (by decide +kernel)) (fun _ h9 => h9) rfl dX5_lay_150 ?_
              refine lv_iload hx hb dX5_lay_153 (lv_at hl 0 rfl) ?_
              refine va_iald (cA := kM 3) (n := 12) (f := fM_ways) hx hb hK hP 15 13 rfl rfl (vp_in_iff.mpr ⟨b_l6_x130.1, (by omega)⟩) dX5_lay_155 ?_
              refine lv_topi (fun v980 hv980 => ?_)
              have b_v980 : 0 ≤ v980.toInt ∧ v980.toInt ≤ 3 := by rw [hv980]; exact b_fM_ways _
              clear hv980
              refine lv_iconst (v := 1) hx hb dX5_lay_156 (by decide) ?_
              refine lv_icmp_ne (tgt := 191) hx hb dX5_lay_157 (by decide) (fun c_157 => ?_) (fun c_157 => ?_)
              · have t_157 : v980.toInt ≠ 1 := toI_ne c_157 rfl (by decide : (1 : Int32).toInt = 1)
                refine lv_iinc (v := (iI (l6_x130.toInt + 1))) hx hb dX5_lay_191 hl (k := 0) rfl (iI_add2 (iI_of _) (by decide : (1 : Int32) = iI 1)) (by decide) rfl (fun ls (hl : lv_has ls _ ([(6, .int (iI (l6_x130.toInt + 1))), (5, .int l5_x130), (4, .int k0_j36), (3, .int l3_x5), (0, .ref (hO 0)), (1, .int p1), (2, .int p2)])) => ?_)
                refine lv_goto (tgt := 130) hx hb dX5_lay_194 (by decide) ?_
                have hl : lv_has _ _ ([(6, .int (iI (l6_x130.toInt + 1))), (5, .int l5_x130), (4, .int k0_j36), (3, .int l3_x5), (0, .ref (hO 0)), (1, .int p1), (2, .int p2)]) := lv_sub hl [0, 1, 2, 3, 4, 5, 6] rfl
                exact ihx130 wl_x130 wb_x130 wG_x130 (iI (l6_x130.toInt + 1)) l5_x130 _ _ _ b_wl_x130 b_wb_x130 (iI_rng (Int.le_trans (by decide) (Int.add_le_add (b_l6_x130.1) (Int.le_refl _))) (by omega) (by decide) (by decide)) (b_l5_x130) (show l5_x130.toInt ≤ (iI (l6_x130.toInt + 1)).toInt from by (try rw [iI_t (E := l3_x5.toInt + 1) (by omega) (by omega)]); (try rw [iI_t (E := l4_x5.toInt + 1) (by omega) (by omega)]); (try rw [iI_t (E := l5_x130.toInt + 1) (by omega) (by omega)]); (try rw [iI_t (E := l6_x130.toInt + 1) (by omega) (by omega)]); (try rw [iI_t (E := l5_x200.toInt + 1) (by omega) (by omega)]); (try rw [iI_t (E := l6_x200.toInt + 1) (by omega) (by omega)]); omega) (by have e9 : ((iI (l6_x130.toInt + 1))).toInt = (l6_x130.toInt + 1) := (iI_t (Int.le_trans (by decide) (Int.add_le_add (b_l6_x130.1) (Int.le_refl _))) (Int.le_trans (Int.add_le_add (b_l6_x130.2) (Int.le_refl _)) (by decide))); omega) hP hD hS hl
              · have t_157 : v980.toInt = 1 := toI_nne c_157 rfl (by decide : (1 : Int32).toInt = 1)
                refine lv_aload_n hx hb dX5_lay_160 rfl (lv_at hl 4 rfl) ?_
                refine lv_iload hx hb dX5_lay_161 (lv_at hl 1 rfl) ?_
                refine lv_iload hx hb dX5_lay_163 (lv_at hl 0 rfl) ?_
                refine lv_iload_n hx hb dX5_lay_165 rfl (lv_at hl 5 rfl) ?_
                refine W.cut (pc := 180) (fun H locs ls stk => ∃ (k0_j42 : Int32), (0 ≤ k0_j42.toInt ∧ k0_j42.toInt ≤ 2) ∧  stk = [.int k0_j42, .int l6_x130, .int l5_x130, .ref (hO 0)] ∧ va_P (dC, dI) vwCl (WO hO aO kO hM hQ hw iO_answered iO_searched iO_searchedRelaxed iO_counted fO_countedCase gO_goalNumber gO_goalScale fO_start_x5 fO_column_x5 fO_chosen ++ (WM hM aM kM iM_stands iM_variables iM_rows iM_goals iM_differents iM_cases fM_from fM_to fM_whole fM_ways iM_plainRows fM_plainRow fM_kept fM_goalOver fM_goalUnder fM_goalMax fM_different ++ (WQ hQ aQ kQ hw fQ_inside_674 fQ_outside_674 fQ_shut_674 iQ_rows_674 iQ_allRows_674 iQ_columns_674 ++ (WW nW hw lw kw wl_x130 wb_x130 wG_x130)))) H ∧ va_D A (WO hO aO kO hM hQ hw iO_answered iO_searched iO_searchedRelaxed iO_counted fO_countedCase gO_goalNumber gO_goalScale fO_start_x5 fO_column_x5 fO_chosen ++ (WM hM aM kM iM_stands iM_variables iM_rows iM_goals iM_differents iM_cases fM_from fM_to fM_whole fM_ways iM_plainRows fM_plainRow fM_kept fM_goalOver fM_goalUnder fM_goalMax fM_different ++ (WQ hQ aQ kQ hw fQ_inside_674 fQ_outside_674 fQ_shut_674 iQ_rows_674 iQ_allRows_674 iQ_columns_674 ++ (WW nW hw lw kw wl_x130 wb_x130 wG_x130)))) ∧ va_S A s.heap H locs ∧ lv_has ls 7 [(6, .int l6_x130), (5, .int l5_x130), (4, .int k0_j36), (3, .int l3_x5), (0, .ref (hO 0)), (1, .int p1), (2, .int p2)]) (fun join42 => ?_) ?_
                · refine lv_if_eq (tgt := 173) hx hb dX5_lay_166 (by decide) (fun c_166 => ?_) (fun c_166 => ?_)
                  · have t_166 : p1.toInt = 0 := toI_eq c_166 rfl (by decide : (0 : Int32).toInt = 0)
                    refine lv_aload_n hx hb dX5_lay_173 rfl (lv_at hl 4 rfl) ?_
                    refine va_get (D := (dC, dI)) (ci := 5) (v := .ref (aO 5)) (C := RX5) (T := TX5) (N := 19) hx hb hts iwsMX5_lay_in5 hown hK hP 0 rfl rfl 11 (by decide) (hts _ hm_m_X5_lay_6) (fun _ h9 => h9) rfl dX5_lay_174 ?_
                    refine lv_iload hx hb dX5_lay_177 (lv_at hl 0 rfl) ?_
                    refine va_iald (cA := kO 5) (n := 12) (f := fO_chosen) hx hb hK hP 6 5 rfl rfl (vp_in_iff.mpr ⟨b_l6_x130.1, (by omega)⟩) dX5_lay_179 ?_
                    refine lv_topi (fun v982 hv982 => ?_)
                    have b_v982 : 0 ≤ v982.toInt ∧ v982.toInt ≤ 2 := by rw [hv982]; exact b_fO_chosen _
                    clear hv982
                    have hl : lv_has _ _ ([(6, .int l6_x130), (5, .int l5_x130), (4, .int k0_j36), (3, .int l3_x5), (0, .ref (hO 0)), (1, .int p1), (2, .int p2)]) := lv_sub hl [0, 1, 2, 3, 4, 5, 6] rfl
                    exact join42 _ _ _ _ ⟨v982, (b_v982), rfl, hP, hD, hS, hl⟩
                  · have t_166 : ¬ p1.toInt = 0 := toI_neq c_166 rfl (by decide : (0 : Int32).toInt = 0)
                    refine lv_iconst (v := 0) hx hb dX5_lay_169 (by decide) ?_
                    refine lv_goto (tgt := 180) hx hb dX5_lay_170 (by decide) ?_
                    have hl : lv_has _ _ ([(6, .int l6_x130), (5, .int l5_x130), (4, .int k0_j36), (3, .int l3_x5), (0, .ref (hO 0)), (1, .int p1), (2, .int p2)]) := lv_sub hl [0, 1, 2, 3, 4, 5, 6] rfl
                    exact join42 _ _ _ _ ⟨0, (show 0 ≤ (0 : Int32).toInt ∧ (0 : Int32).toInt ≤ 2 from by decide), rfl, hP, hD, hS, hl⟩
                · rintro H locs ls stk ⟨k0_j42, b_k0_j42, rfl, hP, hD, hS, hl⟩
                  have hFc := allFree hD hS hA
                  refine va_calli (va_runV (As := [.int l5_x130, .int l6_x130, .int k0_j42]) (rest := []) ⟨hx, hb, hml, hown, hts⟩ (m_X5_layWay l dC dI hO aO kO hM hQ hw iO_answered iO_searched iO_searchedRelaxed iO_counted fO_countedCase gO_goalNumber gO_goalScale fO_start_x5 fO_column_x5 fO_chosen aM kM iM_stands iM_variables iM_rows iM_goals iM_differents iM_cases fM_from fM_to fM_whole fM_ways iM_plainRows fM_plainRow fM_kept fM_goalOver fM_goalUnder fM_goalMax fM_different aQ kQ fQ_inside_674 fQ_outside_674 fQ_shut_674 iQ_rows_674 iQ_allRows_674 iQ_columns_674 nW lw kw wl_x130 wb_x130 wG_x130 l5_x130 l6_x130 k0_j42 (b_iO_answered) (b_iO_searched) (b_iO_searchedRelaxed) (b_iO_counted) b_fO_countedCase b_fO_column_x5 b_fO_chosen (b_iM_stands) (b_iM_variables) (b_iM_rows) (b_iM_goals) (b_iM_differents) (b_iM_cases) b_fM_ways (b_iM_plainRows) b_fM_plainRow (by first | with_reducible assumption | omega | assumption) (b_iQ_rows_674) (b_iQ_allRows_674) (b_iQ_columns_674) (by first | with_reducible assumption | omega | assumption) b_wl_x130 b_wb_x130 (⟨b_l5_x130.1, Int.le_trans b_l5_x130.2 (by decide)⟩) (by first | exact b_l6_x130 | with_reducible assumption | exact ⟨by omega, by omega⟩ | assumption) (b_k0_j42) (by omega) (by omega) H.size) (cwV 3 hts gwsMX5_lay_4 rfl rfl rfl hd_yX5_layWay_RX5 (by decide +kernel)) (fz_pre (va_recv hK hP (ci := 5) (q0 := 0) rfl rfl) hP hK hD) rfl rfl hl.1 rfl (lv_room (Nat.le_of_ble_eq_true rfl)) dX5_lay_180 (by decide +kernel)) hS (fun q _ h => hFc q h) hFc (fun r983 u t9_ H locs ht hvm hw9 hB9 hz1 hk1 hS => ?_)
                  revert u hw9 hB9
                  refine fz_p3 ?_
                  intro wl_983 wb_983 wG_983 hw9 hB9
                  try dsimp only at hw9 hB9
                  revert hw9
                  refine fz_a3 ?_
                  intro b_wl_983 b_wb_983 b_r983
                  have hP : va_P (dC, dI) vwCl (WO hO aO kO hM hQ hw iO_answered iO_searched iO_searchedRelaxed iO_counted fO_countedCase gO_goalNumber gO_goalScale fO_start_x5 fO_column_x5 fO_chosen ++ (WM hM aM kM iM_stands iM_variables iM_rows iM_goals iM_differents iM_cases fM_from fM_to fM_whole fM_ways iM_plainRows fM_plainRow fM_kept fM_goalOver fM_goalUnder fM_goalMax fM_different ++ (WQ hQ aQ kQ hw fQ_inside_674 fQ_outside_674 fQ_shut_674 iQ_rows_674 iQ_allRows_674 iQ_columns_674 ++ (WW nW hw lw kw wl_983 wb_983 wG_983)))) H := fz_P ht hB9.1
                  have hD := fz_sd hP (hB9.2.weaken (fun _ q _ h => hFc q.1 h)) rfl
                  refine lv_if_ne (tgt := 188) hx hb dX5_lay_183 (by decide) (fun c_183 => ?_) (fun c_183 => ?_)
                  · have t_183 : r983.toInt ≠ 0 := toI_ne c_183 rfl (by decide : (0 : Int32).toInt = 0)
                    refine lv_iinc (v := (iI (l5_x130.toInt + 1))) hx hb dX5_lay_188 hl (k := 1) rfl (iI_add2 (iI_of _) (by decide : (1 : Int32) = iI 1)) (by decide) rfl (fun ls (hl : lv_has ls _ ([(5, .int (iI (l5_x130.toInt + 1))), (6, .int l6_x130), (4, .int k0_j36), (3, .int l3_x5), (0, .ref (hO 0)), (1, .int p1), (2, .int p2)])) => ?_)
                    refine lv_iinc (v := (iI (l6_x130.toInt + 1))) hx hb dX5_lay_191 hl (k := 1) rfl (iI_add2 (iI_of _) (by decide : (1 : Int32) = iI 1)) (by decide) rfl (fun ls (hl : lv_has ls _ ([(6, .int (iI (l6_x130.toInt + 1))), (5, .int (iI (l5_x130.toInt + 1))), (4, .int k0_j36), (3, .int l3_x5), (0, .ref (hO 0)), (1, .int p1), (2, .int p2)])) => ?_)
                    refine lv_goto (tgt := 130) hx hb dX5_lay_194 (by decide) ?_
                    have hl : lv_has _ _ ([(6, .int (iI (l6_x130.toInt + 1))), (5, .int (iI (l5_x130.toInt + 1))), (4, .int k0_j36), (3, .int l3_x5), (0, .ref (hO 0)), (1, .int p1), (2, .int p2)]) := lv_sub hl [0, 1, 2, 3, 4, 5, 6] rfl
                    exact ihx130 wl_983 wb_983 wG_983 (iI (l6_x130.toInt + 1)) (iI (l5_x130.toInt + 1)) _ _ _ b_wl_983 b_wb_983 (iI_rng (Int.le_trans (by decide) (Int.add_le_add (b_l6_x130.1) (Int.le_refl _))) (by omega) (by decide) (by decide)) (iI_rng (Int.le_trans (by decide) (Int.add_le_add (b_l5_x130.1) (Int.le_refl _))) (by omega) (by decide) (by decide)) (show (iI (l5_x130.toInt + 1)).toInt ≤ (iI (l6_x130.toInt + 1)).toInt from by (try rw [iI_t (E := l3_x5.toInt + 1) (by omega) (by omega)]); (try rw [iI_t (E := l4_x5.toInt + 1) (by omega) (by omega)]); (try rw [iI_t (E := l5_x130.toInt + 1) (by omega) (by omega)]); (try rw [iI_t (E := l6_x130.toInt + 1) (by omega) (by omega)]); (try rw [iI_t (E := l5_x200.toInt + 1) (by omega) (by omega)]); (try rw [iI_t (E := l6_x200.toInt + 1) (by omega) (by omega)]); omega) (by have e9 : ((iI (l6_x130.toInt + 1))).toInt = (l6_x130.toInt + 1) := (iI_t (Int.le_trans (by decide) (Int.add_le_add (b_l6_x130.1) (Int.le_refl _))) (Int.le_trans (Int.add_le_add (b_l6_x130.2) (Int.le_refl _)) (by decide))); omega) hP hD hS hl
                  · have t_183 : r983.toInt = 0 := toI_nne c_183 rfl (by decide : (0 : Int32).toInt = 0)
                    refine lv_iconst (v := 0) hx hb dX5_lay_186 (by decide) ?_
                    refine W.widen (k := 0) (n := 0) (by decide +kernel) (by decide +kernel) ?_
                    exact W.zret (v := 0) hx hb hr rfl (fun t9_ ht hW => ⟨⟨(0 : Int32), (fO_start_x5, fO_column_x5, fQ_inside_674, fQ_outside_674, fQ_shut_674, iQ_rows_674, iQ_allRows_674, iQ_columns_674, wl_983, wb_983, wG_983), rfl, ⟨b_fO_column_x5, b_iQ_rows_674, b_iQ_allRows_674, b_iQ_columns_674, b_wl_983, b_wb_983, (by (try dsimp only); exact (by first | with_reducible assumption | omega | assumption)), (show 0 ≤ (0 : Int32).toInt ∧ (0 : Int32).toInt ≤ 1 from by decide), (by (try dsimp only); omega), (by (try dsimp only); omega)⟩, by rw [ht]; exact hP, hD⟩, hS.F ht⟩) hS.2.2 dX5_lay_187
    · have t_14 : ¬ l4_x5.toInt ≥ iM_variables.toInt := toI_nge c_14 rfl rfl
      refine lv_iload_n hx hb dX5_lay_17 rfl (lv_at hl 3 rfl) ?_
      refine lv_if_ne (tgt := 34) hx hb dX5_lay_18 (by decide) (fun c_18 => ?_) (fun c_18 => ?_)
      · have t_18 : p1.toInt ≠ 0 := toI_ne c_18 rfl (by decide : (0 : Int32).toInt = 0)
        refine lv_iconst (v := 1) hx hb dX5_lay_34 (by decide) ?_
        refine lv_goto (tgt := 39) hx hb dX5_lay_35 (by decide) ?_
        refine lv_istore hx hb dX5_lay_39 hl (by decide) rfl (fun ls (hl : lv_has ls _ ([(5, .int 1), (4, .int l4_x5), (3, .int l3_x5), (0, .ref (hO 0)), (1, .int p1), (2, .int p2)])) => ?_)
        refine lv_aload_n hx hb dX5_lay_41 rfl (lv_at hl 3 rfl) ?_
        refine va_get (D := (dC, dI)) (ci := 5) (v := .ref (aO 4)) (C := RX5) (T := TX5) (N := 19) hx hb hts iwsMX5_lay_in5 hown hK hP 0 rfl rfl 10 (by decide) (hts _ hm_m_X5_lay_4) (fun _ h9 => h9) rfl dX5_lay_42 ?_
        refine lv_iload hx hb dX5_lay_45 (lv_at hl 1 rfl) ?_
        refine lv_iload hx hb dX5_lay_47 (lv_at hl 0 rfl) ?_
        refine lv_if_eq (tgt := 59) hx hb dX5_lay_49 (by decide) (fun c9 => absurd c9 (by decide)) (fun _ => ?_)
        refine lv_iinc (v := (iI (l3_x5.toInt + 1))) hx hb dX5_lay_52 hl (k := 2) rfl (iI_add2 (iI_of _) (by decide : (1 : Int32) = iI 1)) (by decide) rfl (fun ls (hl : lv_has ls _ ([(3, .int (iI (l3_x5.toInt + 1))), (5, .int 1), (4, .int l4_x5), (0, .ref (hO 0)), (1, .int p1), (2, .int p2)])) => ?_)
        refine lv_iload_n hx hb dX5_lay_55 rfl (lv_at hl 0 rfl) ?_
        refine lv_goto (tgt := 60) hx hb dX5_lay_56 (by decide) ?_
        refine va_iast (cA := kO 4) (n := 8) (f := fO_column_x5) hx hb hK hP hD hS 5 4 rfl rfl (vp_in_iff.mpr ⟨b_l4_x5.1, (Int.lt_of_lt_of_le (Int.not_le.mp t_14) (Int.le_trans b_iM_variables.2 (by decide)))⟩) dX5_lay_60 (fun H locs hP hD hS => ?_)
        obtain ⟨u984, hu984⟩ : ∃ f9, f9 = upd fO_column_x5 (l4_x5).toNatClampNeg (iI (l3_x5.toInt + 1)) := ⟨_, rfl⟩
        have hP : va_P (dC, dI) vwCl (WO hO aO kO hM hQ hw iO_answered iO_searched iO_searchedRelaxed iO_counted fO_countedCase gO_goalNumber gO_goalScale fO_start_x5 u984 fO_chosen ++ (WM hM aM kM iM_stands iM_variables iM_rows iM_goals iM_differents iM_cases fM_from fM_to fM_whole fM_ways iM_plainRows fM_plainRow fM_kept fM_goalOver fM_goalUnder fM_goalMax fM_different ++ (WQ hQ aQ kQ hw fQ_inside fQ_outside fQ_shut iQ_rows iQ_allRows iQ_columns ++ (WW nW hw lw kw wl wb wG)))) H := by rw [hu984]; exact hP
        have hD : va_D A (WO hO aO kO hM hQ hw iO_answered iO_searched iO_searchedRelaxed iO_counted fO_countedCase gO_goalNumber gO_goalScale fO_start_x5 u984 fO_chosen ++ (WM hM aM kM iM_stands iM_variables iM_rows iM_goals iM_differents iM_cases fM_from fM_to fM_whole fM_ways iM_plainRows fM_plainRow fM_kept fM_goalOver fM_goalUnder fM_goalMax fM_different ++ (WQ hQ aQ kQ hw fQ_inside fQ_outside fQ_shut iQ_rows iQ_allRows iQ_columns ++ (WW nW hw lw kw wl wb wG)))) := by rw [hu984]; exact hD
        have b_u984 : ∀ q : Nat, (-1) ≤ (u984 q).toInt ∧ (u984 q).toInt ≤ 8 := by rw [hu984]; exact upd_r b_fO_column_x5 (iI_rng (Int.le_trans (by decide) (Int.add_le_add (b_l3_x5.1) (Int.le_refl _))) (by omega) (by decide) (by decide))
        clear hu984
        refine lv_iload_n hx hb dX5_lay_61 rfl (lv_at hl 4 rfl) ?_
        refine lv_if_eq (tgt := 82) hx hb dX5_lay_62 (by decide) (fun c_62 => ?_) (fun c_62 => ?_)
        · have t_62 : p1.toInt = 0 := toI_eq c_62 rfl (by decide : (0 : Int32).toInt = 0)
          refine lv_iinc (v := (iI (l4_x5.toInt + 1))) hx hb dX5_lay_82 hl (k := 2) rfl (iI_add2 (iI_of _) (by decide : (1 : Int32) = iI 1)) (by decide) rfl (fun ls (hl : lv_has ls _ ([(4, .int (iI (l4_x5.toInt + 1))), (3, .int (iI (l3_x5.toInt + 1))), (5, .int 1), (0, .ref (hO 0)), (1, .int p1), (2, .int p2)])) => ?_)
          refine lv_goto (tgt := 5) hx hb dX5_lay_85 (by decide) ?_
          have hl : lv_has _ _ ([(4, .int (iI (l4_x5.toInt + 1))), (3, .int (iI (l3_x5.toInt + 1))), (0, .ref (hO 0)), (1, .int p1), (2, .int p2)]) := lv_sub hl [0, 1, 3, 4, 5] rfl
          exact ihx5 fO_start_x5 u984 (iI (l4_x5.toInt + 1)) (iI (l3_x5.toInt + 1)) _ _ _ b_u984 (iI_rng (Int.le_trans (by decide) (Int.add_le_add (b_l4_x5.1) (Int.le_refl _))) (by omega) (by decide) (by decide)) (iI_rng (Int.le_trans (by decide) (Int.add_le_add (b_l3_x5.1) (Int.le_refl _))) (by omega) (by decide) (by decide)) (show (iI (l3_x5.toInt + 1)).toInt ≤ (iI (l4_x5.toInt + 1)).toInt from by (try rw [iI_t (E := l3_x5.toInt + 1) (by omega) (by omega)]); (try rw [iI_t (E := l4_x5.toInt + 1) (by omega) (by omega)]); (try rw [iI_t (E := l5_x130.toInt + 1) (by omega) (by omega)]); (try rw [iI_t (E := l6_x130.toInt + 1) (by omega) (by omega)]); (try rw [iI_t (E := l5_x200.toInt + 1) (by omega) (by omega)]); (try rw [iI_t (E := l6_x200.toInt + 1) (by omega) (by omega)]); omega) (by have e9 : ((iI (l4_x5.toInt + 1))).toInt = (l4_x5.toInt + 1) := (iI_t (Int.le_trans (by decide) (Int.add_le_add (b_l4_x5.1) (Int.le_refl _))) (Int.le_trans (Int.add_le_add (b_l4_x5.2) (Int.le_refl _)) (by decide))); omega) hP hD hS hl
        · have t_62 : ¬ p1.toInt = 0 := toI_neq c_62 rfl (by decide : (0 : Int32).toInt = 0)
          refine lv_aload_n hx hb dX5_lay_65 rfl (lv_at hl 3 rfl) ?_
          refine va_get (D := (dC, dI)) (ci := 5) (v := .ref (aO 3)) (C := RX5) (T := TX5) (N := 19) hx hb hts iwsMX5_lay_in5 hown hK hP 0 rfl rfl 9 (by decide) (hts _ hm_m_X5_lay_7) (fun _ h9 => h9) rfl dX5_lay_66 ?_
          refine lv_iload hx hb dX5_lay_69 (lv_at hl 2 rfl) ?_
          refine lv_aload_n hx hb dX5_lay_71 rfl (lv_at hl 3 rfl) ?_
          refine va_get (D := (dC, dI)) (ci := 5) (v := .ref (hM 0)) (C := RX5) (T := TX5) (N := 19) hx hb hts iwsMX5_lay_in5 hown hK hP 0 rfl rfl 0 (by decide) (hts _ hm_m_X5_lay_0) (fun _ h9 => h9) rfl dX5_lay_72 ?_
          refine va_get (D := (dC, dI)) (ci := 1) (v := .ref (aM 0)) (C := RX1) (T := TX1) (N := 17) hx hb hts iwsMX5_lay_in1 hown hK hP 11 rfl rfl 6 (by decide) (hts _ hm_m_X5_lay_5) (fun _ h9 => h9) rfl dX5_lay_75 ?_
          refine lv_iload hx hb dX5_lay_78 (lv_at hl 2 rfl) ?_
          refine va_iald (cA := kM 0) (n := 8) (f := fM_from) hx hb hK hP 12 10 rfl rfl (vp_in_iff.mpr ⟨b_l4_x5.1, (Int.lt_of_lt_of_le (Int.not_le.mp t_14) (Int.le_trans b_iM_variables.2 (by decide)))⟩) dX5_lay_80 ?_
          refine lv_topi (fun v985 hv985 => ?_)
          clear hv985
          refine va_iast (cA := kO 3) (n := 8) (f := fO_start_x5) hx hb hK hP hD hS 4 3 rfl rfl (vp_in_iff.mpr ⟨b_l4_x5.1, (Int.lt_of_lt_of_le (Int.not_le.mp t_14) (Int.le_trans b_iM_variables.2 (by decide)))⟩) dX5_lay_81 (fun H locs hP hD hS => ?_)
          obtain ⟨u986, hu986⟩ : ∃ f9, f9 = upd fO_start_x5 (l4_x5).toNatClampNeg v985 := ⟨_, rfl⟩
          have hP : va_P (dC, dI) vwCl (WO hO aO kO hM hQ hw iO_answered iO_searched iO_searchedRelaxed iO_counted fO_countedCase gO_goalNumber gO_goalScale u986 u984 fO_chosen ++ (WM hM aM kM iM_stands iM_variables iM_rows iM_goals iM_differents iM_cases fM_from fM_to fM_whole fM_ways iM_plainRows fM_plainRow fM_kept fM_goalOver fM_goalUnder fM_goalMax fM_different ++ (WQ hQ aQ kQ hw fQ_inside fQ_outside fQ_shut iQ_rows iQ_allRows iQ_columns ++ (WW nW hw lw kw wl wb wG)))) H := by rw [hu986]; exact hP
          have hD : va_D A (WO hO aO kO hM hQ hw iO_answered iO_searched iO_searchedRelaxed iO_counted fO_countedCase gO_goalNumber gO_goalScale u986 u984 fO_chosen ++ (WM hM aM kM iM_stands iM_variables iM_rows iM_goals iM_differents iM_cases fM_from fM_to fM_whole fM_ways iM_plainRows fM_plainRow fM_kept fM_goalOver fM_goalUnder fM_goalMax fM_different ++ (WQ hQ aQ kQ hw fQ_inside fQ_outside fQ_shut iQ_rows iQ_allRows iQ_columns ++ (WW nW hw lw kw wl wb wG)))) := by rw [hu986]; exact hD
          clear hu986
          refine lv_iinc (v := (iI (l4_x5.toInt + 1))) hx hb dX5_lay_82 hl (k := 2) rfl (iI_add2 (iI_of _) (by decide : (1 : Int32) = iI 1)) (by decide) rfl (fun ls (hl : lv_has ls _ ([(4, .int (iI (l4_x5.toInt + 1))), (3, .int (iI (l3_x5.toInt + 1))), (5, .int 1), (0, .ref (hO 0)), (1, .int p1), (2, .int p2)])) => ?_)
          refine lv_goto (tgt := 5) hx hb dX5_lay_85 (by decide) ?_
          have hl : lv_has _ _ ([(4, .int (iI (l4_x5.toInt + 1))), (3, .int (iI (l3_x5.toInt + 1))), (0, .ref (hO 0)), (1, .int p1), (2, .int p2)]) := lv_sub hl [0, 1, 3, 4, 5] rfl
          exact ihx5 u986 u984 (iI (l4_x5.toInt + 1)) (iI (l3_x5.toInt + 1)) _ _ _ b_u984 (iI_rng (Int.le_trans (by decide) (Int.add_le_add (b_l4_x5.1) (Int.le_refl _))) (by omega) (by decide) (by decide)) (iI_rng (Int.le_trans (by decide) (Int.add_le_add (b_l3_x5.1) (Int.le_refl _))) (by omega) (by decide) (by decide)) (show (iI (l3_x5.toInt + 1)).toInt ≤ (iI (l4_x5.toInt + 1)).toInt from by (try rw [iI_t (E := l3_x5.toInt + 1) (by omega) (by omega)]); (try rw [iI_t (E := l4_x5.toInt + 1) (by omega) (by omega)]); (try rw [iI_t (E := l5_x130.toInt + 1) (by omega) (by omega)]); (try rw [iI_t (E := l6_x130.toInt + 1) (by omega) (by omega)]); (try rw [iI_t (E := l5_x200.toInt + 1) (by omega) (by omega)]); (try rw [iI_t (E := l6_x200.toInt + 1) (by omega) (by omega)]); omega) (by have e9 : ((iI (l4_x5.toInt + 1))).toInt = (l4_x5.toInt + 1) := (iI_t (Int.le_trans (by decide) (Int.add_le_add (b_l4_x5.1) (Int.le_refl _))) (Int.le_trans (Int.add_le_add (b_l4_x5.2) (Int.le_refl _)) (by decide))); omega) hP hD hS hl
      · have t_18 : p1.toInt = 0 := toI_nne c_18 rfl (by decide : (0 : Int32).toInt = 0)
        refine lv_aload_n hx hb dX5_lay_21 rfl (lv_at hl 2 rfl) ?_
        refine va_get (D := (dC, dI)) (ci := 5) (v := .ref (hM 0)) (C := RX5) (T := TX5) (N := 19) hx hb hts iwsMX5_lay_in5 hown hK hP 0 rfl rfl 0 (by decide) (hts _ hm_m_X5_lay_0) (fun _ h9 => h9) rfl dX5_lay_22 ?_
        refine va_get (D := (dC, dI)) (ci := 1) (v := .ref (aM 2)) (C := RX1) (T := TX1) (N := 17) hx hb hts iwsMX5_lay_in1 hown hK hP 11 rfl rfl 8 (by decide) (hts (.fieldLink RX5 143 "OptimaWorks$Model" "whole" "[Z") (by decide +kernel)) (fun _ h9 => h9) rfl dX5_lay_25 ?_
        refine lv_iload hx hb dX5_lay_28 (lv_at hl 0 rfl) ?_
        refine va_zald (cA := kM 2) (n := 8) (f := fM_whole) hx hb hK hP 14 12 rfl rfl (vp_in_iff.mpr ⟨b_l4_x5.1, (Int.lt_of_lt_of_le (Int.not_le.mp t_14) (Int.le_trans b_iM_variables.2 (by decide)))⟩) dX5_lay_30 ?_
        refine lv_topi (fun v987 hv987 => ?_)
        clear hv987
        refine lv_if_ne (tgt := 38) hx hb dX5_lay_31 (by decide) (fun c_31 => ?_) (fun c_31 => ?_)
        · have t_31 : v987.toInt ≠ 0 := toI_ne c_31 rfl (by decide : (0 : Int32).toInt = 0)
          refine lv_iconst (v := 0) hx hb dX5_lay_38 (by decide) ?_
          refine lv_istore hx hb dX5_lay_39 hl (by decide) rfl (fun ls (hl : lv_has ls _ ([(5, .int 0), (4, .int l4_x5), (3, .int l3_x5), (0, .ref (hO 0)), (1, .int p1), (2, .int p2)])) => ?_)
          refine lv_aload_n hx hb dX5_lay_41 rfl (lv_at hl 3 rfl) ?_
          refine va_get (D := (dC, dI)) (ci := 5) (v := .ref (aO 4)) (C := RX5) (T := TX5) (N := 19) hx hb hts iwsMX5_lay_in5 hown hK hP 0 rfl rfl 10 (by decide) (hts _ hm_m_X5_lay_4) (fun _ h9 => h9) rfl dX5_lay_42 ?_
          refine lv_iload hx hb dX5_lay_45 (lv_at hl 1 rfl) ?_
          refine lv_iload hx hb dX5_lay_47 (lv_at hl 0 rfl) ?_
          refine lv_if_eq (tgt := 59) hx hb dX5_lay_49 (by decide) (fun _ => ?_) (fun c9 => absurd (by decide) c9)
          refine lv_iconst (v := (-1)) hx hb dX5_lay_59 (by decide) ?_
          refine va_iast (cA := kO 4) (n := 8) (f := fO_column_x5) hx hb hK hP hD hS 5 4 rfl rfl (vp_in_iff.mpr ⟨b_l4_x5.1, (Int.lt_of_lt_of_le (Int.not_le.mp t_14) (Int.le_trans b_iM_variables.2 (by decide)))⟩) dX5_lay_60 (fun H locs hP hD hS => ?_)
          obtain ⟨u988, hu988⟩ : ∃ f9, f9 = upd fO_column_x5 (l4_x5).toNatClampNeg ((-1) : Int32) := ⟨_, rfl⟩
          have hP : va_P (dC, dI) vwCl (WO hO aO kO hM hQ hw iO_answered iO_searched iO_searchedRelaxed iO_counted fO_countedCase gO_goalNumber gO_goalScale fO_start_x5 u988 fO_chosen ++ (WM hM aM kM iM_stands iM_variables iM_rows iM_goals iM_differents iM_cases fM_from fM_to fM_whole fM_ways iM_plainRows fM_plainRow fM_kept fM_goalOver fM_goalUnder fM_goalMax fM_different ++ (WQ hQ aQ kQ hw fQ_inside fQ_outside fQ_shut iQ_rows iQ_allRows iQ_columns ++ (WW nW hw lw kw wl wb wG)))) H := by rw [hu988]; exact hP
          have hD : va_D A (WO hO aO kO hM hQ hw iO_answered iO_searched iO_searchedRelaxed iO_counted fO_countedCase gO_goalNumber gO_goalScale fO_start_x5 u988 fO_chosen ++ (WM hM aM kM iM_stands iM_variables iM_rows iM_goals iM_differents iM_cases fM_from fM_to fM_whole fM_ways iM_plainRows fM_plainRow fM_kept fM_goalOver fM_goalUnder fM_goalMax fM_different ++ (WQ hQ aQ kQ hw fQ_inside fQ_outside fQ_shut iQ_rows iQ_allRows iQ_columns ++ (WW nW hw lw kw wl wb wG)))) := by rw [hu988]; exact hD
          have b_u988 : ∀ q : Nat, (-1) ≤ (u988 q).toInt ∧ (u988 q).toInt ≤ 8 := by rw [hu988]; exact upd_r b_fO_column_x5 (show (-1) ≤ ((-1) : Int32).toInt ∧ ((-1) : Int32).toInt ≤ 8 from by decide)
          clear hu988
          refine lv_iload_n hx hb dX5_lay_61 rfl (lv_at hl 4 rfl) ?_
          refine lv_if_eq (tgt := 82) hx hb dX5_lay_62 (by decide) (fun c_62 => ?_) (fun c_62 => ?_)
          · have t_62 : p1.toInt = 0 := toI_eq c_62 rfl (by decide : (0 : Int32).toInt = 0)
            refine lv_iinc (v := (iI (l4_x5.toInt + 1))) hx hb dX5_lay_82 hl (k := 1) rfl (iI_add2 (iI_of _) (by decide : (1 : Int32) = iI 1)) (by decide) rfl (fun ls (hl : lv_has ls _ ([(4, .int (iI (l4_x5.toInt + 1))), (5, .int 0), (3, .int l3_x5), (0, .ref (hO 0)), (1, .int p1), (2, .int p2)])) => ?_)
            refine lv_goto (tgt := 5) hx hb dX5_lay_85 (by decide) ?_
            have hl : lv_has _ _ ([(4, .int (iI (l4_x5.toInt + 1))), (3, .int l3_x5), (0, .ref (hO 0)), (1, .int p1), (2, .int p2)]) := lv_sub hl [0, 2, 3, 4, 5] rfl
            exact ihx5 fO_start_x5 u988 (iI (l4_x5.toInt + 1)) l3_x5 _ _ _ b_u988 (iI_rng (Int.le_trans (by decide) (Int.add_le_add (b_l4_x5.1) (Int.le_refl _))) (by omega) (by decide) (by decide)) (b_l3_x5) (show l3_x5.toInt ≤ (iI (l4_x5.toInt + 1)).toInt from by (try rw [iI_t (E := l3_x5.toInt + 1) (by omega) (by omega)]); (try rw [iI_t (E := l4_x5.toInt + 1) (by omega) (by omega)]); (try rw [iI_t (E := l5_x130.toInt + 1) (by omega) (by omega)]); (try rw [iI_t (E := l6_x130.toInt + 1) (by omega) (by omega)]); (try rw [iI_t (E := l5_x200.toInt + 1) (by omega) (by omega)]); (try rw [iI_t (E := l6_x200.toInt + 1) (by omega) (by omega)]); omega) (by have e9 : ((iI (l4_x5.toInt + 1))).toInt = (l4_x5.toInt + 1) := (iI_t (Int.le_trans (by decide) (Int.add_le_add (b_l4_x5.1) (Int.le_refl _))) (Int.le_trans (Int.add_le_add (b_l4_x5.2) (Int.le_refl _)) (by decide))); omega) hP hD hS hl
          · have t_62 : ¬ p1.toInt = 0 := toI_neq c_62 rfl (by decide : (0 : Int32).toInt = 0)
            refine lv_aload_n hx hb dX5_lay_65 rfl (lv_at hl 3 rfl) ?_
            refine va_get (D := (dC, dI)) (ci := 5) (v := .ref (aO 3)) (C := RX5) (T := TX5) (N := 19) hx hb hts iwsMX5_lay_in5 hown hK hP 0 rfl rfl 9 (by decide) (hts _ hm_m_X5_lay_7) (fun _ h9 => h9) rfl dX5_lay_66 ?_
            refine lv_iload hx hb dX5_lay_69 (lv_at hl 1 rfl) ?_
            refine lv_aload_n hx hb dX5_lay_71 rfl (lv_at hl 3 rfl) ?_
            refine va_get (D := (dC, dI)) (ci := 5) (v := .ref (hM 0)) (C := RX5) (T := TX5) (N := 19) hx hb hts iwsMX5_lay_in5 hown hK hP 0 rfl rfl 0 (by decide) (hts _ hm_m_X5_lay_0) (fun _ h9 => h9) rfl dX5_lay_72 ?_
            refine va_get (D := (dC, dI)) (ci := 1) (v := .ref (aM 0)) (C := RX1) (T := TX1) (N := 17) hx hb hts iwsMX5_lay_in1 hown hK hP 11 rfl rfl 6 (by decide) (hts _ hm_m_X5_lay_5) (fun _ h9 => h9) rfl dX5_lay_75 ?_
            refine lv_iload hx hb dX5_lay_78 (lv_at hl 1 rfl) ?_
            refine va_iald (cA := kM 0) (n := 8) (f := fM_from) hx hb hK hP 12 10 rfl rfl (vp_in_iff.mpr ⟨b_l4_x5.1, (Int.lt_of_lt_of_le (Int.not_le.mp t_14) (Int.le_trans b_iM_variables.2 (by decide)))⟩) dX5_lay_80 ?_
            refine lv_topi (fun v989 hv989 => ?_)
            clear hv989
            refine va_iast (cA := kO 3) (n := 8) (f := fO_start_x5) hx hb hK hP hD hS 4 3 rfl rfl (vp_in_iff.mpr ⟨b_l4_x5.1, (Int.lt_of_lt_of_le (Int.not_le.mp t_14) (Int.le_trans b_iM_variables.2 (by decide)))⟩) dX5_lay_81 (fun H locs hP hD hS => ?_)
            obtain ⟨u990, hu990⟩ : ∃ f9, f9 = upd fO_start_x5 (l4_x5).toNatClampNeg v989 := ⟨_, rfl⟩
            have hP : va_P (dC, dI) vwCl (WO hO aO kO hM hQ hw iO_answered iO_searched iO_searchedRelaxed iO_counted fO_countedCase gO_goalNumber gO_goalScale u990 u988 fO_chosen ++ (WM hM aM kM iM_stands iM_variables iM_rows iM_goals iM_differents iM_cases fM_from fM_to fM_whole fM_ways iM_plainRows fM_plainRow fM_kept fM_goalOver fM_goalUnder fM_goalMax fM_different ++ (WQ hQ aQ kQ hw fQ_inside fQ_outside fQ_shut iQ_rows iQ_allRows iQ_columns ++ (WW nW hw lw kw wl wb wG)))) H := by rw [hu990]; exact hP
            have hD : va_D A (WO hO aO kO hM hQ hw iO_answered iO_searched iO_searchedRelaxed iO_counted fO_countedCase gO_goalNumber gO_goalScale u990 u988 fO_chosen ++ (WM hM aM kM iM_stands iM_variables iM_rows iM_goals iM_differents iM_cases fM_from fM_to fM_whole fM_ways iM_plainRows fM_plainRow fM_kept fM_goalOver fM_goalUnder fM_goalMax fM_different ++ (WQ hQ aQ kQ hw fQ_inside fQ_outside fQ_shut iQ_rows iQ_allRows iQ_columns ++ (WW nW hw lw kw wl wb wG)))) := by rw [hu990]; exact hD
            clear hu990
            refine lv_iinc (v := (iI (l4_x5.toInt + 1))) hx hb dX5_lay_82 hl (k := 1) rfl (iI_add2 (iI_of _) (by decide : (1 : Int32) = iI 1)) (by decide) rfl (fun ls (hl : lv_has ls _ ([(4, .int (iI (l4_x5.toInt + 1))), (5, .int 0), (3, .int l3_x5), (0, .ref (hO 0)), (1, .int p1), (2, .int p2)])) => ?_)
            refine lv_goto (tgt := 5) hx hb dX5_lay_85 (by decide) ?_
            have hl : lv_has _ _ ([(4, .int (iI (l4_x5.toInt + 1))), (3, .int l3_x5), (0, .ref (hO 0)), (1, .int p1), (2, .int p2)]) := lv_sub hl [0, 2, 3, 4, 5] rfl
            exact ihx5 u990 u988 (iI (l4_x5.toInt + 1)) l3_x5 _ _ _ b_u988 (iI_rng (Int.le_trans (by decide) (Int.add_le_add (b_l4_x5.1) (Int.le_refl _))) (by omega) (by decide) (by decide)) (b_l3_x5) (show l3_x5.toInt ≤ (iI (l4_x5.toInt + 1)).toInt from by (try rw [iI_t (E := l3_x5.toInt + 1) (by omega) (by omega)]); (try rw [iI_t (E := l4_x5.toInt + 1) (by omega) (by omega)]); (try rw [iI_t (E := l5_x130.toInt + 1) (by omega) (by omega)]); (try rw [iI_t (E := l6_x130.toInt + 1) (by omega) (by omega)]); (try rw [iI_t (E := l5_x200.toInt + 1) (by omega) (by omega)]); (try rw [iI_t (E := l6_x200.toInt + 1) (by omega) (by omega)]); omega) (by have e9 : ((iI (l4_x5.toInt + 1))).toInt = (l4_x5.toInt + 1) := (iI_t (Int.le_trans (by decide) (Int.add_le_add (b_l4_x5.1) (Int.le_refl _))) (Int.le_trans (Int.add_le_add (b_l4_x5.2) (Int.le_refl _)) (by decide))); omega) hP hD hS hl
        · have t_31 : v987.toInt = 0 := toI_nne c_31 rfl (by decide : (0 : Int32).toInt = 0)
          refine lv_iconst (v := 1) hx hb dX5_lay_34 (by decide) ?_
          refine lv_goto (tgt := 39) hx hb dX5_lay_35 (by decide) ?_
          refine lv_istore hx hb dX5_lay_39 hl (by decide) rfl (fun ls (hl : lv_has ls _ ([(5, .int 1), (4, .int l4_x5), (3, .int l3_x5), (0, .ref (hO 0)), (1, .int p1), (2, .int p2)])) => ?_)
          refine lv_aload_n hx hb dX5_lay_41 rfl (lv_at hl 3 rfl) ?_
          refine va_get (D := (dC, dI)) (ci := 5) (v := .ref (aO 4)) (C := RX5) (T := TX5) (N := 19) hx hb hts iwsMX5_lay_in5 hown hK hP 0 rfl rfl 10 (by decide) (hts _ hm_m_X5_lay_4) (fun _ h9 => h9) rfl dX5_lay_42 ?_
          refine lv_iload hx hb dX5_lay_45 (lv_at hl 1 rfl) ?_
          refine lv_iload hx hb dX5_lay_47 (lv_at hl 0 rfl) ?_
          refine lv_if_eq (tgt := 59) hx hb dX5_lay_49 (by decide) (fun c9 => absurd c9 (by decide)) (fun _ => ?_)
          refine lv_iinc (v := (iI (l3_x5.toInt + 1))) hx hb dX5_lay_52 hl (k := 2) rfl (iI_add2 (iI_of _) (by decide : (1 : Int32) = iI 1)) (by decide) rfl (fun ls (hl : lv_has ls _ ([(3, .int (iI (l3_x5.toInt + 1))), (5, .int 1), (4, .int l4_x5), (0, .ref (hO 0)), (1, .int p1), (2, .int p2)])) => ?_)
          refine lv_iload_n hx hb dX5_lay_55 rfl (lv_at hl 0 rfl) ?_
          refine lv_goto (tgt := 60) hx hb dX5_lay_56 (by decide) ?_
          refine va_iast (cA := kO 4) (n := 8) (f := fO_column_x5) hx hb hK hP hD hS 5 4 rfl rfl (vp_in_iff.mpr ⟨b_l4_x5.1, (Int.lt_of_lt_of_le (Int.not_le.mp t_14) (Int.le_trans b_iM_variables.2 (by decide)))⟩) dX5_lay_60 (fun H locs hP hD hS => ?_)
          obtain ⟨u991, hu991⟩ : ∃ f9, f9 = upd fO_column_x5 (l4_x5).toNatClampNeg (iI (l3_x5.toInt + 1)) := ⟨_, rfl⟩
          have hP : va_P (dC, dI) vwCl (WO hO aO kO hM hQ hw iO_answered iO_searched iO_searchedRelaxed iO_counted fO_countedCase gO_goalNumber gO_goalScale fO_start_x5 u991 fO_chosen ++ (WM hM aM kM iM_stands iM_variables iM_rows iM_goals iM_differents iM_cases fM_from fM_to fM_whole fM_ways iM_plainRows fM_plainRow fM_kept fM_goalOver fM_goalUnder fM_goalMax fM_different ++ (WQ hQ aQ kQ hw fQ_inside fQ_outside fQ_shut iQ_rows iQ_allRows iQ_columns ++ (WW nW hw lw kw wl wb wG)))) H := by rw [hu991]; exact hP
          have hD : va_D A (WO hO aO kO hM hQ hw iO_answered iO_searched iO_searchedRelaxed iO_counted fO_countedCase gO_goalNumber gO_goalScale fO_start_x5 u991 fO_chosen ++ (WM hM aM kM iM_stands iM_variables iM_rows iM_goals iM_differents iM_cases fM_from fM_to fM_whole fM_ways iM_plainRows fM_plainRow fM_kept fM_goalOver fM_goalUnder fM_goalMax fM_different ++ (WQ hQ aQ kQ hw fQ_inside fQ_outside fQ_shut iQ_rows iQ_allRows iQ_columns ++ (WW nW hw lw kw wl wb wG)))) := by rw [hu991]; exact hD
          have b_u991 : ∀ q : Nat, (-1) ≤ (u991 q).toInt ∧ (u991 q).toInt ≤ 8 := by rw [hu991]; exact upd_r b_fO_column_x5 (iI_rng (Int.le_trans (by decide) (Int.add_le_add (b_l3_x5.1) (Int.le_refl _))) (by omega) (by decide) (by decide))
          clear hu991
          refine lv_iload_n hx hb dX5_lay_61 rfl (lv_at hl 4 rfl) ?_
          refine lv_if_eq (tgt := 82) hx hb dX5_lay_62 (by decide) (fun c_62 => ?_) (fun c_62 => ?_)
          · have t_62 : p1.toInt = 0 := toI_eq c_62 rfl (by decide : (0 : Int32).toInt = 0)
            refine lv_iinc (v := (iI (l4_x5.toInt + 1))) hx hb dX5_lay_82 hl (k := 2) rfl (iI_add2 (iI_of _) (by decide : (1 : Int32) = iI 1)) (by decide) rfl (fun ls (hl : lv_has ls _ ([(4, .int (iI (l4_x5.toInt + 1))), (3, .int (iI (l3_x5.toInt + 1))), (5, .int 1), (0, .ref (hO 0)), (1, .int p1), (2, .int p2)])) => ?_)
            refine lv_goto (tgt := 5) hx hb dX5_lay_85 (by decide) ?_
            have hl : lv_has _ _ ([(4, .int (iI (l4_x5.toInt + 1))), (3, .int (iI (l3_x5.toInt + 1))), (0, .ref (hO 0)), (1, .int p1), (2, .int p2)]) := lv_sub hl [0, 1, 3, 4, 5] rfl
            exact ihx5 fO_start_x5 u991 (iI (l4_x5.toInt + 1)) (iI (l3_x5.toInt + 1)) _ _ _ b_u991 (iI_rng (Int.le_trans (by decide) (Int.add_le_add (b_l4_x5.1) (Int.le_refl _))) (by omega) (by decide) (by decide)) (iI_rng (Int.le_trans (by decide) (Int.add_le_add (b_l3_x5.1) (Int.le_refl _))) (by omega) (by decide) (by decide)) (show (iI (l3_x5.toInt + 1)).toInt ≤ (iI (l4_x5.toInt + 1)).toInt from by (try rw [iI_t (E := l3_x5.toInt + 1) (by omega) (by omega)]); (try rw [iI_t (E := l4_x5.toInt + 1) (by omega) (by omega)]); (try rw [iI_t (E := l5_x130.toInt + 1) (by omega) (by omega)]); (try rw [iI_t (E := l6_x130.toInt + 1) (by omega) (by omega)]); (try rw [iI_t (E := l5_x200.toInt + 1) (by omega) (by omega)]); (try rw [iI_t (E := l6_x200.toInt + 1) (by omega) (by omega)]); omega) (by have e9 : ((iI (l4_x5.toInt + 1))).toInt = (l4_x5.toInt + 1) := (iI_t (Int.le_trans (by decide) (Int.add_le_add (b_l4_x5.1) (Int.le_refl _))) (Int.le_trans (Int.add_le_add (b_l4_x5.2) (Int.le_refl _)) (by decide))); omega) hP hD hS hl
          · have t_62 : ¬ p1.toInt = 0 := toI_neq c_62 rfl (by decide : (0 : Int32).toInt = 0)
            refine lv_aload_n hx hb dX5_lay_65 rfl (lv_at hl 3 rfl) ?_
            refine va_get (D := (dC, dI)) (ci := 5) (v := .ref (aO 3)) (C := RX5) (T := TX5) (N := 19) hx hb hts iwsMX5_lay_in5 hown hK hP 0 rfl rfl 9 (by decide) (hts _ hm_m_X5_lay_7) (fun _ h9 => h9) rfl dX5_lay_66 ?_
            refine lv_iload hx hb dX5_lay_69 (lv_at hl 2 rfl) ?_
            refine lv_aload_n hx hb dX5_lay_71 rfl (lv_at hl 3 rfl) ?_
            refine va_get (D := (dC, dI)) (ci := 5) (v := .ref (hM 0)) (C := RX5) (T := TX5) (N := 19) hx hb hts iwsMX5_lay_in5 hown hK hP 0 rfl rfl 0 (by decide) (hts _ hm_m_X5_lay_0) (fun _ h9 => h9) rfl dX5_lay_72 ?_
            refine va_get (D := (dC, dI)) (ci := 1) (v := .ref (aM 0)) (C := RX1) (T := TX1) (N := 17) hx hb hts iwsMX5_lay_in1 hown hK hP 11 rfl rfl 6 (by decide) (hts _ hm_m_X5_lay_5) (fun _ h9 => h9) rfl dX5_lay_75 ?_
            refine lv_iload hx hb dX5_lay_78 (lv_at hl 2 rfl) ?_
            refine va_iald (cA := kM 0) (n := 8) (f := fM_from) hx hb hK hP 12 10 rfl rfl (vp_in_iff.mpr ⟨b_l4_x5.1, (Int.lt_of_lt_of_le (Int.not_le.mp t_14) (Int.le_trans b_iM_variables.2 (by decide)))⟩) dX5_lay_80 ?_
            refine lv_topi (fun v992 hv992 => ?_)
            clear hv992
            refine va_iast (cA := kO 3) (n := 8) (f := fO_start_x5) hx hb hK hP hD hS 4 3 rfl rfl (vp_in_iff.mpr ⟨b_l4_x5.1, (Int.lt_of_lt_of_le (Int.not_le.mp t_14) (Int.le_trans b_iM_variables.2 (by decide)))⟩) dX5_lay_81 (fun H locs hP hD hS => ?_)
            obtain ⟨u993, hu993⟩ : ∃ f9, f9 = upd fO_start_x5 (l4_x5).toNatClampNeg v992 := ⟨_, rfl⟩
            have hP : va_P (dC, dI) vwCl (WO hO aO kO hM hQ hw iO_answered iO_searched iO_searchedRelaxed iO_counted fO_countedCase gO_goalNumber gO_goalScale u993 u991 fO_chosen ++ (WM hM aM kM iM_stands iM_variables iM_rows iM_goals iM_differents iM_cases fM_from fM_to fM_whole fM_ways iM_plainRows fM_plainRow fM_kept fM_goalOver fM_goalUnder fM_goalMax fM_different ++ (WQ hQ aQ kQ hw fQ_inside fQ_outside fQ_shut iQ_rows iQ_allRows iQ_columns ++ (WW nW hw lw kw wl wb wG)))) H := by rw [hu993]; exact hP
            have hD : va_D A (WO hO aO kO hM hQ hw iO_answered iO_searched iO_searchedRelaxed iO_counted fO_countedCase gO_goalNumber gO_goalScale u993 u991 fO_chosen ++ (WM hM aM kM iM_stands iM_variables iM_rows iM_goals iM_differents iM_cases fM_from fM_to fM_whole fM_ways iM_plainRows fM_plainRow fM_kept fM_goalOver fM_goalUnder fM_goalMax fM_different ++ (WQ hQ aQ kQ hw fQ_inside fQ_outside fQ_shut iQ_rows iQ_allRows iQ_columns ++ (WW nW hw lw kw wl wb wG)))) := by rw [hu993]; exact hD
            clear hu993
            refine lv_iinc (v := (iI (l4_x5.toInt + 1))) hx hb dX5_lay_82 hl (k := 2) rfl (iI_add2 (iI_of _) (by decide : (1 : Int32) = iI 1)) (by decide) rfl (fun ls (hl : lv_has ls _ ([(4, .int (iI (l4_x5.toInt + 1))), (3, .int (iI (l3_x5.toInt + 1))), (5, .int 1), (0, .ref (hO 0)), (1, .int p1), (2, .int p2)])) => ?_)
            refine lv_goto (tgt := 5) hx hb dX5_lay_85 (by decide) ?_
            have hl : lv_has _ _ ([(4, .int (iI (l4_x5.toInt + 1))), (3, .int (iI (l3_x5.toInt + 1))), (0, .ref (hO 0)), (1, .int p1), (2, .int p2)]) := lv_sub hl [0, 1, 3, 4, 5] rfl
            exact ihx5 u993 u991 (iI (l4_x5.toInt + 1)) (iI (l3_x5.toInt + 1)) _ _ _ b_u991 (iI_rng (Int.le_trans (by decide) (Int.add_le_add (b_l4_x5.1) (Int.le_refl _))) (by omega) (by decide) (by decide)) (iI_rng (Int.le_trans (by decide) (Int.add_le_add (b_l3_x5.1) (Int.le_refl _))) (by omega) (by decide) (by decide)) (show (iI (l3_x5.toInt + 1)).toInt ≤ (iI (l4_x5.toInt + 1)).toInt from by (try rw [iI_t (E := l3_x5.toInt + 1) (by omega) (by omega)]); (try rw [iI_t (E := l4_x5.toInt + 1) (by omega) (by omega)]); (try rw [iI_t (E := l5_x130.toInt + 1) (by omega) (by omega)]); (try rw [iI_t (E := l6_x130.toInt + 1) (by omega) (by omega)]); (try rw [iI_t (E := l5_x200.toInt + 1) (by omega) (by omega)]); (try rw [iI_t (E := l6_x200.toInt + 1) (by omega) (by omega)]); omega) (by have e9 : ((iI (l4_x5.toInt + 1))).toInt = (l4_x5.toInt + 1) := (iI_t (Int.le_trans (by decide) (Int.add_le_add (b_l4_x5.1) (Int.le_refl _))) (Int.le_trans (Int.add_le_add (b_l4_x5.2) (Int.le_refl _)) (by decide))); omega) hP hD hS hl
end
section
theorem hd_yX6_canKeep_RX6 : yX6_canKeep.cls = RX6 ∧ yX6_canKeep.cls ≠ "java/lang/invoke/MethodHandle" ∧ yX6_canKeep.cls ≠ "java/lang/invoke/VarHandle" ∧ (parseMethodDescriptor yX6_canKeep.desc).map (fun d => d.parameters.length) = some 0 := by decide +kernel
theorem hd_yX6_holdAtNought_RX6 : yX6_holdAtNought.cls = RX6 ∧ yX6_holdAtNought.cls ≠ "java/lang/invoke/MethodHandle" ∧ yX6_holdAtNought.cls ≠ "java/lang/invoke/VarHandle" ∧ (parseMethodDescriptor yX6_holdAtNought.desc).map (fun d => d.parameters.length) = some 1 := by decide +kernel
theorem hd_yX6_rowCount_RX6 : yX6_rowCount.cls = RX6 ∧ yX6_rowCount.cls ≠ "java/lang/invoke/MethodHandle" ∧ yX6_rowCount.cls ≠ "java/lang/invoke/VarHandle" ∧ (parseMethodDescriptor yX6_rowCount.desc).map (fun d => d.parameters.length) = some 0 := by decide +kernel
theorem hd_yX5_goalRow_RX5 : yX5_goalRow.cls = RX5 ∧ yX5_goalRow.cls ≠ "java/lang/invoke/MethodHandle" ∧ yX5_goalRow.cls ≠ "java/lang/invoke/VarHandle" ∧ (parseMethodDescriptor yX5_goalRow.desc).map (fun d => d.parameters.length) = some 1 := by decide +kernel
theorem hd_yX5_takeNumbers_RX5 : yX5_takeNumbers.cls = RX5 ∧ yX5_takeNumbers.cls ≠ "java/lang/invoke/MethodHandle" ∧ yX5_takeNumbers.cls ≠ "java/lang/invoke/VarHandle" ∧ (parseMethodDescriptor yX5_takeNumbers.desc).map (fun d => d.parameters.length) = some 1 := by decide +kernel
theorem hd_yX5_compare_RX5 : yX5_compare.cls = RX5 ∧ yX5_compare.cls ≠ "java/lang/invoke/MethodHandle" ∧ yX5_compare.cls ≠ "java/lang/invoke/VarHandle" ∧ (parseMethodDescriptor yX5_compare.desc).map (fun d => d.parameters.length) = some 2 := by decide +kernel
theorem hd_yX5_keepAnswer_RX5 : yX5_keepAnswer.cls = RX5 ∧ yX5_keepAnswer.cls ≠ "java/lang/invoke/MethodHandle" ∧ yX5_keepAnswer.cls ≠ "java/lang/invoke/VarHandle" ∧ (parseMethodDescriptor yX5_keepAnswer.desc).map (fun d => d.parameters.length) = some 0 := by decide +kernel
theorem hd_yX6_sink_RX6 : yX6_sink.cls = RX6 ∧ yX6_sink.cls ≠ "java/lang/invoke/MethodHandle" ∧ yX6_sink.cls ≠ "java/lang/invoke/VarHandle" ∧ (parseMethodDescriptor yX6_sink.desc).map (fun d => d.parameters.length) = some 1 := by decide +kernel
theorem hd_yX6_keepSunk_RX6 : yX6_keepSunk.cls = RX6 ∧ yX6_keepSunk.cls ≠ "java/lang/invoke/MethodHandle" ∧ yX6_keepSunk.cls ≠ "java/lang/invoke/VarHandle" ∧ (parseMethodDescriptor yX6_keepSunk.desc).map (fun d => d.parameters.length) = some 1 := by decide +kernel
theorem hd_yX6_makeLeast_RX6 : yX6_makeLeast.cls = RX6 ∧ yX6_makeLeast.cls ≠ "java/lang/invoke/MethodHandle" ∧ yX6_makeLeast.cls ≠ "java/lang/invoke/VarHandle" ∧ (parseMethodDescriptor yX6_makeLeast.desc).map (fun d => d.parameters.length) = some 1 := by decide +kernel
theorem dX5_settle_0 : decode cX5_settle 0 = .ok (.iconst 0, 1) := dk_3 (by decide +kernel)
theorem dX5_settle_1 : decode cX5_settle 1 = .ok (.istore_n 2, 1) := dk_61 (by decide +kernel)
theorem dX5_settle_2 : decode cX5_settle 2 = .ok (.iconst 0, 1) := dk_3 (by decide +kernel)
theorem dX5_settle_3 : decode cX5_settle 3 = .ok (.istore_n 3, 1) := dk_62 (by decide +kernel)
theorem dX5_settle_4 : decode cX5_settle 4 = .ok (.iload_n 3, 1) := dk_29 (by decide +kernel)
theorem dX5_settle_5 : decode cX5_settle 5 = .ok (.aload_n 0, 1) := dk_42 (by decide +kernel)
theorem dX5_settle_6 : decode cX5_settle 6 = .ok (.getfield 74, 3) := dk_180 (by decide +kernel)
theorem dX5_settle_9 : decode cX5_settle 9 = .ok (.getfield 131, 3) := dk_180 (by decide +kernel)
theorem dX5_settle_12 : decode cX5_settle 12 = .ok (.if_icmp .ge 72, 3) := dk_162 (by decide +kernel)
theorem dX5_settle_15 : decode cX5_settle 15 = .ok (.iload_n 1, 1) := dk_27 (by decide +kernel)
theorem dX5_settle_16 : decode cX5_settle 16 = .ok (.ifCond .eq 16, 3) := dk_153 (by decide +kernel)
theorem dX5_settle_19 : decode cX5_settle 19 = .ok (.aload_n 0, 1) := dk_42 (by decide +kernel)
theorem dX5_settle_20 : decode cX5_settle 20 = .ok (.getfield 74, 3) := dk_180 (by decide +kernel)
theorem dX5_settle_23 : decode cX5_settle 23 = .ok (.getfield 134, 3) := dk_180 (by decide +kernel)
theorem dX5_settle_26 : decode cX5_settle 26 = .ok (.iload_n 3, 1) := dk_29 (by decide +kernel)
theorem dX5_settle_27 : decode cX5_settle 27 = .ok (.iaload, 1) := dk_46 (by decide +kernel)
theorem dX5_settle_28 : decode cX5_settle 28 = .ok (.iconst 1, 1) := dk_4 (by decide +kernel)
theorem dX5_settle_29 : decode cX5_settle 29 = .ok (.if_icmp .ne 49, 3) := dk_160 (by decide +kernel)
theorem dX5_settle_32 : decode cX5_settle 32 = .ok (.aload_n 0, 1) := dk_42 (by decide +kernel)
theorem dX5_settle_33 : decode cX5_settle 33 = .ok (.getfield 74, 3) := dk_180 (by decide +kernel)
theorem dX5_settle_36 : decode cX5_settle 36 = .ok (.iload_n 3, 1) := dk_29 (by decide +kernel)
theorem dX5_settle_37 : decode cX5_settle 37 = .ok (.iload_n 1, 1) := dk_27 (by decide +kernel)
theorem dX5_settle_38 : decode cX5_settle 38 = .ok (.ifCond .eq 7, 3) := dk_153 (by decide +kernel)
theorem dX5_settle_41 : decode cX5_settle 41 = .ok (.iconst 0, 1) := dk_3 (by decide +kernel)
theorem dX5_settle_42 : decode cX5_settle 42 = .ok (.goto 9, 3) := dk_167 (by decide +kernel)
theorem dX5_settle_45 : decode cX5_settle 45 = .ok (.aload_n 0, 1) := dk_42 (by decide +kernel)
theorem dX5_settle_46 : decode cX5_settle 46 = .ok (.getfield 41, 3) := dk_180 (by decide +kernel)
theorem dX5_settle_49 : decode cX5_settle 49 = .ok (.iload_n 3, 1) := dk_29 (by decide +kernel)
theorem dX5_settle_50 : decode cX5_settle 50 = .ok (.iaload, 1) := dk_46 (by decide +kernel)
theorem dX5_settle_51 : decode cX5_settle 51 = .ok (.invokevirtual 194, 3) := dk_182 (by decide +kernel)
theorem dX5_settle_54 : decode cX5_settle 54 = .ok (.istore 4, 2) := dk_54 (by decide +kernel)
theorem dX5_settle_56 : decode cX5_settle 56 = .ok (.iload 4, 2) := dk_21 (by decide +kernel)
theorem dX5_settle_58 : decode cX5_settle 58 = .ok (.iconst 2, 1) := dk_5 (by decide +kernel)
theorem dX5_settle_59 : decode cX5_settle 59 = .ok (.if_icmp .ne 16, 3) := dk_160 (by decide +kernel)
theorem dX5_settle_62 : decode cX5_settle 62 = .ok (.aload_n 0, 1) := dk_42 (by decide +kernel)
theorem dX5_settle_63 : decode cX5_settle 63 = .ok (.getfield 12, 3) := dk_180 (by decide +kernel)
theorem dX5_settle_66 : decode cX5_settle 66 = .ok (.iload_n 2, 1) := dk_28 (by decide +kernel)
theorem dX5_settle_67 : decode cX5_settle 67 = .ok (.invokevirtual 215, 3) := dk_182 (by decide +kernel)
theorem dX5_settle_70 : decode cX5_settle 70 = .ok (.ifCond .ne 5, 3) := dk_154 (by decide +kernel)
theorem dX5_settle_73 : decode cX5_settle 73 = .ok (.iconst 0, 1) := dk_3 (by decide +kernel)
theorem dX5_settle_74 : decode cX5_settle 74 = .ok (.ireturn, 1) := dk_172 (by decide +kernel)
theorem dX5_settle_75 : decode cX5_settle 75 = .ok (.iinc 2 1, 3) := dk_132 (by decide +kernel)
theorem dX5_settle_78 : decode cX5_settle 78 = .ok (.iinc 3 1, 3) := dk_132 (by decide +kernel)
theorem dX5_settle_81 : decode cX5_settle 81 = .ok (.goto (-77), 3) := dk_167 (by decide +kernel)
theorem dX5_settle_84 : decode cX5_settle 84 = .ok (.aload_n 0, 1) := dk_42 (by decide +kernel)
theorem dX5_settle_85 : decode cX5_settle 85 = .ok (.getfield 12, 3) := dk_180 (by decide +kernel)
theorem dX5_settle_88 : decode cX5_settle 88 = .ok (.invokevirtual 218, 3) := dk_182 (by decide +kernel)
theorem dX5_settle_91 : decode cX5_settle 91 = .ok (.ireturn, 1) := dk_172 (by decide +kernel)
def wsMX5_settle : List Cond := .code yX5_settle cX5_settle 5 (some .boolean) :: ([.fieldLink RX5 74 "OptimaWorks$Solver" "model" "LOptimaWorks$Model;", .fieldLink RX5 131 "OptimaWorks$Model" "rows" "I", .fieldLink RX5 12 "OptimaWorks$Solver" "tableau" "LOptimaWorks$Tableau;", .fieldLink RX5 41 "OptimaWorks$Solver" "chosen" "[I", .fieldLink RX5 134 "OptimaWorks$Model" "ways" "[I"] ++ wsX10 ++ wsX50 ++ (wsV RX5 218 RX6 yX6_canKeep wsMX6_canKeep) ++ (wsV RX5 194 RX1 yX1_sign wsMX1_sign) ++ (wsV RX5 215 RX6 yX6_holdAtNought wsMX6_holdAtNought))
theorem iwsMX5_settle_in1 : ∀ w ∈ wsX10, w ∈ wsMX5_settle := fun _ h => List.mem_cons_of_mem _ (List.mem_append_left _ (List.mem_append_left _ (List.mem_append_left _ (List.mem_append_left _ (List.mem_append_right _ h)))))
theorem iwsMX5_settle_in5 : ∀ w ∈ wsX50, w ∈ wsMX5_settle := fun _ h => List.mem_cons_of_mem _ (List.mem_append_left _ (List.mem_append_left _ (List.mem_append_left _ (List.mem_append_right _ h))))
theorem gwsMX5_settle_0 : GoodIn wsMX5_settle (wsV RX5 218 RX6 yX6_canKeep wsMX6_canKeep) := goodIn_sub (fun _ h => List.mem_cons_of_mem _ (List.mem_append_left _ (List.mem_append_left _ (List.mem_append_right _ h)))) (gdV (by decide +kernel) gdwsMX6_canKeep)
theorem gwsMX5_settle_1 : GoodIn wsMX5_settle (wsV RX5 194 RX1 yX1_sign wsMX1_sign) := goodIn_sub (fun _ h => List.mem_cons_of_mem _ (List.mem_append_left _ (List.mem_append_right _ h))) (gdV (by decide +kernel) gdwsMX1_sign)
theorem gwsMX5_settle_2 : GoodIn wsMX5_settle (wsV RX5 215 RX6 yX6_holdAtNought wsMX6_holdAtNought) := goodIn_sub (fun _ h => List.mem_cons_of_mem _ (List.mem_append_right _ h)) (gdV (by decide +kernel) gdwsMX6_holdAtNought)
theorem gdwsMX5_settle : wsMX5_settle.all goodWord = true := gdC rfl (gdA (gdA (gdA (gdA (gdA (by decide +kernel : ([.fieldLink RX5 74 "OptimaWorks$Solver" "model" "LOptimaWorks$Model;", .fieldLink RX5 131 "OptimaWorks$Model" "rows" "I", .fieldLink RX5 12 "OptimaWorks$Solver" "tableau" "LOptimaWorks$Tableau;", .fieldLink RX5 41 "OptimaWorks$Solver" "chosen" "[I", .fieldLink RX5 134 "OptimaWorks$Model" "ways" "[I"] : List Cond).all goodWord = true) gdwsX10) gdwsX50) (gdV (by decide +kernel) gdwsMX6_canKeep)) (gdV (by decide +kernel) gdwsMX1_sign)) (gdV (by decide +kernel) gdwsMX6_holdAtNought))
theorem hm_m_X5_settle_0 : (.fieldLink RX5 74 "OptimaWorks$Solver" "model" "LOptimaWorks$Model;" : Cond) ∈ wsMX5_settle := by decide +kernel
theorem hm_m_X5_settle_1 : (.fieldLink RX5 12 "OptimaWorks$Solver" "tableau" "LOptimaWorks$Tableau;" : Cond) ∈ wsMX5_settle := by decide +kernel
theorem hm_m_X5_settle_2 : (.fieldLink RX5 41 "OptimaWorks$Solver" "chosen" "[I" : Cond) ∈ wsMX5_settle := by decide +kernel
set_option maxHeartbeats 4000000 in
set_option maxRecDepth 100000 in
/-- is it kept -/
theorem m_X5_settle (l : Launch) (dC : Nat → ClassId) (dI : Nat → Nat → Nat) (hO : Nat → Nat) (aO : Nat → Nat) (kO : Nat → ClassId) (hM : Nat → Nat) (hQ : Nat → Nat) (hw : Nat → Nat) (iO_answered : Int32) (iO_searched : Int32) (iO_searchedRelaxed : Int32) (iO_counted : Int32) (fO_countedCase : Nat → Int32) (gO_goalNumber : Nat → Int64) (gO_goalScale : Nat → Int64) (fO_start : Nat → Int32) (fO_column : Nat → Int32) (fO_chosen : Nat → Int32) (aM : Nat → Nat) (kM : Nat → ClassId) (iM_stands : Int32) (iM_variables : Int32) (iM_rows : Int32) (iM_goals : Int32) (iM_differents : Int32) (iM_cases : Int32) (fM_from : Nat → Int32) (fM_to : Nat → Int32) (fM_whole : Nat → Int32) (fM_ways : Nat → Int32) (iM_plainRows : Int32) (fM_plainRow : Nat → Int32) (fM_kept : Nat → Int32) (fM_goalOver : Nat → Int32) (fM_goalUnder : Nat → Int32) (fM_goalMax : Nat → Int32) (fM_different : Nat → Int32) (aQ : Nat → Nat) (kQ : Nat → ClassId) (fQ_inside : Nat → Int32) (fQ_outside : Nat → Int32) (fQ_shut : Nat → Int32) (iQ_rows : Int32) (iQ_allRows : Int32) (iQ_columns : Int32) (nW : Nat) (lw : Nat → Nat) (kw : ClassId) (wl : Nat → Int32) (wb : Nat → Int32) (wG : Nat → Nat → Int64) (p1 : Int32) (b_iO_answered : 0 ≤ iO_answered.toInt ∧ iO_answered.toInt ≤ 1) (b_iO_searched : 0 ≤ iO_searched.toInt ∧ iO_searched.toInt ≤ 1) (b_iO_searchedRelaxed : 0 ≤ iO_searchedRelaxed.toInt ∧ iO_searchedRelaxed.toInt ≤ 1) (b_iO_counted : (-1) ≤ iO_counted.toInt ∧ iO_counted.toInt ≤ 64) (b_fO_countedCase : ∀ q : Nat, 0 ≤ (fO_countedCase q).toInt ∧ (fO_countedCase q).toInt ≤ 200000) (b_fO_column : ∀ q : Nat, (-1) ≤ (fO_column q).toInt ∧ (fO_column q).toInt ≤ 8) (b_fO_chosen : ∀ q : Nat, 0 ≤ (fO_chosen q).toInt ∧ (fO_chosen q).toInt ≤ 2) (b_iM_stands : 0 ≤ iM_stands.toInt ∧ iM_stands.toInt ≤ 1) (b_iM_variables : 0 ≤ iM_variables.toInt ∧ iM_variables.toInt ≤ 8) (b_iM_rows : 0 ≤ iM_rows.toInt ∧ iM_rows.toInt ≤ 12) (b_iM_goals : 0 ≤ iM_goals.toInt ∧ iM_goals.toInt ≤ 3) (b_iM_differents : 0 ≤ iM_differents.toInt ∧ iM_differents.toInt ≤ 8) (b_iM_cases : 0 ≤ iM_cases.toInt ∧ iM_cases.toInt ≤ 200000) (b_fM_ways : ∀ q : Nat, 0 ≤ (fM_ways q).toInt ∧ (fM_ways q).toInt ≤ 3) (b_iM_plainRows : 0 ≤ iM_plainRows.toInt ∧ iM_plainRows.toInt ≤ 12) (b_fM_plainRow : ∀ q : Nat, 0 ≤ (fM_plainRow q).toInt ∧ (fM_plainRow q).toInt ≤ 11) (b_pr : iM_plainRows.toInt ≤ iM_rows.toInt) (b_iQ_rows : 0 ≤ iQ_rows.toInt ∧ iQ_rows.toInt ≤ 40) (b_iQ_allRows : 0 ≤ iQ_allRows.toInt ∧ iQ_allRows.toInt ≤ 40) (b_iQ_columns : 0 ≤ iQ_columns.toInt ∧ iQ_columns.toInt ≤ 40) (b_tb : TbO iQ_rows iQ_allRows iQ_columns) (b_wl : ∀ q : Nat, 0 ≤ (wl q).toInt ∧ (wl q).toInt ≤ 14) (b_wb : ∀ q : Nat, 0 ≤ (wb q).toInt ∧ (wb q).toInt ≤ 1) (hnW : 432 ≤ nW) (hc8 : iQ_columns.toInt ≤ 8) (sz : Nat) : Met l yX5_settle wsMX5_settle ({ frames := 6, cells := 0, slots := 0, locals := 154 }) (va_Pc [.ref (hO 0), .int p1] (fun U => U.heap.size = sz ∧ va_P (dC, dI) vwCl (WO hO aO kO hM hQ hw iO_answered iO_searched iO_searchedRelaxed iO_counted fO_countedCase gO_goalNumber gO_goalScale fO_start fO_column fO_chosen ++ (WM hM aM kM iM_stands iM_variables iM_rows iM_goals iM_differents iM_cases fM_from fM_to fM_whole fM_ways iM_plainRows fM_plainRow fM_kept fM_goalOver fM_goalUnder fM_goalMax fM_different ++ (WQ hQ aQ kQ hw fQ_inside fQ_outside fQ_shut iQ_rows iQ_allRows iQ_columns ++ (WW nW hw lw kw wl wb wG)))) U.heap ∧ va_K (dC, dI) vwCl (tO kO ++ (tM kM ++ (tQ kQ ++ (tW kw)))) U ∧ va_D (fun _ => True) (WO hO aO kO hM hQ hw iO_answered iO_searched iO_searchedRelaxed iO_counted fO_countedCase gO_goalNumber gO_goalScale fO_start fO_column fO_chosen ++ (WM hM aM kM iM_stands iM_variables iM_rows iM_goals iM_differents iM_cases fM_from fM_to fM_whole fM_ways iM_plainRows fM_plainRow fM_kept fM_goalOver fM_goalUnder fM_goalMax fM_different ++ (WQ hQ aQ kQ hw fQ_inside fQ_outside fQ_shut iQ_rows iQ_allRows iQ_columns ++ (WW nW hw lw kw wl wb wG)))))) (va_Qi (fun (r : Int32) (u : (Nat → Int32) × (Nat → Int32) × (Nat → Int32) × (Nat → Int32) × (Nat → Int32) × (Nat → Nat → Int64)) => (∀ q : Nat, 0 ≤ ((u.2.2.2.1) q).toInt ∧ ((u.2.2.2.1) q).toInt ≤ 14) ∧ (∀ q : Nat, 0 ≤ ((u.2.2.2.2.1) q).toInt ∧ ((u.2.2.2.2.1) q).toInt ≤ 1) ∧ (0 ≤ r.toInt ∧ r.toInt ≤ 1)) (fun (u : (Nat → Int32) × (Nat → Int32) × (Nat → Int32) × (Nat → Int32) × (Nat → Int32) × (Nat → Nat → Int64)) t => va_P (dC, dI) vwCl (WO hO aO kO hM hQ hw iO_answered iO_searched iO_searchedRelaxed iO_counted fO_countedCase gO_goalNumber gO_goalScale fO_start fO_column fO_chosen ++ (WM hM aM kM iM_stands iM_variables iM_rows iM_goals iM_differents iM_cases fM_from fM_to fM_whole fM_ways iM_plainRows fM_plainRow fM_kept fM_goalOver fM_goalUnder fM_goalMax fM_different ++ (WQ hQ aQ kQ hw (u.1) (u.2.1) (u.2.2.1) iQ_rows iQ_allRows iQ_columns ++ (WW nW hw lw kw (u.2.2.2.1) (u.2.2.2.2.1) (u.2.2.2.2.2))))) t.heap ∧ va_D (va_A (WO hO aO kO hM hQ hw iO_answered iO_searched iO_searchedRelaxed iO_counted fO_countedCase gO_goalNumber gO_goalScale fO_start fO_column fO_chosen ++ (WM hM aM kM iM_stands iM_variables iM_rows iM_goals iM_differents iM_cases fM_from fM_to fM_whole fM_ways iM_plainRows fM_plainRow fM_kept fM_goalOver fM_goalUnder fM_goalMax fM_different ++ (WQ hQ aQ kQ hw fQ_inside fQ_outside fQ_shut iQ_rows iQ_allRows iQ_columns ++ (WW nW hw lw kw wl wb wG)))) sz) (WO hO aO kO hM hQ hw iO_answered iO_searched iO_searchedRelaxed iO_counted fO_countedCase gO_goalNumber gO_goalScale fO_start fO_column fO_chosen ++ (WM hM aM kM iM_stands iM_variables iM_rows iM_goals iM_differents iM_cases fM_from fM_to fM_whole fM_ways iM_plainRows fM_plainRow fM_kept fM_goalOver fM_goalUnder fM_goalMax fM_different ++ (WQ hQ aQ kQ hw (u.1) (u.2.1) (u.2.2.1) iQ_rows iQ_allRows iQ_columns ++ (WW nW hw lw kw (u.2.2.2.1) (u.2.2.2.2.1) (u.2.2.2.2.2)))))) (va_A (WO hO aO kO hM hQ hw iO_answered iO_searched iO_searchedRelaxed iO_counted fO_countedCase gO_goalNumber gO_goalScale fO_start fO_column fO_chosen ++ (WM hM aM kM iM_stands iM_variables iM_rows iM_goals iM_differents iM_cases fM_from fM_to fM_whole fM_ways iM_plainRows fM_plainRow fM_kept fM_goalOver fM_goalUnder fM_goalMax fM_different ++ (WQ hQ aQ kQ hw fQ_inside fQ_outside fQ_shut iQ_rows iQ_allRows iQ_columns ++ (WW nW hw lw kw wl wb wG)))) sz)) 0 0 (va_A (WO hO aO kO hM hQ hw iO_answered iO_searched iO_searchedRelaxed iO_counted fO_countedCase gO_goalNumber gO_goalScale fO_start fO_column fO_chosen ++ (WM hM aM kM iM_stands iM_variables iM_rows iM_goals iM_differents iM_cases fM_from fM_to fM_whole fM_ways iM_plainRows fM_plainRow fM_kept fM_goalOver fM_goalUnder fM_goalMax fM_different ++ (WQ hQ aQ kQ hw fQ_inside fQ_outside fQ_shut iQ_rows iQ_allRows iQ_columns ++ (WW nW hw lw kw wl wb wG)))) sz) := by
  refine Met.ofW (cc := cX5_settle) (maxL := 5) (ret := (some .boolean)) (by decide) rfl ?_
  intro p e s m args below meth c s₁ B hml hv
  obtain ⟨rfl, hsz, hP, hK, hD0⟩ := hv
  have hx := B.exec
  have hb := B.bytes
  have hr := B.returns
  have hts := atoms_spec (ws := wsMX5_settle) B.pre
  have hown : s.vm.findClass RX5 = some m.cls := findClass_of_methodNamed B.named
  have hlocks := B.notSynchronized
  subst hsz
  have hD := hD0.self (sz := s.heap.size)
  generalize hAe : va_A (WO hO aO kO hM hQ hw iO_answered iO_searched iO_searchedRelaxed iO_counted fO_countedCase gO_goalNumber gO_goalScale fO_start fO_column fO_chosen ++ (WM hM aM kM iM_stands iM_variables iM_rows iM_goals iM_differents iM_cases fM_from fM_to fM_whole fM_ways iM_plainRows fM_plainRow fM_kept fM_goalOver fM_goalUnder fM_goalMax fM_different ++ (WQ hQ aQ kQ hw fQ_inside fQ_outside fQ_shut iQ_rows iQ_allRows iQ_columns ++ (WW nW hw lw kw wl wb wG)))) s.heap.size = A at hD ⊢
  have hA : ∀ q : Nat, s.heap.size ≤ q → A q := fun q h => by rw [← hAe]; exact Or.inr h
  have hS : va_S A s.heap s.heap [] := va_S.rf
  have hl := lv_entry ([.ref (hO 0), .int p1]) (n := 5) (Nat.le_of_ble_eq_true rfl)
  rw [lg_entry_eq]
  generalize (lg_sl ([.ref (hO 0), .int p1]) ++ List.replicate (5 - (lg_sl ([.ref (hO 0), .int p1])).length) Slot.unset).toArray = ls at hl ⊢
  have hl : lv_has ls 5 [(0, .ref (hO 0)), (1, .int p1)] := hl
  refine lv_iconst (v := 0) hx hb dX5_settle_0 (by decide) ?_
  refine lv_istore_n hx hb dX5_settle_1 rfl hl (by decide) rfl (fun ls (hl : lv_has ls _ ([(2, .int 0), (0, .ref (hO 0)), (1, .int p1)])) => ?_)
  refine lv_iconst (v := 0) hx hb dX5_settle_2 (by decide) ?_
  refine lv_istore_n hx hb dX5_settle_3 rfl hl (by decide) rfl (fun ls (hl : lv_has ls _ ([(3, .int 0), (2, .int 0), (0, .ref (hO 0)), (1, .int p1)])) => ?_)
  have hl : lv_has _ _ ([(3, .int 0), (2, .int 0), (0, .ref (hO 0)), (1, .int p1)]) := lv_sub hl [0, 1, 2, 3] rfl
  refine (fun (loop : ∀ (n9 : Nat) (fQ_inside_x4 : Nat → Int32) (fQ_outside_x4 : Nat → Int32) (fQ_shut_x4 : Nat → Int32) (wl_x4 : Nat → Int32) (wb_x4 : Nat → Int32) (wG_x4 : Nat → Nat → Int64) (l3_x4 : Int32) (l2_x4 : Int32) (H : Heap) (locs : List Loc) (ls : Array Slot), (∀ q : Nat, 0 ≤ (wl_x4 q).toInt ∧ (wl_x4 q).toInt ≤ 14) → (∀ q : Nat, 0 ≤ (wb_x4 q).toInt ∧ (wb_x4 q).toInt ≤ 1) → (0 ≤ l3_x4.toInt ∧ l3_x4.toInt ≤ 12) → (0 ≤ l2_x4.toInt ∧ l2_x4.toInt ≤ 12) → (l2_x4.toInt ≤ l3_x4.toInt) → (12 - l3_x4.toInt < ((n9 : Nat) : Int)) → va_P (dC, dI) vwCl (WO hO aO kO hM hQ hw iO_answered iO_searched iO_searchedRelaxed iO_counted fO_countedCase gO_goalNumber gO_goalScale fO_start fO_column fO_chosen ++ (WM hM aM kM iM_stands iM_variables iM_rows iM_goals iM_differents iM_cases fM_from fM_to fM_whole fM_ways iM_plainRows fM_plainRow fM_kept fM_goalOver fM_goalUnder fM_goalMax fM_different ++ (WQ hQ aQ kQ hw fQ_inside_x4 fQ_outside_x4 fQ_shut_x4 iQ_rows iQ_allRows iQ_columns ++ (WW nW hw lw kw wl_x4 wb_x4 wG_x4)))) H → va_D A (WO hO aO kO hM hQ hw iO_answered iO_searched iO_searchedRelaxed iO_counted fO_countedCase gO_goalNumber gO_goalScale fO_start fO_column fO_chosen ++ (WM hM aM kM iM_stands iM_variables iM_rows iM_goals iM_differents iM_cases fM_from fM_to fM_whole fM_ways iM_plainRows fM_plainRow fM_kept fM_goalOver fM_goalUnder fM_goalMax fM_different ++ (WQ hQ aQ kQ hw fQ_inside_x4 fQ_outside_x4 fQ_shut_x4 iQ_rows iQ_allRows iQ_columns ++ (WW nW hw lw kw wl_x4 wb_x4 wG_x4)))) → va_S A s.heap H locs → lv_has ls 5 [(3, .int l3_x4), (2, .int l2_x4), (0, .ref (hO 0)), (1, .int p1)] → W p l e _ s m _ below meth c H locs 0 0 _ (F0 m 4 ls [])) => loop (13) fQ_inside fQ_outside fQ_shut wl wb wG 0 0 _ _ _ b_wl b_wb (show 0 ≤ (0 : Int32).toInt ∧ (0 : Int32).toInt ≤ 12 from by decide) (show 0 ≤ (0 : Int32).toInt ∧ (0 : Int32).toInt ≤ 12 from by decide) (show (0 : Int32).toInt ≤ (0 : Int32).toInt from by decide) ((by have e9 : (0 : Int32).toInt = 0 := (by decide : (0 : Int32).toInt = 0); omega)) hP hD hS hl) ?_
  intro n9
  induction n9 with
  | zero => intro fQ_inside_x4 fQ_outside_x4 fQ_shut_x4 wl_x4 wb_x4 wG_x4 l3_x4 l2_x4 H locs ls b_wl_x4 b_wb_x4 b_l3_x4 b_l2_x4 hl1 hf9; exact False.elim (by omega)
  | succ n9 ihx4 =>
    intro fQ_inside_x4 fQ_outside_x4 fQ_shut_x4 wl_x4 wb_x4 wG_x4 l3_x4 l2_x4 H locs ls b_wl_x4 b_wb_x4 b_l3_x4 b_l2_x4 hl1 hfx4 hP hD hS hl
    refine lv_iload_n hx hb dX5_settle_4 rfl (lv_at hl 0 rfl) ?_
    refine lv_aload_n hx hb dX5_settle_5 rfl (lv_at hl 2 rfl) ?_
    refine va_get (D := (dC, dI)) (ci := 5) (v := .ref (hM 0)) (C := RX5) (T := TX5) (N := 19) hx hb hts iwsMX5_settle_in5 hown hK hP 0 rfl rfl 0 (by decide) (hts _ hm_m_X5_settle_0) (fun _ h9 => h9) rfl dX5_settle_6 ?_
    refine va_get (D := (dC, dI)) (ci := 1) (v := .int iM_rows) (C := RX1) (T := TX1) (N := 17) hx hb hts iwsMX5_settle_in1 hown hK hP 11 rfl rfl 2 (by decide) (hts (.fieldLink RX5 131 "OptimaWorks$Model" "rows" "I") (by decide +kernel)) (fun _ h9 => h9) rfl dX5_settle_9 ?_
    refine lv_icmp_ge (tgt := 84) hx hb dX5_settle_12 (by decide) (fun c_12 => ?_) (fun c_12 => ?_)
    · have t_12 : l3_x4.toInt ≥ iM_rows.toInt := toI_ge c_12 rfl rfl
      refine lv_aload_n hx hb dX5_settle_84 rfl (lv_at hl 2 rfl) ?_
      refine va_get (D := (dC, dI)) (ci := 5) (v := .ref (hQ 0)) (C := RX5) (T := TX5) (N := 19) hx hb hts iwsMX5_settle_in5 hown hK hP 0 rfl rfl 1 (by decide) (hts _ hm_m_X5_settle_1) (fun _ h9 => h9) rfl dX5_settle_85 ?_
      have p9 := cj_4_2_3 (WO hO aO kO hM hQ hw iO_answered iO_searched iO_searchedRelaxed iO_counted fO_countedCase gO_goalNumber gO_goalScale fO_start fO_column fO_chosen) (WM hM aM kM iM_stands iM_variables iM_rows iM_goals iM_differents iM_cases fM_from fM_to fM_whole fM_ways iM_plainRows fM_plainRow fM_kept fM_goalOver fM_goalUnder fM_goalMax fM_different) (WQ hQ aQ kQ hw fQ_inside_x4 fQ_outside_x4 fQ_shut_x4 iQ_rows iQ_allRows iQ_columns) (WW nW hw lw kw wl_x4 wb_x4 wG_x4)
      have hPc := hP.mem (fun q h => p9.mem_iff.mpr (List.mem_append_left _ h))
      have hDc := (hD.perm p9).left
      have hKc : va_K (dC, dI) vwCl (tQ kQ ++ (tW kw)) _ := hK.sub [20, 21, 22, 23, 24] rfl
      have hFc := freeG p9 hD hS hA
      refine va_calli (va_runV (As := []) (rest := []) ⟨hx, hb, hml, hown, hts⟩ (m_X6_canKeep l dC dI hQ aQ kQ hw fQ_inside_x4 fQ_outside_x4 fQ_shut_x4 iQ_rows iQ_allRows iQ_columns nW lw kw wl_x4 wb_x4 wG_x4 (b_iQ_rows) (b_iQ_allRows) (b_iQ_columns) (by first | with_reducible assumption | omega | assumption) b_wl_x4 b_wb_x4 (by omega) H.size) (cwV 0 hts gwsMX5_settle_0 rfl rfl rfl hd_yX6_canKeep_RX6 (by decide +kernel)) (fz_pre (va_recv hK hP (ci := 6) (q0 := 22) rfl rfl) hPc hKc hDc) rfl rfl hl.1 rfl (lv_room (Nat.le_of_ble_eq_true rfl)) dX5_settle_88 (by decide +kernel)) hS (fun q _ h => hFc q h) hFc (fun r21 u t9_ H locs ht hvm hw9 hB9 hz1 hk1 hS => ?_)
      revert u hw9 hB9
      refine fz_p5 ?_
      intro fQ_inside_21 fQ_outside_21 wl_21 wb_21 wG_21 hw9 hB9
      try dsimp only at hw9 hB9
      revert hw9
      refine fz_a3 ?_
      intro b_wl_21 b_wb_21 b_r21
      have p8 := cj_4_2_3 (WO hO aO kO hM hQ hw iO_answered iO_searched iO_searchedRelaxed iO_counted fO_countedCase gO_goalNumber gO_goalScale fO_start fO_column fO_chosen) (WM hM aM kM iM_stands iM_variables iM_rows iM_goals iM_differents iM_cases fM_from fM_to fM_whole fM_ways iM_plainRows fM_plainRow fM_kept fM_goalOver fM_goalUnder fM_goalMax fM_different) (WQ hQ aQ kQ hw fQ_inside_21 fQ_outside_21 fQ_shut_x4 iQ_rows iQ_allRows iQ_columns) (WW nW hw lw kw wl_21 wb_21 wG_21)
      obtain ⟨hP, hD⟩ := frameG p9 p8 hP hD hk1 hFc (fz_P ht hB9.1) hB9.2
      refine W.widen (k := 0) (n := 0) (by decide +kernel) (by decide +kernel) ?_
      exact W.zret (v := r21) hx hb hr (by rcases z01 (x := r21) (by first | exact b_r21 | with_reducible assumption | exact ⟨by omega, by omega⟩ | assumption) with h9 | h9 <;> rw [h9] <;> rfl) (fun t9_ ht hW => ⟨⟨r21, (fQ_inside_21, fQ_outside_21, fQ_shut_x4, wl_21, wb_21, wG_21), rfl, ⟨b_wl_21, b_wb_21, (by first | exact b_r21 | with_reducible assumption | exact ⟨by omega, by omega⟩ | assumption)⟩, by rw [ht]; exact hP, hD⟩, hS.F ht⟩) hS.2.2 dX5_settle_91
    · have t_12 : ¬ l3_x4.toInt ≥ iM_rows.toInt := toI_nge c_12 rfl rfl
      refine lv_iload_n hx hb dX5_settle_15 rfl (lv_at hl 3 rfl) ?_
      refine lv_if_eq (tgt := 32) hx hb dX5_settle_16 (by decide) (fun c_16 => ?_) (fun c_16 => ?_)
      · have t_16 : p1.toInt = 0 := toI_eq c_16 rfl (by decide : (0 : Int32).toInt = 0)
        refine lv_aload_n hx hb dX5_settle_32 rfl (lv_at hl 2 rfl) ?_
        refine va_get (D := (dC, dI)) (ci := 5) (v := .ref (hM 0)) (C := RX5) (T := TX5) (N := 19) hx hb hts iwsMX5_settle_in5 hown hK hP 0 rfl rfl 0 (by decide) (hts _ hm_m_X5_settle_0) (fun _ h9 => h9) rfl dX5_settle_33 ?_
        refine lv_iload_n hx hb dX5_settle_36 rfl (lv_at hl 0 rfl) ?_
        refine lv_iload_n hx hb dX5_settle_37 rfl (lv_at hl 3 rfl) ?_
        refine W.cut (pc := 51) (fun H locs ls stk => ∃ (k0_j11 : Int32), (0 ≤ k0_j11.toInt ∧ k0_j11.toInt ≤ 2) ∧  stk = [.int k0_j11, .int l3_x4, .ref (hM 0)] ∧ va_P (dC, dI) vwCl (WO hO aO kO hM hQ hw iO_answered iO_searched iO_searchedRelaxed iO_counted fO_countedCase gO_goalNumber gO_goalScale fO_start fO_column fO_chosen ++ (WM hM aM kM iM_stands iM_variables iM_rows iM_goals iM_differents iM_cases fM_from fM_to fM_whole fM_ways iM_plainRows fM_plainRow fM_kept fM_goalOver fM_goalUnder fM_goalMax fM_different ++ (WQ hQ aQ kQ hw fQ_inside_x4 fQ_outside_x4 fQ_shut_x4 iQ_rows iQ_allRows iQ_columns ++ (WW nW hw lw kw wl_x4 wb_x4 wG_x4)))) H ∧ va_D A (WO hO aO kO hM hQ hw iO_answered iO_searched iO_searchedRelaxed iO_counted fO_countedCase gO_goalNumber gO_goalScale fO_start fO_column fO_chosen ++ (WM hM aM kM iM_stands iM_variables iM_rows iM_goals iM_differents iM_cases fM_from fM_to fM_whole fM_ways iM_plainRows fM_plainRow fM_kept fM_goalOver fM_goalUnder fM_goalMax fM_different ++ (WQ hQ aQ kQ hw fQ_inside_x4 fQ_outside_x4 fQ_shut_x4 iQ_rows iQ_allRows iQ_columns ++ (WW nW hw lw kw wl_x4 wb_x4 wG_x4)))) ∧ va_S A s.heap H locs ∧ lv_has ls 5 [(3, .int l3_x4), (2, .int l2_x4), (0, .ref (hO 0)), (1, .int p1)]) (fun join11 => ?_) ?_
        · refine lv_if_eq (tgt := 45) hx hb dX5_settle_38 (by decide) (fun c_38 => ?_) (fun c_38 => ?_)
          · have t_38 : p1.toInt = 0 := toI_eq c_38 rfl (by decide : (0 : Int32).toInt = 0)
            refine lv_aload_n hx hb dX5_settle_45 rfl (lv_at hl 2 rfl) ?_
            refine va_get (D := (dC, dI)) (ci := 5) (v := .ref (aO 5)) (C := RX5) (T := TX5) (N := 19) hx hb hts iwsMX5_settle_in5 hown hK hP 0 rfl rfl 11 (by decide) (hts _ hm_m_X5_settle_2) (fun _ h9 => h9) rfl dX5_settle_46 ?_
            refine lv_iload_n hx hb dX5_settle_49 rfl (lv_at hl 0 rfl) ?_
            refine va_iald (cA := kO 5) (n := 12) (f := fO_chosen) hx hb hK hP 6 5 rfl rfl (vp_in_iff.mpr ⟨b_l3_x4.1, (by omega)⟩) dX5_settle_50 ?_
            refine lv_topi (fun v23 hv23 => ?_)
            have b_v23 : 0 ≤ v23.toInt ∧ v23.toInt ≤ 2 := by rw [hv23]; exact b_fO_chosen _
            clear hv23
            have hl : lv_has _ _ ([(3, .int l3_x4), (2, .int l2_x4), (0, .ref (hO 0)), (1, .int p1)]) := lv_sub hl [0, 1, 2, 3] rfl
            exact join11 _ _ _ _ ⟨v23, (b_v23), rfl, hP, hD, hS, hl⟩
          · have t_38 : ¬ p1.toInt = 0 := toI_neq c_38 rfl (by decide : (0 : Int32).toInt = 0)
            refine lv_iconst (v := 0) hx hb dX5_settle_41 (by decide) ?_
            refine lv_goto (tgt := 51) hx hb dX5_settle_42 (by decide) ?_
            have hl : lv_has _ _ ([(3, .int l3_x4), (2, .int l2_x4), (0, .ref (hO 0)), (1, .int p1)]) := lv_sub hl [0, 1, 2, 3] rfl
            exact join11 _ _ _ _ ⟨0, (show 0 ≤ (0 : Int32).toInt ∧ (0 : Int32).toInt ≤ 2 from by decide), rfl, hP, hD, hS, hl⟩
        · rintro H locs ls stk ⟨k0_j11, b_k0_j11, rfl, hP, hD, hS, hl⟩
          have p9 := cj_4_1 (WO hO aO kO hM hQ hw iO_answered iO_searched iO_searchedRelaxed iO_counted fO_countedCase gO_goalNumber gO_goalScale fO_start fO_column fO_chosen) (WM hM aM kM iM_stands iM_variables iM_rows iM_goals iM_differents iM_cases fM_from fM_to fM_whole fM_ways iM_plainRows fM_plainRow fM_kept fM_goalOver fM_goalUnder fM_goalMax fM_different) (WQ hQ aQ kQ hw fQ_inside_x4 fQ_outside_x4 fQ_shut_x4 iQ_rows iQ_allRows iQ_columns) (WW nW hw lw kw wl_x4 wb_x4 wG_x4)
          have hPc := hP.mem (fun q h => p9.mem_iff.mpr (List.mem_append_left _ h))
          have hDc := (hD.perm p9).left
          have hKc : va_K (dC, dI) vwCl (tM kM) _ := hK.sub [10, 11, 12, 13, 14, 15, 16, 17, 18, 19] rfl
          have hFc := freeG p9 hD hS hA
          refine va_calli (va_runV (As := [.int l3_x4, .int k0_j11]) (rest := []) ⟨hx, hb, hml, hown, hts⟩ (m_X1_sign l dC dI hM aM kM iM_stands iM_variables iM_rows iM_goals iM_differents iM_cases fM_from fM_to fM_whole fM_ways iM_plainRows fM_plainRow fM_kept fM_goalOver fM_goalUnder fM_goalMax fM_different l3_x4 k0_j11 (b_iM_stands) (b_iM_variables) (b_iM_rows) (b_iM_goals) (b_iM_differents) (b_iM_cases) b_fM_ways (b_iM_plainRows) b_fM_plainRow (by first | with_reducible assumption | omega | assumption) (by first | exact b_l3_x4 | with_reducible assumption | exact ⟨by omega, by omega⟩ | assumption) (b_k0_j11) H.size) (cwV 2 hts gwsMX5_settle_1 rfl rfl rfl hd_yX1_sign_RX1 (by decide +kernel)) (fz_pre (va_recv hK hP (ci := 1) (q0 := 11) rfl rfl) hPc hKc hDc) rfl rfl hl.1 rfl (lv_room (Nat.le_of_ble_eq_true rfl)) dX5_settle_51 (by decide +kernel)) hS (fun q _ h => hFc q h) hFc (fun r24 u t9_ H locs ht hvm hw9 hB9 hz1 hk1 hS => ?_)
          clear hw9
          have p8 := p9
          obtain ⟨hP, hD⟩ := frameG p9 p8 hP hD hk1 hFc (fz_P ht hB9.1) hB9.2
          refine lv_istore hx hb dX5_settle_54 hl (by decide) rfl (fun ls (hl : lv_has ls _ ([(4, .int r24), (3, .int l3_x4), (2, .int l2_x4), (0, .ref (hO 0)), (1, .int p1)])) => ?_)
          refine lv_iload hx hb dX5_settle_56 (lv_at hl 0 rfl) ?_
          refine lv_iconst (v := 2) hx hb dX5_settle_58 (by decide) ?_
          refine lv_icmp_ne (tgt := 75) hx hb dX5_settle_59 (by decide) (fun c_59 => ?_) (fun c_59 => ?_)
          · have t_59 : r24.toInt ≠ 2 := toI_ne c_59 rfl (by decide : (2 : Int32).toInt = 2)
            refine lv_iinc (v := (iI (l2_x4.toInt + 1))) hx hb dX5_settle_75 hl (k := 2) rfl (iI_add2 (iI_of _) (by decide : (1 : Int32) = iI 1)) (by decide) rfl (fun ls (hl : lv_has ls _ ([(2, .int (iI (l2_x4.toInt + 1))), (4, .int r24), (3, .int l3_x4), (0, .ref (hO 0)), (1, .int p1)])) => ?_)
            refine lv_iinc (v := (iI (l3_x4.toInt + 1))) hx hb dX5_settle_78 hl (k := 2) rfl (iI_add2 (iI_of _) (by decide : (1 : Int32) = iI 1)) (by decide) rfl (fun ls (hl : lv_has ls _ ([(3, .int (iI (l3_x4.toInt + 1))), (2, .int (iI (l2_x4.toInt + 1))), (4, .int r24), (0, .ref (hO 0)), (1, .int p1)])) => ?_)
            refine lv_goto (tgt := 4) hx hb dX5_settle_81 (by decide) ?_
            have hl : lv_has _ _ ([(3, .int (iI (l3_x4.toInt + 1))), (2, .int (iI (l2_x4.toInt + 1))), (0, .ref (hO 0)), (1, .int p1)]) := lv_sub hl [0, 1, 3, 4] rfl
            exact ihx4 fQ_inside_x4 fQ_outside_x4 fQ_shut_x4 wl_x4 wb_x4 wG_x4 (iI (l3_x4.toInt + 1)) (iI (l2_x4.toInt + 1)) _ _ _ b_wl_x4 b_wb_x4 (iI_rng (Int.le_trans (by decide) (Int.add_le_add (b_l3_x4.1) (Int.le_refl _))) (by omega) (by decide) (by decide)) (iI_rng (Int.le_trans (by decide) (Int.add_le_add (b_l2_x4.1) (Int.le_refl _))) (by omega) (by decide) (by decide)) (show (iI (l2_x4.toInt + 1)).toInt ≤ (iI (l3_x4.toInt + 1)).toInt from by (try rw [iI_t (E := l2_x4.toInt + 1) (by omega) (by omega)]); rw [iI_t (E := l3_x4.toInt + 1) (by omega) (by omega)]; omega) (by have e9 : ((iI (l3_x4.toInt + 1))).toInt = (l3_x4.toInt + 1) := (iI_t (Int.le_trans (by decide) (Int.add_le_add (b_l3_x4.1) (Int.le_refl _))) (Int.le_trans (Int.add_le_add (b_l3_x4.2) (Int.le_refl _)) (by decide))); omega) hP hD hS hl
          · have t_59 : r24.toInt = 2 := toI_nne c_59 rfl (by decide : (2 : Int32).toInt = 2)
            refine lv_aload_n hx hb dX5_settle_62 rfl (lv_at hl 3 rfl) ?_
            refine va_get (D := (dC, dI)) (ci := 5) (v := .ref (hQ 0)) (C := RX5) (T := TX5) (N := 19) hx hb hts iwsMX5_settle_in5 hown hK hP 0 rfl rfl 1 (by decide) (hts _ hm_m_X5_settle_1) (fun _ h9 => h9) rfl dX5_settle_63 ?_
            refine lv_iload_n hx hb dX5_settle_66 rfl (lv_at hl 2 rfl) ?_
            have p9 := cj_4_2_3 (WO hO aO kO hM hQ hw iO_answered iO_searched iO_searchedRelaxed iO_counted fO_countedCase gO_goalNumber gO_goalScale fO_start fO_column fO_chosen) (WM hM aM kM iM_stands iM_variables iM_rows iM_goals iM_differents iM_cases fM_from fM_to fM_whole fM_ways iM_plainRows fM_plainRow fM_kept fM_goalOver fM_goalUnder fM_goalMax fM_different) (WQ hQ aQ kQ hw fQ_inside_x4 fQ_outside_x4 fQ_shut_x4 iQ_rows iQ_allRows iQ_columns) (WW nW hw lw kw wl_x4 wb_x4 wG_x4)
            have hPc := hP.mem (fun q h => p9.mem_iff.mpr (List.mem_append_left _ h))
            have hDc := (hD.perm p9).left
            have hKc : va_K (dC, dI) vwCl (tQ kQ ++ (tW kw)) _ := hK.sub [20, 21, 22, 23, 24] rfl
            have hFc := freeG p9 hD hS hA
            refine va_calli (va_runV (As := [.int l2_x4]) (rest := []) ⟨hx, hb, hml, hown, hts⟩ (m_X6_holdAtNought l dC dI hQ aQ kQ hw fQ_inside_x4 fQ_outside_x4 fQ_shut_x4 iQ_rows iQ_allRows iQ_columns nW lw kw wl_x4 wb_x4 wG_x4 l2_x4 (b_iQ_rows) (b_iQ_allRows) (b_iQ_columns) (by first | with_reducible assumption | omega | assumption) b_wl_x4 b_wb_x4 (⟨b_l2_x4.1, Int.le_trans b_l2_x4.2 (by decide)⟩) (by omega) (FitR.small (I := 39) (C := 8) (by omega) (by omega) (by omega) (by omega) (by decide)) H.size) (cwV 1 hts gwsMX5_settle_2 rfl rfl rfl hd_yX6_holdAtNought_RX6 (by decide +kernel)) (fz_pre (va_recv hK hP (ci := 6) (q0 := 22) rfl rfl) hPc hKc hDc) rfl rfl hl.1 rfl (lv_room (Nat.le_of_ble_eq_true rfl)) dX5_settle_67 (by decide +kernel)) hS (fun q _ h => hFc q h) hFc (fun r25 u t9_ H locs ht hvm hw9 hB9 hz1 hk1 hS => ?_)
            revert u hw9 hB9
            refine fz_p6 ?_
            intro fQ_inside_25 fQ_outside_25 fQ_shut_25 wl_25 wb_25 wG_25 hw9 hB9
            try dsimp only at hw9 hB9
            revert hw9
            refine fz_a3 ?_
            intro b_wl_25 b_wb_25 b_r25
            have p8 := cj_4_2_3 (WO hO aO kO hM hQ hw iO_answered iO_searched iO_searchedRelaxed iO_counted fO_countedCase gO_goalNumber gO_goalScale fO_start fO_column fO_chosen) (WM hM aM kM iM_stands iM_variables iM_rows iM_goals iM_differents iM_cases fM_from fM_to fM_whole fM_ways iM_plainRows fM_plainRow fM_kept fM_goalOver fM_goalUnder fM_goalMax fM_different) (WQ hQ aQ kQ hw fQ_inside_25 fQ_outside_25 fQ_shut_25 iQ_rows iQ_allRows iQ_columns) (WW nW hw lw kw wl_25 wb_25 wG_25)
            obtain ⟨hP, hD⟩ := frameG p9 p8 hP hD hk1 hFc (fz_P ht hB9.1) hB9.2
            refine lv_if_ne (tgt := 75) hx hb dX5_settle_70 (by decide) (fun c_70 => ?_) (fun c_70 => ?_)
            · have t_70 : r25.toInt ≠ 0 := toI_ne c_70 rfl (by decide : (0 : Int32).toInt = 0)
              refine lv_iinc (v := (iI (l2_x4.toInt + 1))) hx hb dX5_settle_75 hl (k := 2) rfl (iI_add2 (iI_of _) (by decide : (1 : Int32) = iI 1)) (by decide) rfl (fun ls (hl : lv_has ls _ ([(2, .int (iI (l2_x4.toInt + 1))), (4, .int r24), (3, .int l3_x4), (0, .ref (hO 0)), (1, .int p1)])) => ?_)
              refine lv_iinc (v := (iI (l3_x4.toInt + 1))) hx hb dX5_settle_78 hl (k := 2) rfl (iI_add2 (iI_of _) (by decide : (1 : Int32) = iI 1)) (by decide) rfl (fun ls (hl : lv_has ls _ ([(3, .int (iI (l3_x4.toInt + 1))), (2, .int (iI (l2_x4.toInt + 1))), (4, .int r24), (0, .ref (hO 0)), (1, .int p1)])) => ?_)
              refine lv_goto (tgt := 4) hx hb dX5_settle_81 (by decide) ?_
              have hl : lv_has _ _ ([(3, .int (iI (l3_x4.toInt + 1))), (2, .int (iI (l2_x4.toInt + 1))), (0, .ref (hO 0)), (1, .int p1)]) := lv_sub hl [0, 1, 3, 4] rfl
              exact ihx4 fQ_inside_25 fQ_outside_25 fQ_shut_25 wl_25 wb_25 wG_25 (iI (l3_x4.toInt + 1)) (iI (l2_x4.toInt + 1)) _ _ _ b_wl_25 b_wb_25 (iI_rng (Int.le_trans (by decide) (Int.add_le_add (b_l3_x4.1) (Int.le_refl _))) (by omega) (by decide) (by decide)) (iI_rng (Int.le_trans (by decide) (Int.add_le_add (b_l2_x4.1) (Int.le_refl _))) (by omega) (by decide) (by decide)) (show (iI (l2_x4.toInt + 1)).toInt ≤ (iI (l3_x4.toInt + 1)).toInt from by (try rw [iI_t (E := l2_x4.toInt + 1) (by omega) (by omega)]); rw [iI_t (E := l3_x4.toInt + 1) (by omega) (by omega)]; omega) (by have e9 : ((iI (l3_x4.toInt + 1))).toInt = (l3_x4.toInt + 1) := (iI_t (Int.le_trans (by decide) (Int.add_le_add (b_l3_x4.1) (Int.le_refl _))) (Int.le_trans (Int.add_le_add (b_l3_x4.2) (Int.le_refl _)) (by decide))); omega) hP hD hS hl
            · have t_70 : r25.toInt = 0 := toI_nne c_70 rfl (by decide : (0 : Int32).toInt = 0)
              refine lv_iconst (v := 0) hx hb dX5_settle_73 (by decide) ?_
              refine W.widen (k := 0) (n := 0) (by decide +kernel) (by decide +kernel) ?_
              exact W.zret (v := 0) hx hb hr rfl (fun t9_ ht hW => ⟨⟨(0 : Int32), (fQ_inside_25, fQ_outside_25, fQ_shut_25, wl_25, wb_25, wG_25), rfl, ⟨b_wl_25, b_wb_25, (show 0 ≤ (0 : Int32).toInt ∧ (0 : Int32).toInt ≤ 1 from by decide)⟩, by rw [ht]; exact hP, hD⟩, hS.F ht⟩) hS.2.2 dX5_settle_74
      · have t_16 : ¬ p1.toInt = 0 := toI_neq c_16 rfl (by decide : (0 : Int32).toInt = 0)
        refine lv_aload_n hx hb dX5_settle_19 rfl (lv_at hl 2 rfl) ?_
        refine va_get (D := (dC, dI)) (ci := 5) (v := .ref (hM 0)) (C := RX5) (T := TX5) (N := 19) hx hb hts iwsMX5_settle_in5 hown hK hP 0 rfl rfl 0 (by decide) (hts _ hm_m_X5_settle_0) (fun _ h9 => h9) rfl dX5_settle_20 ?_
        refine va_get (D := (dC, dI)) (ci := 1) (v := .ref (aM 3)) (C := RX1) (T := TX1) (N := 17) hx hb hts iwsMX5_settle_in1 hown hK hP 11 rfl rfl 9 (by decide) (hts (.fieldLink RX5 134 "OptimaWorks$Model" "ways" "[I") (by decide +kernel)) (fun _ h9 => h9) rfl dX5_settle_23 ?_
        refine lv_iload_n hx hb dX5_settle_26 rfl (lv_at hl 0 rfl) ?_
        refine va_iald (cA := kM 3) (n := 12) (f := fM_ways) hx hb hK hP 15 13 rfl rfl (vp_in_iff.mpr ⟨b_l3_x4.1, (by omega)⟩) dX5_settle_27 ?_
        refine lv_topi (fun v26 hv26 => ?_)
        have b_v26 : 0 ≤ v26.toInt ∧ v26.toInt ≤ 3 := by rw [hv26]; exact b_fM_ways _
        clear hv26
        refine lv_iconst (v := 1) hx hb dX5_settle_28 (by decide) ?_
        refine lv_icmp_ne (tgt := 78) hx hb dX5_settle_29 (by decide) (fun c_29 => ?_) (fun c_29 => ?_)
        · have t_29 : v26.toInt ≠ 1 := toI_ne c_29 rfl (by decide : (1 : Int32).toInt = 1)
          refine lv_iinc (v := (iI (l3_x4.toInt + 1))) hx hb dX5_settle_78 hl (k := 0) rfl (iI_add2 (iI_of _) (by decide : (1 : Int32) = iI 1)) (by decide) rfl (fun ls (hl : lv_has ls _ ([(3, .int (iI (l3_x4.toInt + 1))), (2, .int l2_x4), (0, .ref (hO 0)), (1, .int p1)])) => ?_)
          refine lv_goto (tgt := 4) hx hb dX5_settle_81 (by decide) ?_
          have hl : lv_has _ _ ([(3, .int (iI (l3_x4.toInt + 1))), (2, .int l2_x4), (0, .ref (hO 0)), (1, .int p1)]) := lv_sub hl [0, 1, 2, 3] rfl
          exact ihx4 fQ_inside_x4 fQ_outside_x4 fQ_shut_x4 wl_x4 wb_x4 wG_x4 (iI (l3_x4.toInt + 1)) l2_x4 _ _ _ b_wl_x4 b_wb_x4 (iI_rng (Int.le_trans (by decide) (Int.add_le_add (b_l3_x4.1) (Int.le_refl _))) (by omega) (by decide) (by decide)) (b_l2_x4) (show l2_x4.toInt ≤ (iI (l3_x4.toInt + 1)).toInt from by (try rw [iI_t (E := l2_x4.toInt + 1) (by omega) (by omega)]); rw [iI_t (E := l3_x4.toInt + 1) (by omega) (by omega)]; omega) (by have e9 : ((iI (l3_x4.toInt + 1))).toInt = (l3_x4.toInt + 1) := (iI_t (Int.le_trans (by decide) (Int.add_le_add (b_l3_x4.1) (Int.le_refl _))) (Int.le_trans (Int.add_le_add (b_l3_x4.2) (Int.le_refl _)) (by decide))); omega) hP hD hS hl
        · have t_29 : v26.toInt = 1 := toI_nne c_29 rfl (by decide : (1 : Int32).toInt = 1)
          refine lv_aload_n hx hb dX5_settle_32 rfl (lv_at hl 2 rfl) ?_
          refine va_get (D := (dC, dI)) (ci := 5) (v := .ref (hM 0)) (C := RX5) (T := TX5) (N := 19) hx hb hts iwsMX5_settle_in5 hown hK hP 0 rfl rfl 0 (by decide) (hts _ hm_m_X5_settle_0) (fun _ h9 => h9) rfl dX5_settle_33 ?_
          refine lv_iload_n hx hb dX5_settle_36 rfl (lv_at hl 0 rfl) ?_
          refine lv_iload_n hx hb dX5_settle_37 rfl (lv_at hl 3 rfl) ?_
          refine W.cut (pc := 51) (fun H locs ls stk => ∃ (k0_j12 : Int32), (0 ≤ k0_j12.toInt ∧ k0_j12.toInt ≤ 2) ∧  stk = [.int k0_j12, .int l3_x4, .ref (hM 0)] ∧ va_P (dC, dI) vwCl (WO hO aO kO hM hQ hw iO_answered iO_searched iO_searchedRelaxed iO_counted fO_countedCase gO_goalNumber gO_goalScale fO_start fO_column fO_chosen ++ (WM hM aM kM iM_stands iM_variables iM_rows iM_goals iM_differents iM_cases fM_from fM_to fM_whole fM_ways iM_plainRows fM_plainRow fM_kept fM_goalOver fM_goalUnder fM_goalMax fM_different ++ (WQ hQ aQ kQ hw fQ_inside_x4 fQ_outside_x4 fQ_shut_x4 iQ_rows iQ_allRows iQ_columns ++ (WW nW hw lw kw wl_x4 wb_x4 wG_x4)))) H ∧ va_D A (WO hO aO kO hM hQ hw iO_answered iO_searched iO_searchedRelaxed iO_counted fO_countedCase gO_goalNumber gO_goalScale fO_start fO_column fO_chosen ++ (WM hM aM kM iM_stands iM_variables iM_rows iM_goals iM_differents iM_cases fM_from fM_to fM_whole fM_ways iM_plainRows fM_plainRow fM_kept fM_goalOver fM_goalUnder fM_goalMax fM_different ++ (WQ hQ aQ kQ hw fQ_inside_x4 fQ_outside_x4 fQ_shut_x4 iQ_rows iQ_allRows iQ_columns ++ (WW nW hw lw kw wl_x4 wb_x4 wG_x4)))) ∧ va_S A s.heap H locs ∧ lv_has ls 5 [(3, .int l3_x4), (2, .int l2_x4), (0, .ref (hO 0)), (1, .int p1)]) (fun join12 => ?_) ?_
          · refine lv_if_eq (tgt := 45) hx hb dX5_settle_38 (by decide) (fun c_38 => ?_) (fun c_38 => ?_)
            · have t_38 : p1.toInt = 0 := toI_eq c_38 rfl (by decide : (0 : Int32).toInt = 0)
              refine lv_aload_n hx hb dX5_settle_45 rfl (lv_at hl 2 rfl) ?_
              refine va_get (D := (dC, dI)) (ci := 5) (v := .ref (aO 5)) (C := RX5) (T := TX5) (N := 19) hx hb hts iwsMX5_settle_in5 hown hK hP 0 rfl rfl 11 (by decide) (hts _ hm_m_X5_settle_2) (fun _ h9 => h9) rfl dX5_settle_46 ?_
              refine lv_iload_n hx hb dX5_settle_49 rfl (lv_at hl 0 rfl) ?_
              refine va_iald (cA := kO 5) (n := 12) (f := fO_chosen) hx hb hK hP 6 5 rfl rfl (vp_in_iff.mpr ⟨b_l3_x4.1, (by omega)⟩) dX5_settle_50 ?_
              refine lv_topi (fun v28 hv28 => ?_)
              have b_v28 : 0 ≤ v28.toInt ∧ v28.toInt ≤ 2 := by rw [hv28]; exact b_fO_chosen _
              clear hv28
              have hl : lv_has _ _ ([(3, .int l3_x4), (2, .int l2_x4), (0, .ref (hO 0)), (1, .int p1)]) := lv_sub hl [0, 1, 2, 3] rfl
              exact join12 _ _ _ _ ⟨v28, (b_v28), rfl, hP, hD, hS, hl⟩
            · have t_38 : ¬ p1.toInt = 0 := toI_neq c_38 rfl (by decide : (0 : Int32).toInt = 0)
              refine lv_iconst (v := 0) hx hb dX5_settle_41 (by decide) ?_
              refine lv_goto (tgt := 51) hx hb dX5_settle_42 (by decide) ?_
              have hl : lv_has _ _ ([(3, .int l3_x4), (2, .int l2_x4), (0, .ref (hO 0)), (1, .int p1)]) := lv_sub hl [0, 1, 2, 3] rfl
              exact join12 _ _ _ _ ⟨0, (show 0 ≤ (0 : Int32).toInt ∧ (0 : Int32).toInt ≤ 2 from by decide), rfl, hP, hD, hS, hl⟩
          · rintro H locs ls stk ⟨k0_j12, b_k0_j12, rfl, hP, hD, hS, hl⟩
            have p9 := cj_4_1 (WO hO aO kO hM hQ hw iO_answered iO_searched iO_searchedRelaxed iO_counted fO_countedCase gO_goalNumber gO_goalScale fO_start fO_column fO_chosen) (WM hM aM kM iM_stands iM_variables iM_rows iM_goals iM_differents iM_cases fM_from fM_to fM_whole fM_ways iM_plainRows fM_plainRow fM_kept fM_goalOver fM_goalUnder fM_goalMax fM_different) (WQ hQ aQ kQ hw fQ_inside_x4 fQ_outside_x4 fQ_shut_x4 iQ_rows iQ_allRows iQ_columns) (WW nW hw lw kw wl_x4 wb_x4 wG_x4)
            have hPc := hP.mem (fun q h => p9.mem_iff.mpr (List.mem_append_left _ h))
            have hDc := (hD.perm p9).left
            have hKc : va_K (dC, dI) vwCl (tM kM) _ := hK.sub [10, 11, 12, 13, 14, 15, 16, 17, 18, 19] rfl
            have hFc := freeG p9 hD hS hA
            refine va_calli (va_runV (As := [.int l3_x4, .int k0_j12]) (rest := []) ⟨hx, hb, hml, hown, hts⟩ (m_X1_sign l dC dI hM aM kM iM_stands iM_variables iM_rows iM_goals iM_differents iM_cases fM_from fM_to fM_whole fM_ways iM_plainRows fM_plainRow fM_kept fM_goalOver fM_goalUnder fM_goalMax fM_different l3_x4 k0_j12 (b_iM_stands) (b_iM_variables) (b_iM_rows) (b_iM_goals) (b_iM_differents) (b_iM_cases) b_fM_ways (b_iM_plainRows) b_fM_plainRow (by first | with_reducible assumption | omega | assumption) (by first | exact b_l3_x4 | with_reducible assumption | exact ⟨by omega, by omega⟩ | assumption) (b_k0_j12) H.size) (cwV 2 hts gwsMX5_settle_1 rfl rfl rfl hd_yX1_sign_RX1 (by decide +kernel)) (fz_pre (va_recv hK hP (ci := 1) (q0 := 11) rfl rfl) hPc hKc hDc) rfl rfl hl.1 rfl (lv_room (Nat.le_of_ble_eq_true rfl)) dX5_settle_51 (by decide +kernel)) hS (fun q _ h => hFc q h) hFc (fun r29 u t9_ H locs ht hvm hw9 hB9 hz1 hk1 hS => ?_)
            clear hw9
            have p8 := p9
            obtain ⟨hP, hD⟩ := frameG p9 p8 hP hD hk1 hFc (fz_P ht hB9.1) hB9.2
            refine lv_istore hx hb dX5_settle_54 hl (by decide) rfl (fun ls (hl : lv_has ls _ ([(4, .int r29), (3, .int l3_x4), (2, .int l2_x4), (0, .ref (hO 0)), (1, .int p1)])) => ?_)
            refine lv_iload hx hb dX5_settle_56 (lv_at hl 0 rfl) ?_
            refine lv_iconst (v := 2) hx hb dX5_settle_58 (by decide) ?_
            refine lv_icmp_ne (tgt := 75) hx hb dX5_settle_59 (by decide) (fun c_59 => ?_) (fun c_59 => ?_)
            · have t_59 : r29.toInt ≠ 2 := toI_ne c_59 rfl (by decide : (2 : Int32).toInt = 2)
              refine lv_iinc (v := (iI (l2_x4.toInt + 1))) hx hb dX5_settle_75 hl (k := 2) rfl (iI_add2 (iI_of _) (by decide : (1 : Int32) = iI 1)) (by decide) rfl (fun ls (hl : lv_has ls _ ([(2, .int (iI (l2_x4.toInt + 1))), (4, .int r29), (3, .int l3_x4), (0, .ref (hO 0)), (1, .int p1)])) => ?_)
              refine lv_iinc (v := (iI (l3_x4.toInt + 1))) hx hb dX5_settle_78 hl (k := 2) rfl (iI_add2 (iI_of _) (by decide : (1 : Int32) = iI 1)) (by decide) rfl (fun ls (hl : lv_has ls _ ([(3, .int (iI (l3_x4.toInt + 1))), (2, .int (iI (l2_x4.toInt + 1))), (4, .int r29), (0, .ref (hO 0)), (1, .int p1)])) => ?_)
              refine lv_goto (tgt := 4) hx hb dX5_settle_81 (by decide) ?_
              have hl : lv_has _ _ ([(3, .int (iI (l3_x4.toInt + 1))), (2, .int (iI (l2_x4.toInt + 1))), (0, .ref (hO 0)), (1, .int p1)]) := lv_sub hl [0, 1, 3, 4] rfl
              exact ihx4 fQ_inside_x4 fQ_outside_x4 fQ_shut_x4 wl_x4 wb_x4 wG_x4 (iI (l3_x4.toInt + 1)) (iI (l2_x4.toInt + 1)) _ _ _ b_wl_x4 b_wb_x4 (iI_rng (Int.le_trans (by decide) (Int.add_le_add (b_l3_x4.1) (Int.le_refl _))) (by omega) (by decide) (by decide)) (iI_rng (Int.le_trans (by decide) (Int.add_le_add (b_l2_x4.1) (Int.le_refl _))) (by omega) (by decide) (by decide)) (show (iI (l2_x4.toInt + 1)).toInt ≤ (iI (l3_x4.toInt + 1)).toInt from by (try rw [iI_t (E := l2_x4.toInt + 1) (by omega) (by omega)]); rw [iI_t (E := l3_x4.toInt + 1) (by omega) (by omega)]; omega) (by have e9 : ((iI (l3_x4.toInt + 1))).toInt = (l3_x4.toInt + 1) := (iI_t (Int.le_trans (by decide) (Int.add_le_add (b_l3_x4.1) (Int.le_refl _))) (Int.le_trans (Int.add_le_add (b_l3_x4.2) (Int.le_refl _)) (by decide))); omega) hP hD hS hl
            · have t_59 : r29.toInt = 2 := toI_nne c_59 rfl (by decide : (2 : Int32).toInt = 2)
              refine lv_aload_n hx hb dX5_settle_62 rfl (lv_at hl 3 rfl) ?_
              refine va_get (D := (dC, dI)) (ci := 5) (v := .ref (hQ 0)) (C := RX5) (T := TX5) (N := 19) hx hb hts iwsMX5_settle_in5 hown hK hP 0 rfl rfl 1 (by decide) (hts _ hm_m_X5_settle_1) (fun _ h9 => h9) rfl dX5_settle_63 ?_
              refine lv_iload_n hx hb dX5_settle_66 rfl (lv_at hl 2 rfl) ?_
              have p9 := cj_4_2_3 (WO hO aO kO hM hQ hw iO_answered iO_searched iO_searchedRelaxed iO_counted fO_countedCase gO_goalNumber gO_goalScale fO_start fO_column fO_chosen) (WM hM aM kM iM_stands iM_variables iM_rows iM_goals iM_differents iM_cases fM_from fM_to fM_whole fM_ways iM_plainRows fM_plainRow fM_kept fM_goalOver fM_goalUnder fM_goalMax fM_different) (WQ hQ aQ kQ hw fQ_inside_x4 fQ_outside_x4 fQ_shut_x4 iQ_rows iQ_allRows iQ_columns) (WW nW hw lw kw wl_x4 wb_x4 wG_x4)
              have hPc := hP.mem (fun q h => p9.mem_iff.mpr (List.mem_append_left _ h))
              have hDc := (hD.perm p9).left
              have hKc : va_K (dC, dI) vwCl (tQ kQ ++ (tW kw)) _ := hK.sub [20, 21, 22, 23, 24] rfl
              have hFc := freeG p9 hD hS hA
              refine va_calli (va_runV (As := [.int l2_x4]) (rest := []) ⟨hx, hb, hml, hown, hts⟩ (m_X6_holdAtNought l dC dI hQ aQ kQ hw fQ_inside_x4 fQ_outside_x4 fQ_shut_x4 iQ_rows iQ_allRows iQ_columns nW lw kw wl_x4 wb_x4 wG_x4 l2_x4 (b_iQ_rows) (b_iQ_allRows) (b_iQ_columns) (by first | with_reducible assumption | omega | assumption) b_wl_x4 b_wb_x4 (⟨b_l2_x4.1, Int.le_trans b_l2_x4.2 (by decide)⟩) (by omega) (FitR.small (I := 39) (C := 8) (by omega) (by omega) (by omega) (by omega) (by decide)) H.size) (cwV 1 hts gwsMX5_settle_2 rfl rfl rfl hd_yX6_holdAtNought_RX6 (by decide +kernel)) (fz_pre (va_recv hK hP (ci := 6) (q0 := 22) rfl rfl) hPc hKc hDc) rfl rfl hl.1 rfl (lv_room (Nat.le_of_ble_eq_true rfl)) dX5_settle_67 (by decide +kernel)) hS (fun q _ h => hFc q h) hFc (fun r30 u t9_ H locs ht hvm hw9 hB9 hz1 hk1 hS => ?_)
              revert u hw9 hB9
              refine fz_p6 ?_
              intro fQ_inside_30 fQ_outside_30 fQ_shut_30 wl_30 wb_30 wG_30 hw9 hB9
              try dsimp only at hw9 hB9
              revert hw9
              refine fz_a3 ?_
              intro b_wl_30 b_wb_30 b_r30
              have p8 := cj_4_2_3 (WO hO aO kO hM hQ hw iO_answered iO_searched iO_searchedRelaxed iO_counted fO_countedCase gO_goalNumber gO_goalScale fO_start fO_column fO_chosen) (WM hM aM kM iM_stands iM_variables iM_rows iM_goals iM_differents iM_cases fM_from fM_to fM_whole fM_ways iM_plainRows fM_plainRow fM_kept fM_goalOver fM_goalUnder fM_goalMax fM_different) (WQ hQ aQ kQ hw fQ_inside_30 fQ_outside_30 fQ_shut_30 iQ_rows iQ_allRows iQ_columns) (WW nW hw lw kw wl_30 wb_30 wG_30)
              obtain ⟨hP, hD⟩ := frameG p9 p8 hP hD hk1 hFc (fz_P ht hB9.1) hB9.2
              refine lv_if_ne (tgt := 75) hx hb dX5_settle_70 (by decide) (fun c_70 => ?_) (fun c_70 => ?_)
              · have t_70 : r30.toInt ≠ 0 := toI_ne c_70 rfl (by decide : (0 : Int32).toInt = 0)
                refine lv_iinc (v := (iI (l2_x4.toInt + 1))) hx hb dX5_settle_75 hl (k := 2) rfl (iI_add2 (iI_of _) (by decide : (1 : Int32) = iI 1)) (by decide) rfl (fun ls (hl : lv_has ls _ ([(2, .int (iI (l2_x4.toInt + 1))), (4, .int r29), (3, .int l3_x4), (0, .ref (hO 0)), (1, .int p1)])) => ?_)
                refine lv_iinc (v := (iI (l3_x4.toInt + 1))) hx hb dX5_settle_78 hl (k := 2) rfl (iI_add2 (iI_of _) (by decide : (1 : Int32) = iI 1)) (by decide) rfl (fun ls (hl : lv_has ls _ ([(3, .int (iI (l3_x4.toInt + 1))), (2, .int (iI (l2_x4.toInt + 1))), (4, .int r29), (0, .ref (hO 0)), (1, .int p1)])) => ?_)
                refine lv_goto (tgt := 4) hx hb dX5_settle_81 (by decide) ?_
                have hl : lv_has _ _ ([(3, .int (iI (l3_x4.toInt + 1))), (2, .int (iI (l2_x4.toInt + 1))), (0, .ref (hO 0)), (1, .int p1)]) := lv_sub hl [0, 1, 3, 4] rfl
                exact ihx4 fQ_inside_30 fQ_outside_30 fQ_shut_30 wl_30 wb_30 wG_30 (iI (l3_x4.toInt + 1)) (iI (l2_x4.toInt + 1)) _ _ _ b_wl_30 b_wb_30 (iI_rng (Int.le_trans (by decide) (Int.add_le_add (b_l3_x4.1) (Int.le_refl _))) (by omega) (by decide) (by decide)) (iI_rng (Int.le_trans (by decide) (Int.add_le_add (b_l2_x4.1) (Int.le_refl _))) (by omega) (by decide) (by decide)) (show (iI (l2_x4.toInt + 1)).toInt ≤ (iI (l3_x4.toInt + 1)).toInt from by (try rw [iI_t (E := l2_x4.toInt + 1) (by omega) (by omega)]); rw [iI_t (E := l3_x4.toInt + 1) (by omega) (by omega)]; omega) (by have e9 : ((iI (l3_x4.toInt + 1))).toInt = (l3_x4.toInt + 1) := (iI_t (Int.le_trans (by decide) (Int.add_le_add (b_l3_x4.1) (Int.le_refl _))) (Int.le_trans (Int.add_le_add (b_l3_x4.2) (Int.le_refl _)) (by decide))); omega) hP hD hS hl
              · have t_70 : r30.toInt = 0 := toI_nne c_70 rfl (by decide : (0 : Int32).toInt = 0)
                refine lv_iconst (v := 0) hx hb dX5_settle_73 (by decide) ?_
                refine W.widen (k := 0) (n := 0) (by decide +kernel) (by decide +kernel) ?_
                exact W.zret (v := 0) hx hb hr rfl (fun t9_ ht hW => ⟨⟨(0 : Int32), (fQ_inside_30, fQ_outside_30, fQ_shut_30, wl_30, wb_30, wG_30), rfl, ⟨b_wl_30, b_wb_30, (show 0 ≤ (0 : Int32).toInt ∧ (0 : Int32).toInt ≤ 1 from by decide)⟩, by rw [ht]; exact hP, hD⟩, hS.F ht⟩) hS.2.2 dX5_settle_74
theorem dX5_goalRow_0 : decode cX5_goalRow 0 = .ok (.aload_n 0, 1) := dk_42 (by decide +kernel)
theorem dX5_goalRow_1 : decode cX5_goalRow 1 = .ok (.getfield 12, 3) := dk_180 (by decide +kernel)
theorem dX5_goalRow_4 : decode cX5_goalRow 4 = .ok (.invokevirtual 221, 3) := dk_182 (by decide +kernel)
theorem dX5_goalRow_7 : decode cX5_goalRow 7 = .ok (.iload_n 1, 1) := dk_27 (by decide +kernel)
theorem dX5_goalRow_8 : decode cX5_goalRow 8 = .ok (.iadd, 1) := dk_96 (by decide +kernel)
theorem dX5_goalRow_9 : decode cX5_goalRow 9 = .ok (.ireturn, 1) := dk_172 (by decide +kernel)
def wsMX5_goalRow : List Cond := .code yX5_goalRow cX5_goalRow 2 (some .int) :: ([.fieldLink RX5 12 "OptimaWorks$Solver" "tableau" "LOptimaWorks$Tableau;"] ++ wsX50 ++ (wsV RX5 221 RX6 yX6_rowCount wsMX6_rowCount))
theorem iwsMX5_goalRow_in5 : ∀ w ∈ wsX50, w ∈ wsMX5_goalRow := fun _ h => List.mem_cons_of_mem _ (List.mem_append_left _ (List.mem_append_right _ h))
theorem gwsMX5_goalRow_0 : GoodIn wsMX5_goalRow (wsV RX5 221 RX6 yX6_rowCount wsMX6_rowCount) := goodIn_sub (fun _ h => List.mem_cons_of_mem _ (List.mem_append_right _ h)) (gdV (by decide +kernel) gdwsMX6_rowCount)
theorem gdwsMX5_goalRow : wsMX5_goalRow.all goodWord = true := gdC rfl (gdA (gdA (by decide +kernel : ([.fieldLink RX5 12 "OptimaWorks$Solver" "tableau" "LOptimaWorks$Tableau;"] : List Cond).all goodWord = true) gdwsX50) (gdV (by decide +kernel) gdwsMX6_rowCount))
set_option maxHeartbeats 4000000 in
set_option maxRecDepth 100000 in
/-- the row of a goal -/
theorem m_X5_goalRow (l : Launch) (dC : Nat → ClassId) (dI : Nat → Nat → Nat) (hO : Nat → Nat) (aO : Nat → Nat) (kO : Nat → ClassId) (hM : Nat → Nat) (hQ : Nat → Nat) (hw : Nat → Nat) (iO_answered : Int32) (iO_searched : Int32) (iO_searchedRelaxed : Int32) (iO_counted : Int32) (fO_countedCase : Nat → Int32) (gO_goalNumber : Nat → Int64) (gO_goalScale : Nat → Int64) (fO_start : Nat → Int32) (fO_column : Nat → Int32) (fO_chosen : Nat → Int32) (aM : Nat → Nat) (kM : Nat → ClassId) (iM_stands : Int32) (iM_variables : Int32) (iM_rows : Int32) (iM_goals : Int32) (iM_differents : Int32) (iM_cases : Int32) (fM_from : Nat → Int32) (fM_to : Nat → Int32) (fM_whole : Nat → Int32) (fM_ways : Nat → Int32) (iM_plainRows : Int32) (fM_plainRow : Nat → Int32) (fM_kept : Nat → Int32) (fM_goalOver : Nat → Int32) (fM_goalUnder : Nat → Int32) (fM_goalMax : Nat → Int32) (fM_different : Nat → Int32) (aQ : Nat → Nat) (kQ : Nat → ClassId) (fQ_inside : Nat → Int32) (fQ_outside : Nat → Int32) (fQ_shut : Nat → Int32) (iQ_rows : Int32) (iQ_allRows : Int32) (iQ_columns : Int32) (nW : Nat) (lw : Nat → Nat) (kw : ClassId) (wl : Nat → Int32) (wb : Nat → Int32) (wG : Nat → Nat → Int64) (p1 : Int32) (b_iO_answered : 0 ≤ iO_answered.toInt ∧ iO_answered.toInt ≤ 1) (b_iO_searched : 0 ≤ iO_searched.toInt ∧ iO_searched.toInt ≤ 1) (b_iO_searchedRelaxed : 0 ≤ iO_searchedRelaxed.toInt ∧ iO_searchedRelaxed.toInt ≤ 1) (b_iO_counted : (-1) ≤ iO_counted.toInt ∧ iO_counted.toInt ≤ 64) (b_fO_countedCase : ∀ q : Nat, 0 ≤ (fO_countedCase q).toInt ∧ (fO_countedCase q).toInt ≤ 200000) (b_fO_column : ∀ q : Nat, (-1) ≤ (fO_column q).toInt ∧ (fO_column q).toInt ≤ 8) (b_fO_chosen : ∀ q : Nat, 0 ≤ (fO_chosen q).toInt ∧ (fO_chosen q).toInt ≤ 2) (b_iM_stands : 0 ≤ iM_stands.toInt ∧ iM_stands.toInt ≤ 1) (b_iM_variables : 0 ≤ iM_variables.toInt ∧ iM_variables.toInt ≤ 8) (b_iM_rows : 0 ≤ iM_rows.toInt ∧ iM_rows.toInt ≤ 12) (b_iM_goals : 0 ≤ iM_goals.toInt ∧ iM_goals.toInt ≤ 3) (b_iM_differents : 0 ≤ iM_differents.toInt ∧ iM_differents.toInt ≤ 8) (b_iM_cases : 0 ≤ iM_cases.toInt ∧ iM_cases.toInt ≤ 200000) (b_fM_ways : ∀ q : Nat, 0 ≤ (fM_ways q).toInt ∧ (fM_ways q).toInt ≤ 3) (b_iM_plainRows : 0 ≤ iM_plainRows.toInt ∧ iM_plainRows.toInt ≤ 12) (b_fM_plainRow : ∀ q : Nat, 0 ≤ (fM_plainRow q).toInt ∧ (fM_plainRow q).toInt ≤ 11) (b_pr : iM_plainRows.toInt ≤ iM_rows.toInt) (b_iQ_rows : 0 ≤ iQ_rows.toInt ∧ iQ_rows.toInt ≤ 40) (b_iQ_allRows : 0 ≤ iQ_allRows.toInt ∧ iQ_allRows.toInt ≤ 40) (b_iQ_columns : 0 ≤ iQ_columns.toInt ∧ iQ_columns.toInt ≤ 40) (b_tb : TbO iQ_rows iQ_allRows iQ_columns) (b_wl : ∀ q : Nat, 0 ≤ (wl q).toInt ∧ (wl q).toInt ≤ 14) (b_wb : ∀ q : Nat, 0 ≤ (wb q).toInt ∧ (wb q).toInt ≤ 1) (b_p1 : 0 ≤ p1.toInt ∧ p1.toInt ≤ 2) (hnW : 432 ≤ nW) (hr20 : iQ_rows.toInt ≤ 20) (sz : Nat) : Met l yX5_goalRow wsMX5_goalRow ({ frames := 1, cells := 0, slots := 0, locals := 20 }) (va_Pc [.ref (hO 0), .int p1] (fun U => U.heap.size = sz ∧ va_P (dC, dI) vwCl (WO hO aO kO hM hQ hw iO_answered iO_searched iO_searchedRelaxed iO_counted fO_countedCase gO_goalNumber gO_goalScale fO_start fO_column fO_chosen ++ (WM hM aM kM iM_stands iM_variables iM_rows iM_goals iM_differents iM_cases fM_from fM_to fM_whole fM_ways iM_plainRows fM_plainRow fM_kept fM_goalOver fM_goalUnder fM_goalMax fM_different ++ (WQ hQ aQ kQ hw fQ_inside fQ_outside fQ_shut iQ_rows iQ_allRows iQ_columns ++ (WW nW hw lw kw wl wb wG)))) U.heap ∧ va_K (dC, dI) vwCl (tO kO ++ (tM kM ++ (tQ kQ ++ (tW kw)))) U ∧ va_D (fun _ => True) (WO hO aO kO hM hQ hw iO_answered iO_searched iO_searchedRelaxed iO_counted fO_countedCase gO_goalNumber gO_goalScale fO_start fO_column fO_chosen ++ (WM hM aM kM iM_stands iM_variables iM_rows iM_goals iM_differents iM_cases fM_from fM_to fM_whole fM_ways iM_plainRows fM_plainRow fM_kept fM_goalOver fM_goalUnder fM_goalMax fM_different ++ (WQ hQ aQ kQ hw fQ_inside fQ_outside fQ_shut iQ_rows iQ_allRows iQ_columns ++ (WW nW hw lw kw wl wb wG)))))) (va_Qi (fun (r : Int32) (u : Unit) => (0 ≤ r.toInt ∧ r.toInt ≤ 22)) (fun (u : Unit) t => va_P (dC, dI) vwCl (WO hO aO kO hM hQ hw iO_answered iO_searched iO_searchedRelaxed iO_counted fO_countedCase gO_goalNumber gO_goalScale fO_start fO_column fO_chosen ++ (WM hM aM kM iM_stands iM_variables iM_rows iM_goals iM_differents iM_cases fM_from fM_to fM_whole fM_ways iM_plainRows fM_plainRow fM_kept fM_goalOver fM_goalUnder fM_goalMax fM_different ++ (WQ hQ aQ kQ hw fQ_inside fQ_outside fQ_shut iQ_rows iQ_allRows iQ_columns ++ (WW nW hw lw kw wl wb wG)))) t.heap ∧ va_D (va_A (WO hO aO kO hM hQ hw iO_answered iO_searched iO_searchedRelaxed iO_counted fO_countedCase gO_goalNumber gO_goalScale fO_start fO_column fO_chosen ++ (WM hM aM kM iM_stands iM_variables iM_rows iM_goals iM_differents iM_cases fM_from fM_to fM_whole fM_ways iM_plainRows fM_plainRow fM_kept fM_goalOver fM_goalUnder fM_goalMax fM_different ++ (WQ hQ aQ kQ hw fQ_inside fQ_outside fQ_shut iQ_rows iQ_allRows iQ_columns ++ (WW nW hw lw kw wl wb wG)))) sz) (WO hO aO kO hM hQ hw iO_answered iO_searched iO_searchedRelaxed iO_counted fO_countedCase gO_goalNumber gO_goalScale fO_start fO_column fO_chosen ++ (WM hM aM kM iM_stands iM_variables iM_rows iM_goals iM_differents iM_cases fM_from fM_to fM_whole fM_ways iM_plainRows fM_plainRow fM_kept fM_goalOver fM_goalUnder fM_goalMax fM_different ++ (WQ hQ aQ kQ hw fQ_inside fQ_outside fQ_shut iQ_rows iQ_allRows iQ_columns ++ (WW nW hw lw kw wl wb wG))))) (va_A (WO hO aO kO hM hQ hw iO_answered iO_searched iO_searchedRelaxed iO_counted fO_countedCase gO_goalNumber gO_goalScale fO_start fO_column fO_chosen ++ (WM hM aM kM iM_stands iM_variables iM_rows iM_goals iM_differents iM_cases fM_from fM_to fM_whole fM_ways iM_plainRows fM_plainRow fM_kept fM_goalOver fM_goalUnder fM_goalMax fM_different ++ (WQ hQ aQ kQ hw fQ_inside fQ_outside fQ_shut iQ_rows iQ_allRows iQ_columns ++ (WW nW hw lw kw wl wb wG)))) sz)) 0 0 (va_A (WO hO aO kO hM hQ hw iO_answered iO_searched iO_searchedRelaxed iO_counted fO_countedCase gO_goalNumber gO_goalScale fO_start fO_column fO_chosen ++ (WM hM aM kM iM_stands iM_variables iM_rows iM_goals iM_differents iM_cases fM_from fM_to fM_whole fM_ways iM_plainRows fM_plainRow fM_kept fM_goalOver fM_goalUnder fM_goalMax fM_different ++ (WQ hQ aQ kQ hw fQ_inside fQ_outside fQ_shut iQ_rows iQ_allRows iQ_columns ++ (WW nW hw lw kw wl wb wG)))) sz) := by
  refine Met.ofW (cc := cX5_goalRow) (maxL := 2) (ret := (some .int)) (by decide) rfl ?_
  intro p e s m args below meth c s₁ B hml hv
  obtain ⟨rfl, hsz, hP, hK, hD0⟩ := hv
  have hx := B.exec
  have hb := B.bytes
  have hr := B.returns
  have hts := atoms_spec (ws := wsMX5_goalRow) B.pre
  have hown : s.vm.findClass RX5 = some m.cls := findClass_of_methodNamed B.named
  have hlocks := B.notSynchronized
  subst hsz
  have hD := hD0.self (sz := s.heap.size)
  generalize hAe : va_A (WO hO aO kO hM hQ hw iO_answered iO_searched iO_searchedRelaxed iO_counted fO_countedCase gO_goalNumber gO_goalScale fO_start fO_column fO_chosen ++ (WM hM aM kM iM_stands iM_variables iM_rows iM_goals iM_differents iM_cases fM_from fM_to fM_whole fM_ways iM_plainRows fM_plainRow fM_kept fM_goalOver fM_goalUnder fM_goalMax fM_different ++ (WQ hQ aQ kQ hw fQ_inside fQ_outside fQ_shut iQ_rows iQ_allRows iQ_columns ++ (WW nW hw lw kw wl wb wG)))) s.heap.size = A at hD ⊢
  have hA : ∀ q : Nat, s.heap.size ≤ q → A q := fun q h => by rw [← hAe]; exact Or.inr h
  have hS : va_S A s.heap s.heap [] := va_S.rf
  have hl := lv_entry ([.ref (hO 0), .int p1]) (n := 2) (Nat.le_of_ble_eq_true rfl)
  rw [lg_entry_eq]
  generalize (lg_sl ([.ref (hO 0), .int p1]) ++ List.replicate (2 - (lg_sl ([.ref (hO 0), .int p1])).length) Slot.unset).toArray = ls at hl ⊢
  have hl : lv_has ls 2 [(0, .ref (hO 0)), (1, .int p1)] := hl
  refine lv_aload_n hx hb dX5_goalRow_0 rfl (lv_at hl 0 rfl) ?_
  refine va_get (D := (dC, dI)) (ci := 5) (v := .ref (hQ 0)) (C := RX5) (T := TX5) (N := 19) hx hb hts iwsMX5_goalRow_in5 hown hK hP 0 rfl rfl 1 (by decide) (hts (.fieldLink RX5 12 "OptimaWorks$Solver" "tableau" "LOptimaWorks$Tableau;") (by decide +kernel)) (fun _ h9 => h9) rfl dX5_goalRow_1 ?_
  have p9 := cj_4_2_3 (WO hO aO kO hM hQ hw iO_answered iO_searched iO_searchedRelaxed iO_counted fO_countedCase gO_goalNumber gO_goalScale fO_start fO_column fO_chosen) (WM hM aM kM iM_stands iM_variables iM_rows iM_goals iM_differents iM_cases fM_from fM_to fM_whole fM_ways iM_plainRows fM_plainRow fM_kept fM_goalOver fM_goalUnder fM_goalMax fM_different) (WQ hQ aQ kQ hw fQ_inside fQ_outside fQ_shut iQ_rows iQ_allRows iQ_columns) (WW nW hw lw kw wl wb wG)
  have hPc := hP.mem (fun q h => p9.mem_iff.mpr (List.mem_append_left _ h))
  have hDc := (hD.perm p9).left
  have hKc : va_K (dC, dI) vwCl (tQ kQ ++ (tW kw)) _ := hK.sub [20, 21, 22, 23, 24] rfl
  have hFc := freeG p9 hD hS hA
  refine va_calli (va_runV (As := []) (rest := []) ⟨hx, hb, hml, hown, hts⟩ (m_X6_rowCount l dC dI hQ aQ kQ hw fQ_inside fQ_outside fQ_shut iQ_rows iQ_allRows iQ_columns nW lw kw wl wb wG (b_iQ_rows) (b_iQ_allRows) (b_iQ_columns) (by first | with_reducible assumption | omega | assumption) b_wl b_wb (by omega) s.heap.size) (cwV 0 hts gwsMX5_goalRow_0 rfl rfl rfl hd_yX6_rowCount_RX6 (by decide +kernel)) (fz_pre (va_recv hK hP (ci := 6) (q0 := 22) rfl rfl) hPc hKc hDc) rfl rfl hl.1 rfl (lv_room (Nat.le_of_ble_eq_true rfl)) dX5_goalRow_4 (by decide +kernel)) hS (fun q _ h => hFc q h) hFc (fun r1 u t9_ H locs ht hvm hw9 hB9 hz1 hk1 hS => ?_)
  revert hw9
  refine fz_a2 ?_
  intro b_r1 f1_0
  have p8 := p9
  obtain ⟨hP, hD⟩ := frameG p9 p8 hP hD hk1 hFc (fz_P ht hB9.1) hB9.2
  refine lv_iload_n hx hb dX5_goalRow_7 rfl (lv_at hl 1 rfl) ?_
  refine lv_iadd hx hb dX5_goalRow_8 ?_
  refine lv_topi (fun y2 hy2 => ?_)
  obtain rfl : (iI (r1.toInt + p1.toInt)) = y2 := (hy2.trans (iI_add2 (iI_of _) (iI_of _))).symm
  refine W.widen (k := 0) (n := 0) (by decide +kernel) (by decide +kernel) ?_
  exact W.iret (v := (iI (r1.toInt + p1.toInt))) hx hb hr (fun t9_ ht hW => ⟨⟨(iI (r1.toInt + p1.toInt)), (), rfl, (iI_rng (by omega) (by omega) (by decide) (by decide)), by rw [ht]; exact hP, hD⟩, hS.F ht⟩) hS.2.2 dX5_goalRow_9
theorem dX5_compare_0 : decode cX5_compare 0 = .ok (.aload_n 0, 1) := dk_42 (by decide +kernel)
theorem dX5_compare_1 : decode cX5_compare 1 = .ok (.getfield 71, 3) := dk_180 (by decide +kernel)
theorem dX5_compare_4 : decode cX5_compare 4 = .ok (.iconst 0, 1) := dk_3 (by decide +kernel)
theorem dX5_compare_5 : decode cX5_compare 5 = .ok (.aaload, 1) := dk_50 (by decide +kernel)
theorem dX5_compare_6 : decode cX5_compare 6 = .ok (.aload_n 1, 1) := dk_43 (by decide +kernel)
theorem dX5_compare_7 : decode cX5_compare 7 = .ok (.aload_n 0, 1) := dk_42 (by decide +kernel)
theorem dX5_compare_8 : decode cX5_compare 8 = .ok (.getfield 58, 3) := dk_180 (by decide +kernel)
theorem dX5_compare_11 : decode cX5_compare 11 = .ok (.invokevirtual 249, 3) := dk_182 (by decide +kernel)
theorem dX5_compare_14 : decode cX5_compare 14 = .ok (.aload_n 0, 1) := dk_42 (by decide +kernel)
theorem dX5_compare_15 : decode cX5_compare 15 = .ok (.getfield 71, 3) := dk_180 (by decide +kernel)
theorem dX5_compare_18 : decode cX5_compare 18 = .ok (.iconst 1, 1) := dk_4 (by decide +kernel)
theorem dX5_compare_19 : decode cX5_compare 19 = .ok (.aaload, 1) := dk_50 (by decide +kernel)
theorem dX5_compare_20 : decode cX5_compare 20 = .ok (.aload_n 2, 1) := dk_44 (by decide +kernel)
theorem dX5_compare_21 : decode cX5_compare 21 = .ok (.aload_n 0, 1) := dk_42 (by decide +kernel)
theorem dX5_compare_22 : decode cX5_compare 22 = .ok (.getfield 12, 3) := dk_180 (by decide +kernel)
theorem dX5_compare_25 : decode cX5_compare 25 = .ok (.getfield 253, 3) := dk_180 (by decide +kernel)
theorem dX5_compare_28 : decode cX5_compare 28 = .ok (.invokevirtual 249, 3) := dk_182 (by decide +kernel)
theorem dX5_compare_31 : decode cX5_compare 31 = .ok (.aload_n 0, 1) := dk_42 (by decide +kernel)
theorem dX5_compare_32 : decode cX5_compare 32 = .ok (.getfield 71, 3) := dk_180 (by decide +kernel)
theorem dX5_compare_35 : decode cX5_compare 35 = .ok (.iconst 1, 1) := dk_4 (by decide +kernel)
theorem dX5_compare_36 : decode cX5_compare 36 = .ok (.aaload, 1) := dk_50 (by decide +kernel)
theorem dX5_compare_37 : decode cX5_compare 37 = .ok (.invokevirtual 256, 3) := dk_182 (by decide +kernel)
theorem dX5_compare_40 : decode cX5_compare 40 = .ok (.aload_n 0, 1) := dk_42 (by decide +kernel)
theorem dX5_compare_41 : decode cX5_compare 41 = .ok (.getfield 71, 3) := dk_180 (by decide +kernel)
theorem dX5_compare_44 : decode cX5_compare 44 = .ok (.iconst 0, 1) := dk_3 (by decide +kernel)
theorem dX5_compare_45 : decode cX5_compare 45 = .ok (.aaload, 1) := dk_50 (by decide +kernel)
theorem dX5_compare_46 : decode cX5_compare 46 = .ok (.aload_n 0, 1) := dk_42 (by decide +kernel)
theorem dX5_compare_47 : decode cX5_compare 47 = .ok (.getfield 71, 3) := dk_180 (by decide +kernel)
theorem dX5_compare_50 : decode cX5_compare 50 = .ok (.iconst 1, 1) := dk_4 (by decide +kernel)
theorem dX5_compare_51 : decode cX5_compare 51 = .ok (.aaload, 1) := dk_50 (by decide +kernel)
theorem dX5_compare_52 : decode cX5_compare 52 = .ok (.invokevirtual 259, 3) := dk_182 (by decide +kernel)
theorem dX5_compare_55 : decode cX5_compare 55 = .ok (.aload_n 0, 1) := dk_42 (by decide +kernel)
theorem dX5_compare_56 : decode cX5_compare 56 = .ok (.getfield 71, 3) := dk_180 (by decide +kernel)
theorem dX5_compare_59 : decode cX5_compare 59 = .ok (.iconst 0, 1) := dk_3 (by decide +kernel)
theorem dX5_compare_60 : decode cX5_compare 60 = .ok (.aaload, 1) := dk_50 (by decide +kernel)
theorem dX5_compare_61 : decode cX5_compare 61 = .ok (.invokevirtual 263, 3) := dk_182 (by decide +kernel)
theorem dX5_compare_64 : decode cX5_compare 64 = .ok (.ireturn, 1) := dk_172 (by decide +kernel)
def wsMX5_compare : List Cond := .code yX5_compare cX5_compare 3 (some .int) :: ([.fieldLink RX5 71 "OptimaWorks$Solver" "spare" "[LOptimaWorks$Whole;", .fieldLink RX5 58 "OptimaWorks$Solver" "answerUnder" "LOptimaWorks$Whole;", .fieldLink RX5 12 "OptimaWorks$Solver" "tableau" "LOptimaWorks$Tableau;", .fieldLink RX5 253 "OptimaWorks$Tableau" "under" "LOptimaWorks$Whole;"] ++ wsX50 ++ wsX60 ++ (wsV RX5 249 RX8 yX8_setProduct wsMX8_setProduct) ++ (wsV RX5 256 RX8 yX8_negate wsMX8_negate) ++ (wsV RX5 259 RX8 yX8_add wsMX8_add) ++ (wsV RX5 263 RX8 yX8_sign wsMX8_sign))
theorem iwsMX5_compare_in5 : ∀ w ∈ wsX50, w ∈ wsMX5_compare := fun _ h => List.mem_cons_of_mem _ (List.mem_append_left _ (List.mem_append_left _ (List.mem_append_left _ (List.mem_append_left _ (List.mem_append_left _ (List.mem_append_right _ h))))))
theorem iwsMX5_compare_in6 : ∀ w ∈ wsX60, w ∈ wsMX5_compare := fun _ h => List.mem_cons_of_mem _ (List.mem_append_left _ (List.mem_append_left _ (List.mem_append_left _ (List.mem_append_left _ (List.mem_append_right _ h)))))
theorem gwsMX5_compare_0 : GoodIn wsMX5_compare (wsV RX5 249 RX8 yX8_setProduct wsMX8_setProduct) := goodIn_sub (fun _ h => List.mem_cons_of_mem _ (List.mem_append_left _ (List.mem_append_left _ (List.mem_append_left _ (List.mem_append_right _ h))))) (gdV (by decide +kernel) gdwsMX8_setProduct)
theorem gwsMX5_compare_1 : GoodIn wsMX5_compare (wsV RX5 256 RX8 yX8_negate wsMX8_negate) := goodIn_sub (fun _ h => List.mem_cons_of_mem _ (List.mem_append_left _ (List.mem_append_left _ (List.mem_append_right _ h)))) (gdV (by decide +kernel) gdwsMX8_negate)
theorem gwsMX5_compare_2 : GoodIn wsMX5_compare (wsV RX5 259 RX8 yX8_add wsMX8_add) := goodIn_sub (fun _ h => List.mem_cons_of_mem _ (List.mem_append_left _ (List.mem_append_right _ h))) (gdV (by decide +kernel) gdwsMX8_add)
theorem gwsMX5_compare_3 : GoodIn wsMX5_compare (wsV RX5 263 RX8 yX8_sign wsMX8_sign) := goodIn_sub (fun _ h => List.mem_cons_of_mem _ (List.mem_append_right _ h)) (gdV (by decide +kernel) gdwsMX8_sign)
theorem gdwsMX5_compare : wsMX5_compare.all goodWord = true := gdC rfl (gdA (gdA (gdA (gdA (gdA (gdA (by decide +kernel : ([.fieldLink RX5 71 "OptimaWorks$Solver" "spare" "[LOptimaWorks$Whole;", .fieldLink RX5 58 "OptimaWorks$Solver" "answerUnder" "LOptimaWorks$Whole;", .fieldLink RX5 12 "OptimaWorks$Solver" "tableau" "LOptimaWorks$Tableau;", .fieldLink RX5 253 "OptimaWorks$Tableau" "under" "LOptimaWorks$Whole;"] : List Cond).all goodWord = true) gdwsX50) gdwsX60) (gdV (by decide +kernel) gdwsMX8_setProduct)) (gdV (by decide +kernel) gdwsMX8_negate)) (gdV (by decide +kernel) gdwsMX8_add)) (gdV (by decide +kernel) gdwsMX8_sign))
theorem hm_m_X5_compare_0 : (.fieldLink RX5 71 "OptimaWorks$Solver" "spare" "[LOptimaWorks$Whole;" : Cond) ∈ wsMX5_compare := by decide +kernel
set_option maxHeartbeats 4000000 in
set_option maxRecDepth 100000 in
/-- against the answer -/
theorem m_X5_compare (l : Launch) (dC : Nat → ClassId) (dI : Nat → Nat → Nat) (hO : Nat → Nat) (aO : Nat → Nat) (kO : Nat → ClassId) (hM : Nat → Nat) (hQ : Nat → Nat) (hw : Nat → Nat) (iO_answered : Int32) (iO_searched : Int32) (iO_searchedRelaxed : Int32) (iO_counted : Int32) (fO_countedCase : Nat → Int32) (gO_goalNumber : Nat → Int64) (gO_goalScale : Nat → Int64) (fO_start : Nat → Int32) (fO_column : Nat → Int32) (fO_chosen : Nat → Int32) (aM : Nat → Nat) (kM : Nat → ClassId) (iM_stands : Int32) (iM_variables : Int32) (iM_rows : Int32) (iM_goals : Int32) (iM_differents : Int32) (iM_cases : Int32) (fM_from : Nat → Int32) (fM_to : Nat → Int32) (fM_whole : Nat → Int32) (fM_ways : Nat → Int32) (iM_plainRows : Int32) (fM_plainRow : Nat → Int32) (fM_kept : Nat → Int32) (fM_goalOver : Nat → Int32) (fM_goalUnder : Nat → Int32) (fM_goalMax : Nat → Int32) (fM_different : Nat → Int32) (aQ : Nat → Nat) (kQ : Nat → ClassId) (fQ_inside : Nat → Int32) (fQ_outside : Nat → Int32) (fQ_shut : Nat → Int32) (iQ_rows : Int32) (iQ_allRows : Int32) (iQ_columns : Int32) (nW : Nat) (lw : Nat → Nat) (kw : ClassId) (wl : Nat → Int32) (wb : Nat → Int32) (wG : Nat → Nat → Int64) (ka : Nat) (kb : Nat) (b_iO_answered : 0 ≤ iO_answered.toInt ∧ iO_answered.toInt ≤ 1) (b_iO_searched : 0 ≤ iO_searched.toInt ∧ iO_searched.toInt ≤ 1) (b_iO_searchedRelaxed : 0 ≤ iO_searchedRelaxed.toInt ∧ iO_searchedRelaxed.toInt ≤ 1) (b_iO_counted : (-1) ≤ iO_counted.toInt ∧ iO_counted.toInt ≤ 64) (b_fO_countedCase : ∀ q : Nat, 0 ≤ (fO_countedCase q).toInt ∧ (fO_countedCase q).toInt ≤ 200000) (b_fO_column : ∀ q : Nat, (-1) ≤ (fO_column q).toInt ∧ (fO_column q).toInt ≤ 8) (b_fO_chosen : ∀ q : Nat, 0 ≤ (fO_chosen q).toInt ∧ (fO_chosen q).toInt ≤ 2) (b_iM_stands : 0 ≤ iM_stands.toInt ∧ iM_stands.toInt ≤ 1) (b_iM_variables : 0 ≤ iM_variables.toInt ∧ iM_variables.toInt ≤ 8) (b_iM_rows : 0 ≤ iM_rows.toInt ∧ iM_rows.toInt ≤ 12) (b_iM_goals : 0 ≤ iM_goals.toInt ∧ iM_goals.toInt ≤ 3) (b_iM_differents : 0 ≤ iM_differents.toInt ∧ iM_differents.toInt ≤ 8) (b_iM_cases : 0 ≤ iM_cases.toInt ∧ iM_cases.toInt ≤ 200000) (b_fM_ways : ∀ q : Nat, 0 ≤ (fM_ways q).toInt ∧ (fM_ways q).toInt ≤ 3) (b_iM_plainRows : 0 ≤ iM_plainRows.toInt ∧ iM_plainRows.toInt ≤ 12) (b_fM_plainRow : ∀ q : Nat, 0 ≤ (fM_plainRow q).toInt ∧ (fM_plainRow q).toInt ≤ 11) (b_pr : iM_plainRows.toInt ≤ iM_rows.toInt) (b_iQ_rows : 0 ≤ iQ_rows.toInt ∧ iQ_rows.toInt ≤ 40) (b_iQ_allRows : 0 ≤ iQ_allRows.toInt ∧ iQ_allRows.toInt ≤ 40) (b_iQ_columns : 0 ≤ iQ_columns.toInt ∧ iQ_columns.toInt ≤ 40) (b_tb : TbO iQ_rows iQ_allRows iQ_columns) (b_wl : ∀ q : Nat, 0 ≤ (wl q).toInt ∧ (wl q).toInt ≤ 14) (b_wb : ∀ q : Nat, 0 ≤ (wb q).toInt ∧ (wb q).toInt ≤ 1) (hnW : 432 ≤ nW) (hka : ka < nW) (hkb : kb < nW) (sz : Nat) : Met l yX5_compare wsMX5_compare ({ frames := 3, cells := 0, slots := 0, locals := 61 }) (va_Pc [.ref (hO 0), .ref (hw ka), .ref (hw kb)] (fun U => U.heap.size = sz ∧ va_P (dC, dI) vwCl (WO hO aO kO hM hQ hw iO_answered iO_searched iO_searchedRelaxed iO_counted fO_countedCase gO_goalNumber gO_goalScale fO_start fO_column fO_chosen ++ (WM hM aM kM iM_stands iM_variables iM_rows iM_goals iM_differents iM_cases fM_from fM_to fM_whole fM_ways iM_plainRows fM_plainRow fM_kept fM_goalOver fM_goalUnder fM_goalMax fM_different ++ (WQ hQ aQ kQ hw fQ_inside fQ_outside fQ_shut iQ_rows iQ_allRows iQ_columns ++ (WW nW hw lw kw wl wb wG)))) U.heap ∧ va_K (dC, dI) vwCl (tO kO ++ (tM kM ++ (tQ kQ ++ (tW kw)))) U ∧ va_D (fun _ => True) (WO hO aO kO hM hQ hw iO_answered iO_searched iO_searchedRelaxed iO_counted fO_countedCase gO_goalNumber gO_goalScale fO_start fO_column fO_chosen ++ (WM hM aM kM iM_stands iM_variables iM_rows iM_goals iM_differents iM_cases fM_from fM_to fM_whole fM_ways iM_plainRows fM_plainRow fM_kept fM_goalOver fM_goalUnder fM_goalMax fM_different ++ (WQ hQ aQ kQ hw fQ_inside fQ_outside fQ_shut iQ_rows iQ_allRows iQ_columns ++ (WW nW hw lw kw wl wb wG)))))) (va_Qi (fun (r : Int32) (u : (Nat → Int32) × (Nat → Int32) × (Nat → Nat → Int64)) => (∀ q : Nat, 0 ≤ ((u.1) q).toInt ∧ ((u.1) q).toInt ≤ 14) ∧ (∀ q : Nat, 0 ≤ ((u.2.1) q).toInt ∧ ((u.2.1) q).toInt ≤ 1) ∧ ((-1) ≤ r.toInt ∧ r.toInt ≤ 1)) (fun (u : (Nat → Int32) × (Nat → Int32) × (Nat → Nat → Int64)) t => va_P (dC, dI) vwCl (WO hO aO kO hM hQ hw iO_answered iO_searched iO_searchedRelaxed iO_counted fO_countedCase gO_goalNumber gO_goalScale fO_start fO_column fO_chosen ++ (WM hM aM kM iM_stands iM_variables iM_rows iM_goals iM_differents iM_cases fM_from fM_to fM_whole fM_ways iM_plainRows fM_plainRow fM_kept fM_goalOver fM_goalUnder fM_goalMax fM_different ++ (WQ hQ aQ kQ hw fQ_inside fQ_outside fQ_shut iQ_rows iQ_allRows iQ_columns ++ (WW nW hw lw kw (u.1) (u.2.1) (u.2.2))))) t.heap ∧ va_D (va_A (WO hO aO kO hM hQ hw iO_answered iO_searched iO_searchedRelaxed iO_counted fO_countedCase gO_goalNumber gO_goalScale fO_start fO_column fO_chosen ++ (WM hM aM kM iM_stands iM_variables iM_rows iM_goals iM_differents iM_cases fM_from fM_to fM_whole fM_ways iM_plainRows fM_plainRow fM_kept fM_goalOver fM_goalUnder fM_goalMax fM_different ++ (WQ hQ aQ kQ hw fQ_inside fQ_outside fQ_shut iQ_rows iQ_allRows iQ_columns ++ (WW nW hw lw kw wl wb wG)))) sz) (WO hO aO kO hM hQ hw iO_answered iO_searched iO_searchedRelaxed iO_counted fO_countedCase gO_goalNumber gO_goalScale fO_start fO_column fO_chosen ++ (WM hM aM kM iM_stands iM_variables iM_rows iM_goals iM_differents iM_cases fM_from fM_to fM_whole fM_ways iM_plainRows fM_plainRow fM_kept fM_goalOver fM_goalUnder fM_goalMax fM_different ++ (WQ hQ aQ kQ hw fQ_inside fQ_outside fQ_shut iQ_rows iQ_allRows iQ_columns ++ (WW nW hw lw kw (u.1) (u.2.1) (u.2.2)))))) (va_A (WO hO aO kO hM hQ hw iO_answered iO_searched iO_searchedRelaxed iO_counted fO_countedCase gO_goalNumber gO_goalScale fO_start fO_column fO_chosen ++ (WM hM aM kM iM_stands iM_variables iM_rows iM_goals iM_differents iM_cases fM_from fM_to fM_whole fM_ways iM_plainRows fM_plainRow fM_kept fM_goalOver fM_goalUnder fM_goalMax fM_different ++ (WQ hQ aQ kQ hw fQ_inside fQ_outside fQ_shut iQ_rows iQ_allRows iQ_columns ++ (WW nW hw lw kw wl wb wG)))) sz)) 0 0 (va_A (WO hO aO kO hM hQ hw iO_answered iO_searched iO_searchedRelaxed iO_counted fO_countedCase gO_goalNumber gO_goalScale fO_start fO_column fO_chosen ++ (WM hM aM kM iM_stands iM_variables iM_rows iM_goals iM_differents iM_cases fM_from fM_to fM_whole fM_ways iM_plainRows fM_plainRow fM_kept fM_goalOver fM_goalUnder fM_goalMax fM_different ++ (WQ hQ aQ kQ hw fQ_inside fQ_outside fQ_shut iQ_rows iQ_allRows iQ_columns ++ (WW nW hw lw kw wl wb wG)))) sz) := by
  refine Met.ofW (cc := cX5_compare) (maxL := 3) (ret := (some .int)) (by decide) rfl ?_
  intro p e s m args below meth c s₁ B hml hv
  obtain ⟨rfl, hsz, hP, hK, hD0⟩ := hv
  have hx := B.exec
  have hb := B.bytes
  have hr := B.returns
  have hts := atoms_spec (ws := wsMX5_compare) B.pre
  have hown : s.vm.findClass RX5 = some m.cls := findClass_of_methodNamed B.named
  have hlocks := B.notSynchronized
  subst hsz
  have hD := hD0.self (sz := s.heap.size)
  generalize hAe : va_A (WO hO aO kO hM hQ hw iO_answered iO_searched iO_searchedRelaxed iO_counted fO_countedCase gO_goalNumber gO_goalScale fO_start fO_column fO_chosen ++ (WM hM aM kM iM_stands iM_variables iM_rows iM_goals iM_differents iM_cases fM_from fM_to fM_whole fM_ways iM_plainRows fM_plainRow fM_kept fM_goalOver fM_goalUnder fM_goalMax fM_different ++ (WQ hQ aQ kQ hw fQ_inside fQ_outside fQ_shut iQ_rows iQ_allRows iQ_columns ++ (WW nW hw lw kw wl wb wG)))) s.heap.size = A at hD ⊢
  have hA : ∀ q : Nat, s.heap.size ≤ q → A q := fun q h => by rw [← hAe]; exact Or.inr h
  have hS : va_S A s.heap s.heap [] := va_S.rf
  have hl := lv_entry ([.ref (hO 0), .ref (hw ka), .ref (hw kb)]) (n := 3) (Nat.le_of_ble_eq_true rfl)
  rw [lg_entry_eq]
  generalize (lg_sl ([.ref (hO 0), .ref (hw ka), .ref (hw kb)]) ++ List.replicate (3 - (lg_sl ([.ref (hO 0), .ref (hw ka), .ref (hw kb)])).length) Slot.unset).toArray = ls at hl ⊢
  have hl : lv_has ls 3 [(0, .ref (hO 0)), (1, .ref (hw ka)), (2, .ref (hw kb))] := hl
  refine lv_aload_n hx hb dX5_compare_0 rfl (lv_at hl 0 rfl) ?_
  refine va_get (D := (dC, dI)) (ci := 5) (v := .ref (aO 9)) (C := RX5) (T := TX5) (N := 19) hx hb hts iwsMX5_compare_in5 hown hK hP 0 rfl rfl 18 (by decide) (hts _ hm_m_X5_compare_0) (fun _ h9 => h9) rfl dX5_compare_1 ?_
  refine lv_iconst (v := 0) hx hb dX5_compare_4 (by decide) ?_
  refine va_aldq (cA := kO 9) (n := 4) (f := fun q => some (hw (428 + q))) hx hb hK hP 10 9 rfl rfl (show ¬ ((0 : Int32) < 0 ∨ 4 ≤ (0 : Int32).toNatClampNeg) by decide) dX5_compare_5 ?_
  obtain ⟨k1, hk1, b_k1⟩ : ∃ k9 : Nat, k9 = 428 + (0 : Int32).toNatClampNeg ∧ (428 ≤ k9 ∧ k9 < 432 ∧ (k9 : Int) = 428 + 0) := ⟨_, rfl, ald_k (x := (0 : Int32)) (o := 428) (n := 4) (by decide : (0 : Int32).toInt = 0) (by omega) (by omega)⟩
  refine W.eq (g2 := F0 m 6 ls [.ref (hw k1)]) (by rw [hk1]; rfl) ?_
  clear hk1
  refine lv_aload_n hx hb dX5_compare_6 rfl (lv_at hl 1 rfl) ?_
  refine lv_aload_n hx hb dX5_compare_7 rfl (lv_at hl 0 rfl) ?_
  refine va_get (D := (dC, dI)) (ci := 5) (v := .ref (hw 417)) (C := RX5) (T := TX5) (N := 19) hx hb hts iwsMX5_compare_in5 hown hK hP 0 rfl rfl 14 (by decide) (hts (.fieldLink RX5 58 "OptimaWorks$Solver" "answerUnder" "LOptimaWorks$Whole;") (by decide +kernel)) (fun _ h9 => h9) rfl dX5_compare_8 ?_
  have p9 := cj_4_3 (WO hO aO kO hM hQ hw iO_answered iO_searched iO_searchedRelaxed iO_counted fO_countedCase gO_goalNumber gO_goalScale fO_start fO_column fO_chosen) (WM hM aM kM iM_stands iM_variables iM_rows iM_goals iM_differents iM_cases fM_from fM_to fM_whole fM_ways iM_plainRows fM_plainRow fM_kept fM_goalOver fM_goalUnder fM_goalMax fM_different) (WQ hQ aQ kQ hw fQ_inside fQ_outside fQ_shut iQ_rows iQ_allRows iQ_columns) (WW nW hw lw kw wl wb wG)
  have hPc := hP.mem (fun q h => p9.mem_iff.mpr (List.mem_append_left _ h))
  have hDc := (hD.perm p9).left
  have hKc : va_K (dC, dI) vwCl (tW kw) _ := hK.sub [24] rfl
  have hFc := freeG p9 hD hS hA
  refine va_callv (va_runV (As := [.ref (hw ka), .ref (hw 417)]) (rest := []) ⟨hx, hb, hml, hown, hts⟩ (m_X8_setProduct l dC dI nW hw lw kw wl wb wG k1 ka 417 b_wl b_wb (by first | with_reducible assumption | omega | (rw [iI_t (by omega) (by omega)]; omega) | decide | assumption) (by first | with_reducible assumption | omega | (rw [iI_t (by omega) (by omega)]; omega) | decide | assumption) (by first | with_reducible assumption | omega | (rw [iI_t (by omega) (by omega)]; omega) | decide | assumption) s.heap.size) (cwV 2 hts gwsMX5_compare_0 rfl rfl rfl hd_yX8_setProduct_RX8 (by decide +kernel)) (fz_pre (va_recv hK hP (ci := 8) (q0 := 11 + (11 + (5 + (k1)))) rfl (apR rfl (apR rfl (apR rfl (WW_o (by omega)))))) hPc hKc hDc) rfl rfl hl.1 rfl (lv_room (Nat.le_of_ble_eq_true rfl)) dX5_compare_11 (by decide +kernel)) hS (fun q _ h => hFc q h) hFc (fun u t9_ H locs ht hvm hw9 hB9 hz1 hk1 hS => ?_)
  revert u hw9 hB9
  refine fz_p3 ?_
  intro wl_2 wb_2 wG_2 hw9 hB9
  try dsimp only at hw9 hB9
  revert hw9
  refine fz_a2 ?_
  intro b_wl_2 b_wb_2
  have p8 := cj_4_3 (WO hO aO kO hM hQ hw iO_answered iO_searched iO_searchedRelaxed iO_counted fO_countedCase gO_goalNumber gO_goalScale fO_start fO_column fO_chosen) (WM hM aM kM iM_stands iM_variables iM_rows iM_goals iM_differents iM_cases fM_from fM_to fM_whole fM_ways iM_plainRows fM_plainRow fM_kept fM_goalOver fM_goalUnder fM_goalMax fM_different) (WQ hQ aQ kQ hw fQ_inside fQ_outside fQ_shut iQ_rows iQ_allRows iQ_columns) (WW nW hw lw kw wl_2 wb_2 wG_2)
  obtain ⟨hP, hD⟩ := frameG p9 p8 hP hD hk1 hFc (fz_P ht hB9.1) hB9.2
  refine lv_aload_n hx hb dX5_compare_14 rfl (lv_at hl 0 rfl) ?_
  refine va_get (D := (dC, dI)) (ci := 5) (v := .ref (aO 9)) (C := RX5) (T := TX5) (N := 19) hx hb hts iwsMX5_compare_in5 hown hK hP 0 rfl rfl 18 (by decide) (hts _ hm_m_X5_compare_0) (fun _ h9 => h9) rfl dX5_compare_15 ?_
  refine lv_iconst (v := 1) hx hb dX5_compare_18 (by decide) ?_
  refine va_aldq (cA := kO 9) (n := 4) (f := fun q => some (hw (428 + q))) hx hb hK hP 10 9 rfl rfl (show ¬ ((1 : Int32) < 0 ∨ 4 ≤ (1 : Int32).toNatClampNeg) by decide) dX5_compare_19 ?_
  obtain ⟨k3, hk3, b_k3⟩ : ∃ k9 : Nat, k9 = 428 + (1 : Int32).toNatClampNeg ∧ (428 ≤ k9 ∧ k9 < 432 ∧ (k9 : Int) = 428 + 1) := ⟨_, rfl, ald_k (x := (1 : Int32)) (o := 428) (n := 4) (by decide : (1 : Int32).toInt = 1) (by omega) (by omega)⟩
  refine W.eq (g2 := F0 m 20 ls [.ref (hw k3)]) (by rw [hk3]; rfl) ?_
  clear hk3
  refine lv_aload_n hx hb dX5_compare_20 rfl (lv_at hl 2 rfl) ?_
  refine lv_aload_n hx hb dX5_compare_21 rfl (lv_at hl 0 rfl) ?_
  refine va_get (D := (dC, dI)) (ci := 5) (v := .ref (hQ 0)) (C := RX5) (T := TX5) (N := 19) hx hb hts iwsMX5_compare_in5 hown hK hP 0 rfl rfl 1 (by decide) (hts (.fieldLink RX5 12 "OptimaWorks$Solver" "tableau" "LOptimaWorks$Tableau;") (by decide +kernel)) (fun _ h9 => h9) rfl dX5_compare_22 ?_
  refine va_get (D := (dC, dI)) (ci := 6) (v := .ref (hw 400)) (C := RX6) (T := TX6) (N := 13) hx hb hts iwsMX5_compare_in6 hown hK hP 22 rfl rfl 4 (by decide) (hts (.fieldLink RX5 253 "OptimaWorks$Tableau" "under" "LOptimaWorks$Whole;") (by decide +kernel)) (fun _ h9 => h9) rfl dX5_compare_25 ?_
  have p9 := cj_4_3 (WO hO aO kO hM hQ hw iO_answered iO_searched iO_searchedRelaxed iO_counted fO_countedCase gO_goalNumber gO_goalScale fO_start fO_column fO_chosen) (WM hM aM kM iM_stands iM_variables iM_rows iM_goals iM_differents iM_cases fM_from fM_to fM_whole fM_ways iM_plainRows fM_plainRow fM_kept fM_goalOver fM_goalUnder fM_goalMax fM_different) (WQ hQ aQ kQ hw fQ_inside fQ_outside fQ_shut iQ_rows iQ_allRows iQ_columns) (WW nW hw lw kw wl_2 wb_2 wG_2)
  have hPc := hP.mem (fun q h => p9.mem_iff.mpr (List.mem_append_left _ h))
  have hDc := (hD.perm p9).left
  have hKc : va_K (dC, dI) vwCl (tW kw) _ := hK.sub [24] rfl
  have hFc := freeG p9 hD hS hA
  refine va_callv (va_runV (As := [.ref (hw kb), .ref (hw 400)]) (rest := []) ⟨hx, hb, hml, hown, hts⟩ (m_X8_setProduct l dC dI nW hw lw kw wl_2 wb_2 wG_2 k3 kb 400 b_wl_2 b_wb_2 (by first | with_reducible assumption | omega | (rw [iI_t (by omega) (by omega)]; omega) | decide | assumption) (by first | with_reducible assumption | omega | (rw [iI_t (by omega) (by omega)]; omega) | decide | assumption) (by first | with_reducible assumption | omega | (rw [iI_t (by omega) (by omega)]; omega) | decide | assumption) H.size) (cwV 2 hts gwsMX5_compare_0 rfl rfl rfl hd_yX8_setProduct_RX8 (by decide +kernel)) (fz_pre (va_recv hK hP (ci := 8) (q0 := 11 + (11 + (5 + (k3)))) rfl (apR rfl (apR rfl (apR rfl (WW_o (by omega)))))) hPc hKc hDc) rfl rfl hl.1 rfl (lv_room (Nat.le_of_ble_eq_true rfl)) dX5_compare_28 (by decide +kernel)) hS (fun q _ h => hFc q h) hFc (fun u t9_ H locs ht hvm hw9 hB9 hz1 hk1 hS => ?_)
  revert u hw9 hB9
  refine fz_p3 ?_
  intro wl_4 wb_4 wG_4 hw9 hB9
  try dsimp only at hw9 hB9
  revert hw9
  refine fz_a2 ?_
  intro b_wl_4 b_wb_4
  have p8 := cj_4_3 (WO hO aO kO hM hQ hw iO_answered iO_searched iO_searchedRelaxed iO_counted fO_countedCase gO_goalNumber gO_goalScale fO_start fO_column fO_chosen) (WM hM aM kM iM_stands iM_variables iM_rows iM_goals iM_differents iM_cases fM_from fM_to fM_whole fM_ways iM_plainRows fM_plainRow fM_kept fM_goalOver fM_goalUnder fM_goalMax fM_different) (WQ hQ aQ kQ hw fQ_inside fQ_outside fQ_shut iQ_rows iQ_allRows iQ_columns) (WW nW hw lw kw wl_4 wb_4 wG_4)
  obtain ⟨hP, hD⟩ := frameG p9 p8 hP hD hk1 hFc (fz_P ht hB9.1) hB9.2
  refine lv_aload_n hx hb dX5_compare_31 rfl (lv_at hl 0 rfl) ?_
  refine va_get (D := (dC, dI)) (ci := 5) (v := .ref (aO 9)) (C := RX5) (T := TX5) (N := 19) hx hb hts iwsMX5_compare_in5 hown hK hP 0 rfl rfl 18 (by decide) (hts _ hm_m_X5_compare_0) (fun _ h9 => h9) rfl dX5_compare_32 ?_
  refine lv_iconst (v := 1) hx hb dX5_compare_35 (by decide) ?_
  refine va_aldq (cA := kO 9) (n := 4) (f := fun q => some (hw (428 + q))) hx hb hK hP 10 9 rfl rfl (show ¬ ((1 : Int32) < 0 ∨ 4 ≤ (1 : Int32).toNatClampNeg) by decide) dX5_compare_36 ?_
  obtain ⟨k5, hk5, b_k5⟩ : ∃ k9 : Nat, k9 = 428 + (1 : Int32).toNatClampNeg ∧ (428 ≤ k9 ∧ k9 < 432 ∧ (k9 : Int) = 428 + 1) := ⟨_, rfl, ald_k (x := (1 : Int32)) (o := 428) (n := 4) (by decide : (1 : Int32).toInt = 1) (by omega) (by omega)⟩
  refine W.eq (g2 := F0 m 37 ls [.ref (hw k5)]) (by rw [hk5]; rfl) ?_
  clear hk5
  have p9 := cj_4_3 (WO hO aO kO hM hQ hw iO_answered iO_searched iO_searchedRelaxed iO_counted fO_countedCase gO_goalNumber gO_goalScale fO_start fO_column fO_chosen) (WM hM aM kM iM_stands iM_variables iM_rows iM_goals iM_differents iM_cases fM_from fM_to fM_whole fM_ways iM_plainRows fM_plainRow fM_kept fM_goalOver fM_goalUnder fM_goalMax fM_different) (WQ hQ aQ kQ hw fQ_inside fQ_outside fQ_shut iQ_rows iQ_allRows iQ_columns) (WW nW hw lw kw wl_4 wb_4 wG_4)
  have hPc := hP.mem (fun q h => p9.mem_iff.mpr (List.mem_append_left _ h))
  have hDc := (hD.perm p9).left
  have hKc : va_K (dC, dI) vwCl (tW kw) _ := hK.sub [24] rfl
  have hFc := freeG p9 hD hS hA
  refine va_callv (va_runV (As := []) (rest := []) ⟨hx, hb, hml, hown, hts⟩ (m_X8_negate l dC dI nW hw lw kw wl_4 wb_4 wG_4 k5 b_wl_4 b_wb_4 (by first | with_reducible assumption | omega | (rw [iI_t (by omega) (by omega)]; omega) | decide | assumption) H.size) (cwV 0 hts gwsMX5_compare_1 rfl rfl rfl hd_yX8_negate_RX8 (by decide +kernel)) (fz_pre (va_recv hK hP (ci := 8) (q0 := 11 + (11 + (5 + (k5)))) rfl (apR rfl (apR rfl (apR rfl (WW_o (by omega)))))) hPc hKc hDc) rfl rfl hl.1 rfl (lv_room (Nat.le_of_ble_eq_true rfl)) dX5_compare_37 (by decide +kernel)) hS (fun q _ h => hFc q h) hFc (fun wb_6 t9_ H locs ht hvm hw9 hB9 hz1 hk1 hS => ?_)
  have b_wb_6 := hw9
  try dsimp only at b_wb_6
  have p8 := cj_4_3 (WO hO aO kO hM hQ hw iO_answered iO_searched iO_searchedRelaxed iO_counted fO_countedCase gO_goalNumber gO_goalScale fO_start fO_column fO_chosen) (WM hM aM kM iM_stands iM_variables iM_rows iM_goals iM_differents iM_cases fM_from fM_to fM_whole fM_ways iM_plainRows fM_plainRow fM_kept fM_goalOver fM_goalUnder fM_goalMax fM_different) (WQ hQ aQ kQ hw fQ_inside fQ_outside fQ_shut iQ_rows iQ_allRows iQ_columns) (WW nW hw lw kw wl_4 wb_6 wG_4)
  obtain ⟨hP, hD⟩ := frameG p9 p8 hP hD hk1 hFc (fz_P ht hB9.1) hB9.2
  refine lv_aload_n hx hb dX5_compare_40 rfl (lv_at hl 0 rfl) ?_
  refine va_get (D := (dC, dI)) (ci := 5) (v := .ref (aO 9)) (C := RX5) (T := TX5) (N := 19) hx hb hts iwsMX5_compare_in5 hown hK hP 0 rfl rfl 18 (by decide) (hts _ hm_m_X5_compare_0) (fun _ h9 => h9) rfl dX5_compare_41 ?_
  refine lv_iconst (v := 0) hx hb dX5_compare_44 (by decide) ?_
  refine va_aldq (cA := kO 9) (n := 4) (f := fun q => some (hw (428 + q))) hx hb hK hP 10 9 rfl rfl (show ¬ ((0 : Int32) < 0 ∨ 4 ≤ (0 : Int32).toNatClampNeg) by decide) dX5_compare_45 ?_
  obtain ⟨k7, hk7, b_k7⟩ : ∃ k9 : Nat, k9 = 428 + (0 : Int32).toNatClampNeg ∧ (428 ≤ k9 ∧ k9 < 432 ∧ (k9 : Int) = 428 + 0) := ⟨_, rfl, ald_k (x := (0 : Int32)) (o := 428) (n := 4) (by decide : (0 : Int32).toInt = 0) (by omega) (by omega)⟩
  refine W.eq (g2 := F0 m 46 ls [.ref (hw k7)]) (by rw [hk7]; rfl) ?_
  clear hk7
  refine lv_aload_n hx hb dX5_compare_46 rfl (lv_at hl 0 rfl) ?_
  refine va_get (D := (dC, dI)) (ci := 5) (v := .ref (aO 9)) (C := RX5) (T := TX5) (N := 19) hx hb hts iwsMX5_compare_in5 hown hK hP 0 rfl rfl 18 (by decide) (hts _ hm_m_X5_compare_0) (fun _ h9 => h9) rfl dX5_compare_47 ?_
  refine lv_iconst (v := 1) hx hb dX5_compare_50 (by decide) ?_
  refine va_aldq (cA := kO 9) (n := 4) (f := fun q => some (hw (428 + q))) hx hb hK hP 10 9 rfl rfl (show ¬ ((1 : Int32) < 0 ∨ 4 ≤ (1 : Int32).toNatClampNeg) by decide) dX5_compare_51 ?_
  obtain ⟨k8, hk8, b_k8⟩ : ∃ k9 : Nat, k9 = 428 + (1 : Int32).toNatClampNeg ∧ (428 ≤ k9 ∧ k9 < 432 ∧ (k9 : Int) = 428 + 1) := ⟨_, rfl, ald_k (x := (1 : Int32)) (o := 428) (n := 4) (by decide : (1 : Int32).toInt = 1) (by omega) (by omega)⟩
  refine W.eq (g2 := F0 m 52 ls [.ref (hw k8), .ref (hw k7)]) (by rw [hk8]; rfl) ?_
  clear hk8
  have p9 := cj_4_3 (WO hO aO kO hM hQ hw iO_answered iO_searched iO_searchedRelaxed iO_counted fO_countedCase gO_goalNumber gO_goalScale fO_start fO_column fO_chosen) (WM hM aM kM iM_stands iM_variables iM_rows iM_goals iM_differents iM_cases fM_from fM_to fM_whole fM_ways iM_plainRows fM_plainRow fM_kept fM_goalOver fM_goalUnder fM_goalMax fM_different) (WQ hQ aQ kQ hw fQ_inside fQ_outside fQ_shut iQ_rows iQ_allRows iQ_columns) (WW nW hw lw kw wl_4 wb_6 wG_4)
  have hPc := hP.mem (fun q h => p9.mem_iff.mpr (List.mem_append_left _ h))
  have hDc := (hD.perm p9).left
  have hKc : va_K (dC, dI) vwCl (tW kw) _ := hK.sub [24] rfl
  have hFc := freeG p9 hD hS hA
  refine va_callv (va_runV (As := [.ref (hw k8)]) (rest := []) ⟨hx, hb, hml, hown, hts⟩ (m_X8_add l dC dI nW hw lw kw wl_4 wb_6 wG_4 k7 k8 b_wl_4 b_wb_6 (by first | with_reducible assumption | omega | (rw [iI_t (by omega) (by omega)]; omega) | decide | assumption) (by first | with_reducible assumption | omega | (rw [iI_t (by omega) (by omega)]; omega) | decide | assumption) H.size) (cwV 1 hts gwsMX5_compare_2 rfl rfl rfl hd_yX8_add_RX8 (by decide +kernel)) (fz_pre (va_recv hK hP (ci := 8) (q0 := 11 + (11 + (5 + (k7)))) rfl (apR rfl (apR rfl (apR rfl (WW_o (by omega)))))) hPc hKc hDc) rfl rfl hl.1 rfl (lv_room (Nat.le_of_ble_eq_true rfl)) dX5_compare_52 (by decide +kernel)) hS (fun q _ h => hFc q h) hFc (fun u t9_ H locs ht hvm hw9 hB9 hz1 hk1 hS => ?_)
  revert u hw9 hB9
  refine fz_p3 ?_
  intro wl_9 wb_9 wG_9 hw9 hB9
  try dsimp only at hw9 hB9
  revert hw9
  refine fz_a2 ?_
  intro b_wl_9 b_wb_9
  have p8 := cj_4_3 (WO hO aO kO hM hQ hw iO_answered iO_searched iO_searchedRelaxed iO_counted fO_countedCase gO_goalNumber gO_goalScale fO_start fO_column fO_chosen) (WM hM aM kM iM_stands iM_variables iM_rows iM_goals iM_differents iM_cases fM_from fM_to fM_whole fM_ways iM_plainRows fM_plainRow fM_kept fM_goalOver fM_goalUnder fM_goalMax fM_different) (WQ hQ aQ kQ hw fQ_inside fQ_outside fQ_shut iQ_rows iQ_allRows iQ_columns) (WW nW hw lw kw wl_9 wb_9 wG_9)
  obtain ⟨hP, hD⟩ := frameG p9 p8 hP hD hk1 hFc (fz_P ht hB9.1) hB9.2
  refine lv_aload_n hx hb dX5_compare_55 rfl (lv_at hl 0 rfl) ?_
  refine va_get (D := (dC, dI)) (ci := 5) (v := .ref (aO 9)) (C := RX5) (T := TX5) (N := 19) hx hb hts iwsMX5_compare_in5 hown hK hP 0 rfl rfl 18 (by decide) (hts _ hm_m_X5_compare_0) (fun _ h9 => h9) rfl dX5_compare_56 ?_
  refine lv_iconst (v := 0) hx hb dX5_compare_59 (by decide) ?_
  refine va_aldq (cA := kO 9) (n := 4) (f := fun q => some (hw (428 + q))) hx hb hK hP 10 9 rfl rfl (show ¬ ((0 : Int32) < 0 ∨ 4 ≤ (0 : Int32).toNatClampNeg) by decide) dX5_compare_60 ?_
  obtain ⟨k10, hk10, b_k10⟩ : ∃ k9 : Nat, k9 = 428 + (0 : Int32).toNatClampNeg ∧ (428 ≤ k9 ∧ k9 < 432 ∧ (k9 : Int) = 428 + 0) := ⟨_, rfl, ald_k (x := (0 : Int32)) (o := 428) (n := 4) (by decide : (0 : Int32).toInt = 0) (by omega) (by omega)⟩
  refine W.eq (g2 := F0 m 61 ls [.ref (hw k10)]) (by rw [hk10]; rfl) ?_
  clear hk10
  have p9 := cj_4_3 (WO hO aO kO hM hQ hw iO_answered iO_searched iO_searchedRelaxed iO_counted fO_countedCase gO_goalNumber gO_goalScale fO_start fO_column fO_chosen) (WM hM aM kM iM_stands iM_variables iM_rows iM_goals iM_differents iM_cases fM_from fM_to fM_whole fM_ways iM_plainRows fM_plainRow fM_kept fM_goalOver fM_goalUnder fM_goalMax fM_different) (WQ hQ aQ kQ hw fQ_inside fQ_outside fQ_shut iQ_rows iQ_allRows iQ_columns) (WW nW hw lw kw wl_9 wb_9 wG_9)
  have hPc := hP.mem (fun q h => p9.mem_iff.mpr (List.mem_append_left _ h))
  have hDc := (hD.perm p9).left
  have hKc : va_K (dC, dI) vwCl (tW kw) _ := hK.sub [24] rfl
  have hFc := freeG p9 hD hS hA
  refine va_calli (va_runV (As := []) (rest := []) ⟨hx, hb, hml, hown, hts⟩ (m_X8_sign l dC dI nW hw lw kw wl_9 wb_9 wG_9 k10 b_wl_9 b_wb_9 (by first | with_reducible assumption | omega | (rw [iI_t (by omega) (by omega)]; omega) | decide | assumption) H.size) (cwV 0 hts gwsMX5_compare_3 rfl rfl rfl hd_yX8_sign_RX8 (by decide +kernel)) (fz_pre (va_recv hK hP (ci := 8) (q0 := 11 + (11 + (5 + (k10)))) rfl (apR rfl (apR rfl (apR rfl (WW_o (by omega)))))) hPc hKc hDc) rfl rfl hl.1 rfl (lv_room (Nat.le_of_ble_eq_true rfl)) dX5_compare_61 (by decide +kernel)) hS (fun q _ h => hFc q h) hFc (fun r11 u t9_ H locs ht hvm hw9 hB9 hz1 hk1 hS => ?_)
  have b_r11 := hw9
  try dsimp only at b_r11
  have p8 := p9
  obtain ⟨hP, hD⟩ := frameG p9 p8 hP hD hk1 hFc (fz_P ht hB9.1) hB9.2
  refine W.widen (k := 0) (n := 0) (by decide +kernel) (by decide +kernel) ?_
  exact W.iret (v := r11) hx hb hr (fun t9_ ht hW => ⟨⟨r11, (wl_9, wb_9, wG_9), rfl, ⟨b_wl_9, b_wb_9, (by first | exact b_r11 | with_reducible assumption | exact ⟨by omega, by omega⟩ | assumption)⟩, by rw [ht]; exact hP, hD⟩, hS.F ht⟩) hS.2.2 dX5_compare_64
theorem dX5_takeNumbers_0 : decode cX5_takeNumbers 0 = .ok (.iconst 0, 1) := dk_3 (by decide +kernel)
theorem dX5_takeNumbers_1 : decode cX5_takeNumbers 1 = .ok (.istore_n 2, 1) := dk_61 (by decide +kernel)
theorem dX5_takeNumbers_2 : decode cX5_takeNumbers 2 = .ok (.iload_n 2, 1) := dk_28 (by decide +kernel)
theorem dX5_takeNumbers_3 : decode cX5_takeNumbers 3 = .ok (.aload_n 0, 1) := dk_42 (by decide +kernel)
theorem dX5_takeNumbers_4 : decode cX5_takeNumbers 4 = .ok (.getfield 74, 3) := dk_180 (by decide +kernel)
theorem dX5_takeNumbers_7 : decode cX5_takeNumbers 7 = .ok (.getfield 112, 3) := dk_180 (by decide +kernel)
theorem dX5_takeNumbers_10 : decode cX5_takeNumbers 10 = .ok (.if_icmp .ge 87, 3) := dk_162 (by decide +kernel)
theorem dX5_takeNumbers_13 : decode cX5_takeNumbers 13 = .ok (.aload_n 1, 1) := dk_43 (by decide +kernel)
theorem dX5_takeNumbers_14 : decode cX5_takeNumbers 14 = .ok (.iload_n 2, 1) := dk_28 (by decide +kernel)
theorem dX5_takeNumbers_15 : decode cX5_takeNumbers 15 = .ok (.aaload, 1) := dk_50 (by decide +kernel)
theorem dX5_takeNumbers_16 : decode cX5_takeNumbers 16 = .ok (.lconst 0, 1) := dk_9 (by decide +kernel)
theorem dX5_takeNumbers_17 : decode cX5_takeNumbers 17 = .ok (.invokevirtual 184, 3) := dk_182 (by decide +kernel)
theorem dX5_takeNumbers_20 : decode cX5_takeNumbers 20 = .ok (.aload_n 0, 1) := dk_42 (by decide +kernel)
theorem dX5_takeNumbers_21 : decode cX5_takeNumbers 21 = .ok (.aload_n 1, 1) := dk_43 (by decide +kernel)
theorem dX5_takeNumbers_22 : decode cX5_takeNumbers 22 = .ok (.iload_n 2, 1) := dk_28 (by decide +kernel)
theorem dX5_takeNumbers_23 : decode cX5_takeNumbers 23 = .ok (.aaload, 1) := dk_50 (by decide +kernel)
theorem dX5_takeNumbers_24 : decode cX5_takeNumbers 24 = .ok (.aload_n 0, 1) := dk_42 (by decide +kernel)
theorem dX5_takeNumbers_25 : decode cX5_takeNumbers 25 = .ok (.getfield 12, 3) := dk_180 (by decide +kernel)
theorem dX5_takeNumbers_28 : decode cX5_takeNumbers 28 = .ok (.getfield 253, 3) := dk_180 (by decide +kernel)
theorem dX5_takeNumbers_31 : decode cX5_takeNumbers 31 = .ok (.aload_n 0, 1) := dk_42 (by decide +kernel)
theorem dX5_takeNumbers_32 : decode cX5_takeNumbers 32 = .ok (.getfield 35, 3) := dk_180 (by decide +kernel)
theorem dX5_takeNumbers_35 : decode cX5_takeNumbers 35 = .ok (.iload_n 2, 1) := dk_28 (by decide +kernel)
theorem dX5_takeNumbers_36 : decode cX5_takeNumbers 36 = .ok (.iaload, 1) := dk_46 (by decide +kernel)
theorem dX5_takeNumbers_37 : decode cX5_takeNumbers 37 = .ok (.i2l, 1) := dk_133 (by decide +kernel)
theorem dX5_takeNumbers_38 : decode cX5_takeNumbers 38 = .ok (.invokevirtual 211, 3) := dk_182 (by decide +kernel)
theorem dX5_takeNumbers_41 : decode cX5_takeNumbers 41 = .ok (.aload_n 0, 1) := dk_42 (by decide +kernel)
theorem dX5_takeNumbers_42 : decode cX5_takeNumbers 42 = .ok (.getfield 38, 3) := dk_180 (by decide +kernel)
theorem dX5_takeNumbers_45 : decode cX5_takeNumbers 45 = .ok (.iload_n 2, 1) := dk_28 (by decide +kernel)
theorem dX5_takeNumbers_46 : decode cX5_takeNumbers 46 = .ok (.iaload, 1) := dk_46 (by decide +kernel)
theorem dX5_takeNumbers_47 : decode cX5_takeNumbers 47 = .ok (.iconst (-1), 1) := dk_2 (by decide +kernel)
theorem dX5_takeNumbers_48 : decode cX5_takeNumbers 48 = .ok (.if_icmp .ne 7, 3) := dk_160 (by decide +kernel)
theorem dX5_takeNumbers_51 : decode cX5_takeNumbers 51 = .ok (.iconst (-1), 1) := dk_2 (by decide +kernel)
theorem dX5_takeNumbers_52 : decode cX5_takeNumbers 52 = .ok (.goto 18, 3) := dk_167 (by decide +kernel)
theorem dX5_takeNumbers_55 : decode cX5_takeNumbers 55 = .ok (.aload_n 0, 1) := dk_42 (by decide +kernel)
theorem dX5_takeNumbers_56 : decode cX5_takeNumbers 56 = .ok (.getfield 12, 3) := dk_180 (by decide +kernel)
theorem dX5_takeNumbers_59 : decode cX5_takeNumbers 59 = .ok (.aload_n 0, 1) := dk_42 (by decide +kernel)
theorem dX5_takeNumbers_60 : decode cX5_takeNumbers 60 = .ok (.getfield 38, 3) := dk_180 (by decide +kernel)
theorem dX5_takeNumbers_63 : decode cX5_takeNumbers 63 = .ok (.iload_n 2, 1) := dk_28 (by decide +kernel)
theorem dX5_takeNumbers_64 : decode cX5_takeNumbers 64 = .ok (.iaload, 1) := dk_46 (by decide +kernel)
theorem dX5_takeNumbers_65 : decode cX5_takeNumbers 65 = .ok (.iconst 1, 1) := dk_4 (by decide +kernel)
theorem dX5_takeNumbers_66 : decode cX5_takeNumbers 66 = .ok (.isub, 1) := dk_100 (by decide +kernel)
theorem dX5_takeNumbers_67 : decode cX5_takeNumbers 67 = .ok (.invokevirtual 265, 3) := dk_182 (by decide +kernel)
theorem dX5_takeNumbers_70 : decode cX5_takeNumbers 70 = .ok (.istore_n 3, 1) := dk_62 (by decide +kernel)
theorem dX5_takeNumbers_71 : decode cX5_takeNumbers 71 = .ok (.iload_n 3, 1) := dk_29 (by decide +kernel)
theorem dX5_takeNumbers_72 : decode cX5_takeNumbers 72 = .ok (.iconst (-1), 1) := dk_2 (by decide +kernel)
theorem dX5_takeNumbers_73 : decode cX5_takeNumbers 73 = .ok (.if_icmp .eq 18, 3) := dk_159 (by decide +kernel)
theorem dX5_takeNumbers_76 : decode cX5_takeNumbers 76 = .ok (.aload_n 1, 1) := dk_43 (by decide +kernel)
theorem dX5_takeNumbers_77 : decode cX5_takeNumbers 77 = .ok (.iload_n 2, 1) := dk_28 (by decide +kernel)
theorem dX5_takeNumbers_78 : decode cX5_takeNumbers 78 = .ok (.aaload, 1) := dk_50 (by decide +kernel)
theorem dX5_takeNumbers_79 : decode cX5_takeNumbers 79 = .ok (.aload_n 0, 1) := dk_42 (by decide +kernel)
theorem dX5_takeNumbers_80 : decode cX5_takeNumbers 80 = .ok (.getfield 12, 3) := dk_180 (by decide +kernel)
theorem dX5_takeNumbers_83 : decode cX5_takeNumbers 83 = .ok (.iload_n 3, 1) := dk_29 (by decide +kernel)
theorem dX5_takeNumbers_84 : decode cX5_takeNumbers 84 = .ok (.iconst 0, 1) := dk_3 (by decide +kernel)
theorem dX5_takeNumbers_85 : decode cX5_takeNumbers 85 = .ok (.invokevirtual 177, 3) := dk_182 (by decide +kernel)
theorem dX5_takeNumbers_88 : decode cX5_takeNumbers 88 = .ok (.invokevirtual 259, 3) := dk_182 (by decide +kernel)
theorem dX5_takeNumbers_91 : decode cX5_takeNumbers 91 = .ok (.iinc 2 1, 3) := dk_132 (by decide +kernel)
theorem dX5_takeNumbers_94 : decode cX5_takeNumbers 94 = .ok (.goto (-92), 3) := dk_167 (by decide +kernel)
theorem dX5_takeNumbers_97 : decode cX5_takeNumbers 97 = .ok (.return_, 1) := dk_177 (by decide +kernel)
def wsMX5_takeNumbers : List Cond := .code yX5_takeNumbers cX5_takeNumbers 4 none :: ([.fieldLink RX5 74 "OptimaWorks$Solver" "model" "LOptimaWorks$Model;", .fieldLink RX5 112 "OptimaWorks$Model" "variables" "I", .fieldLink RX5 12 "OptimaWorks$Solver" "tableau" "LOptimaWorks$Tableau;", .fieldLink RX5 253 "OptimaWorks$Tableau" "under" "LOptimaWorks$Whole;", .fieldLink RX5 35 "OptimaWorks$Solver" "start" "[I", .fieldLink RX5 38 "OptimaWorks$Solver" "column" "[I"] ++ wsX10 ++ wsX50 ++ wsX60 ++ (wsV RX5 184 RX8 yX8_setLong wsMX8_setLong) ++ (wsV RX5 211 RX5 yX5_addTimes wsMX5_addTimes) ++ (wsV RX5 265 RX6 yX6_rowOf wsMX6_rowOf) ++ (wsV RX5 177 RX6 yX6_cellAt wsMX6_cellAt) ++ (wsV RX5 259 RX8 yX8_add wsMX8_add))
theorem iwsMX5_takeNumbers_in1 : ∀ w ∈ wsX10, w ∈ wsMX5_takeNumbers := fun _ h => List.mem_cons_of_mem _ (List.mem_append_left _ (List.mem_append_left _ (List.mem_append_left _ (List.mem_append_left _ (List.mem_append_left _ (List.mem_append_left _ (List.mem_append_left _ (List.mem_append_right _ h))))))))
theorem iwsMX5_takeNumbers_in5 : ∀ w ∈ wsX50, w ∈ wsMX5_takeNumbers := fun _ h => List.mem_cons_of_mem _ (List.mem_append_left _ (List.mem_append_left _ (List.mem_append_left _ (List.mem_append_left _ (List.mem_append_left _ (List.mem_append_left _ (List.mem_append_right _ h)))))))
theorem iwsMX5_takeNumbers_in6 : ∀ w ∈ wsX60, w ∈ wsMX5_takeNumbers := fun _ h => List.mem_cons_of_mem _ (List.mem_append_left _ (List.mem_append_left _ (List.mem_append_left _ (List.mem_append_left _ (List.mem_append_left _ (List.mem_append_right _ h))))))
theorem gwsMX5_takeNumbers_0 : GoodIn wsMX5_takeNumbers (wsV RX5 184 RX8 yX8_setLong wsMX8_setLong) := goodIn_sub (fun _ h => List.mem_cons_of_mem _ (List.mem_append_left _ (List.mem_append_left _ (List.mem_append_left _ (List.mem_append_left _ (List.mem_append_right _ h)))))) (gdV (by decide +kernel) gdwsMX8_setLong)
theorem gwsMX5_takeNumbers_1 : GoodIn wsMX5_takeNumbers (wsV RX5 211 RX5 yX5_addTimes wsMX5_addTimes) := goodIn_sub (fun _ h => List.mem_cons_of_mem _ (List.mem_append_left _ (List.mem_append_left _ (List.mem_append_left _ (List.mem_append_right _ h))))) (gdV (by decide +kernel) gdwsMX5_addTimes)
theorem gwsMX5_takeNumbers_2 : GoodIn wsMX5_takeNumbers (wsV RX5 265 RX6 yX6_rowOf wsMX6_rowOf) := goodIn_sub (fun _ h => List.mem_cons_of_mem _ (List.mem_append_left _ (List.mem_append_left _ (List.mem_append_right _ h)))) (gdV (by decide +kernel) gdwsMX6_rowOf)
theorem gwsMX5_takeNumbers_3 : GoodIn wsMX5_takeNumbers (wsV RX5 177 RX6 yX6_cellAt wsMX6_cellAt) := goodIn_sub (fun _ h => List.mem_cons_of_mem _ (List.mem_append_left _ (List.mem_append_right _ h))) (gdV (by decide +kernel) gdwsMX6_cellAt)
theorem gwsMX5_takeNumbers_4 : GoodIn wsMX5_takeNumbers (wsV RX5 259 RX8 yX8_add wsMX8_add) := goodIn_sub (fun _ h => List.mem_cons_of_mem _ (List.mem_append_right _ h)) (gdV (by decide +kernel) gdwsMX8_add)
theorem gdwsMX5_takeNumbers : wsMX5_takeNumbers.all goodWord = true := gdC rfl (gdA (gdA (gdA (gdA (gdA (gdA (gdA (gdA (by decide +kernel : ([.fieldLink RX5 74 "OptimaWorks$Solver" "model" "LOptimaWorks$Model;", .fieldLink RX5 112 "OptimaWorks$Model" "variables" "I", .fieldLink RX5 12 "OptimaWorks$Solver" "tableau" "LOptimaWorks$Tableau;", .fieldLink RX5 253 "OptimaWorks$Tableau" "under" "LOptimaWorks$Whole;", .fieldLink RX5 35 "OptimaWorks$Solver" "start" "[I", .fieldLink RX5 38 "OptimaWorks$Solver" "column" "[I"] : List Cond).all goodWord = true) gdwsX10) gdwsX50) gdwsX60) (gdV (by decide +kernel) gdwsMX8_setLong)) (gdV (by decide +kernel) gdwsMX5_addTimes)) (gdV (by decide +kernel) gdwsMX6_rowOf)) (gdV (by decide +kernel) gdwsMX6_cellAt)) (gdV (by decide +kernel) gdwsMX8_add))
theorem hm_m_X5_takeNumbers_0 : (.fieldLink RX5 12 "OptimaWorks$Solver" "tableau" "LOptimaWorks$Tableau;" : Cond) ∈ wsMX5_takeNumbers := by decide +kernel
theorem hm_m_X5_takeNumbers_1 : (.fieldLink RX5 38 "OptimaWorks$Solver" "column" "[I" : Cond) ∈ wsMX5_takeNumbers := by decide +kernel
set_option maxHeartbeats 4000000 in
set_option maxRecDepth 100000 in
/-- the numbers are taken -/
theorem m_X5_takeNumbers (l : Launch) (dC : Nat → ClassId) (dI : Nat → Nat → Nat) (hO : Nat → Nat) (aO : Nat → Nat) (kO : Nat → ClassId) (hM : Nat → Nat) (hQ : Nat → Nat) (hw : Nat → Nat) (iO_answered : Int32) (iO_searched : Int32) (iO_searchedRelaxed : Int32) (iO_counted : Int32) (fO_countedCase : Nat → Int32) (gO_goalNumber : Nat → Int64) (gO_goalScale : Nat → Int64) (fO_start : Nat → Int32) (fO_column : Nat → Int32) (fO_chosen : Nat → Int32) (aM : Nat → Nat) (kM : Nat → ClassId) (iM_stands : Int32) (iM_variables : Int32) (iM_rows : Int32) (iM_goals : Int32) (iM_differents : Int32) (iM_cases : Int32) (fM_from : Nat → Int32) (fM_to : Nat → Int32) (fM_whole : Nat → Int32) (fM_ways : Nat → Int32) (iM_plainRows : Int32) (fM_plainRow : Nat → Int32) (fM_kept : Nat → Int32) (fM_goalOver : Nat → Int32) (fM_goalUnder : Nat → Int32) (fM_goalMax : Nat → Int32) (fM_different : Nat → Int32) (aQ : Nat → Nat) (kQ : Nat → ClassId) (fQ_inside : Nat → Int32) (fQ_outside : Nat → Int32) (fQ_shut : Nat → Int32) (iQ_rows : Int32) (iQ_allRows : Int32) (iQ_columns : Int32) (nW : Nat) (lw : Nat → Nat) (kw : ClassId) (wl : Nat → Int32) (wb : Nat → Int32) (wG : Nat → Nat → Int64) (b_iO_answered : 0 ≤ iO_answered.toInt ∧ iO_answered.toInt ≤ 1) (b_iO_searched : 0 ≤ iO_searched.toInt ∧ iO_searched.toInt ≤ 1) (b_iO_searchedRelaxed : 0 ≤ iO_searchedRelaxed.toInt ∧ iO_searchedRelaxed.toInt ≤ 1) (b_iO_counted : (-1) ≤ iO_counted.toInt ∧ iO_counted.toInt ≤ 64) (b_fO_countedCase : ∀ q : Nat, 0 ≤ (fO_countedCase q).toInt ∧ (fO_countedCase q).toInt ≤ 200000) (b_fO_column : ∀ q : Nat, (-1) ≤ (fO_column q).toInt ∧ (fO_column q).toInt ≤ 8) (b_fO_chosen : ∀ q : Nat, 0 ≤ (fO_chosen q).toInt ∧ (fO_chosen q).toInt ≤ 2) (b_iM_stands : 0 ≤ iM_stands.toInt ∧ iM_stands.toInt ≤ 1) (b_iM_variables : 0 ≤ iM_variables.toInt ∧ iM_variables.toInt ≤ 8) (b_iM_rows : 0 ≤ iM_rows.toInt ∧ iM_rows.toInt ≤ 12) (b_iM_goals : 0 ≤ iM_goals.toInt ∧ iM_goals.toInt ≤ 3) (b_iM_differents : 0 ≤ iM_differents.toInt ∧ iM_differents.toInt ≤ 8) (b_iM_cases : 0 ≤ iM_cases.toInt ∧ iM_cases.toInt ≤ 200000) (b_fM_ways : ∀ q : Nat, 0 ≤ (fM_ways q).toInt ∧ (fM_ways q).toInt ≤ 3) (b_iM_plainRows : 0 ≤ iM_plainRows.toInt ∧ iM_plainRows.toInt ≤ 12) (b_fM_plainRow : ∀ q : Nat, 0 ≤ (fM_plainRow q).toInt ∧ (fM_plainRow q).toInt ≤ 11) (b_pr : iM_plainRows.toInt ≤ iM_rows.toInt) (b_iQ_rows : 0 ≤ iQ_rows.toInt ∧ iQ_rows.toInt ≤ 40) (b_iQ_allRows : 0 ≤ iQ_allRows.toInt ∧ iQ_allRows.toInt ≤ 40) (b_iQ_columns : 0 ≤ iQ_columns.toInt ∧ iQ_columns.toInt ≤ 40) (b_tb : TbO iQ_rows iQ_allRows iQ_columns) (b_wl : ∀ q : Nat, 0 ≤ (wl q).toInt ∧ (wl q).toInt ≤ 14) (b_wb : ∀ q : Nat, 0 ≤ (wb q).toInt ∧ (wb q).toInt ≤ 1) (hnW : 432 ≤ nW) (hc8 : iQ_columns.toInt ≤ 8) (sz : Nat) : Met l yX5_takeNumbers wsMX5_takeNumbers ({ frames := 4, cells := 0, slots := 0, locals := 85 }) (va_Pc [.ref (hO 0), .ref (aO 8)] (fun U => U.heap.size = sz ∧ va_P (dC, dI) vwCl (WO hO aO kO hM hQ hw iO_answered iO_searched iO_searchedRelaxed iO_counted fO_countedCase gO_goalNumber gO_goalScale fO_start fO_column fO_chosen ++ (WM hM aM kM iM_stands iM_variables iM_rows iM_goals iM_differents iM_cases fM_from fM_to fM_whole fM_ways iM_plainRows fM_plainRow fM_kept fM_goalOver fM_goalUnder fM_goalMax fM_different ++ (WQ hQ aQ kQ hw fQ_inside fQ_outside fQ_shut iQ_rows iQ_allRows iQ_columns ++ (WW nW hw lw kw wl wb wG)))) U.heap ∧ va_K (dC, dI) vwCl (tO kO ++ (tM kM ++ (tQ kQ ++ (tW kw)))) U ∧ va_D (fun _ => True) (WO hO aO kO hM hQ hw iO_answered iO_searched iO_searchedRelaxed iO_counted fO_countedCase gO_goalNumber gO_goalScale fO_start fO_column fO_chosen ++ (WM hM aM kM iM_stands iM_variables iM_rows iM_goals iM_differents iM_cases fM_from fM_to fM_whole fM_ways iM_plainRows fM_plainRow fM_kept fM_goalOver fM_goalUnder fM_goalMax fM_different ++ (WQ hQ aQ kQ hw fQ_inside fQ_outside fQ_shut iQ_rows iQ_allRows iQ_columns ++ (WW nW hw lw kw wl wb wG)))))) (va_Qv (fun (u : (Nat → Int32) × (Nat → Int32) × (Nat → Nat → Int64)) => (∀ q : Nat, 0 ≤ ((u.1) q).toInt ∧ ((u.1) q).toInt ≤ 14) ∧ (∀ q : Nat, 0 ≤ ((u.2.1) q).toInt ∧ ((u.2.1) q).toInt ≤ 1)) (fun (u : (Nat → Int32) × (Nat → Int32) × (Nat → Nat → Int64)) t => va_P (dC, dI) vwCl (WO hO aO kO hM hQ hw iO_answered iO_searched iO_searchedRelaxed iO_counted fO_countedCase gO_goalNumber gO_goalScale fO_start fO_column fO_chosen ++ (WM hM aM kM iM_stands iM_variables iM_rows iM_goals iM_differents iM_cases fM_from fM_to fM_whole fM_ways iM_plainRows fM_plainRow fM_kept fM_goalOver fM_goalUnder fM_goalMax fM_different ++ (WQ hQ aQ kQ hw fQ_inside fQ_outside fQ_shut iQ_rows iQ_allRows iQ_columns ++ (WW nW hw lw kw (u.1) (u.2.1) (u.2.2))))) t.heap ∧ va_D (va_A (WO hO aO kO hM hQ hw iO_answered iO_searched iO_searchedRelaxed iO_counted fO_countedCase gO_goalNumber gO_goalScale fO_start fO_column fO_chosen ++ (WM hM aM kM iM_stands iM_variables iM_rows iM_goals iM_differents iM_cases fM_from fM_to fM_whole fM_ways iM_plainRows fM_plainRow fM_kept fM_goalOver fM_goalUnder fM_goalMax fM_different ++ (WQ hQ aQ kQ hw fQ_inside fQ_outside fQ_shut iQ_rows iQ_allRows iQ_columns ++ (WW nW hw lw kw wl wb wG)))) sz) (WO hO aO kO hM hQ hw iO_answered iO_searched iO_searchedRelaxed iO_counted fO_countedCase gO_goalNumber gO_goalScale fO_start fO_column fO_chosen ++ (WM hM aM kM iM_stands iM_variables iM_rows iM_goals iM_differents iM_cases fM_from fM_to fM_whole fM_ways iM_plainRows fM_plainRow fM_kept fM_goalOver fM_goalUnder fM_goalMax fM_different ++ (WQ hQ aQ kQ hw fQ_inside fQ_outside fQ_shut iQ_rows iQ_allRows iQ_columns ++ (WW nW hw lw kw (u.1) (u.2.1) (u.2.2)))))) (va_A (WO hO aO kO hM hQ hw iO_answered iO_searched iO_searchedRelaxed iO_counted fO_countedCase gO_goalNumber gO_goalScale fO_start fO_column fO_chosen ++ (WM hM aM kM iM_stands iM_variables iM_rows iM_goals iM_differents iM_cases fM_from fM_to fM_whole fM_ways iM_plainRows fM_plainRow fM_kept fM_goalOver fM_goalUnder fM_goalMax fM_different ++ (WQ hQ aQ kQ hw fQ_inside fQ_outside fQ_shut iQ_rows iQ_allRows iQ_columns ++ (WW nW hw lw kw wl wb wG)))) sz)) 0 0 (va_A (WO hO aO kO hM hQ hw iO_answered iO_searched iO_searchedRelaxed iO_counted fO_countedCase gO_goalNumber gO_goalScale fO_start fO_column fO_chosen ++ (WM hM aM kM iM_stands iM_variables iM_rows iM_goals iM_differents iM_cases fM_from fM_to fM_whole fM_ways iM_plainRows fM_plainRow fM_kept fM_goalOver fM_goalUnder fM_goalMax fM_different ++ (WQ hQ aQ kQ hw fQ_inside fQ_outside fQ_shut iQ_rows iQ_allRows iQ_columns ++ (WW nW hw lw kw wl wb wG)))) sz) := by
  refine Met.ofW (cc := cX5_takeNumbers) (maxL := 4) (ret := none) (by decide) rfl ?_
  intro p e s m args below meth c s₁ B hml hv
  obtain ⟨rfl, hsz, hP, hK, hD0⟩ := hv
  have hx := B.exec
  have hb := B.bytes
  have hr := B.returns
  have hts := atoms_spec (ws := wsMX5_takeNumbers) B.pre
  have hown : s.vm.findClass RX5 = some m.cls := findClass_of_methodNamed B.named
  have hlocks := B.notSynchronized
  subst hsz
  have hD := hD0.self (sz := s.heap.size)
  generalize hAe : va_A (WO hO aO kO hM hQ hw iO_answered iO_searched iO_searchedRelaxed iO_counted fO_countedCase gO_goalNumber gO_goalScale fO_start fO_column fO_chosen ++ (WM hM aM kM iM_stands iM_variables iM_rows iM_goals iM_differents iM_cases fM_from fM_to fM_whole fM_ways iM_plainRows fM_plainRow fM_kept fM_goalOver fM_goalUnder fM_goalMax fM_different ++ (WQ hQ aQ kQ hw fQ_inside fQ_outside fQ_shut iQ_rows iQ_allRows iQ_columns ++ (WW nW hw lw kw wl wb wG)))) s.heap.size = A at hD ⊢
  have hA : ∀ q : Nat, s.heap.size ≤ q → A q := fun q h => by rw [← hAe]; exact Or.inr h
  have hS : va_S A s.heap s.heap [] := va_S.rf
  have hl := lv_entry ([.ref (hO 0), .ref (aO 8)]) (n := 4) (Nat.le_of_ble_eq_true rfl)
  rw [lg_entry_eq]
  generalize (lg_sl ([.ref (hO 0), .ref (aO 8)]) ++ List.replicate (4 - (lg_sl ([.ref (hO 0), .ref (aO 8)])).length) Slot.unset).toArray = ls at hl ⊢
  have hl : lv_has ls 4 [(0, .ref (hO 0)), (1, .ref (aO 8))] := hl
  refine lv_iconst (v := 0) hx hb dX5_takeNumbers_0 (by decide) ?_
  refine lv_istore_n hx hb dX5_takeNumbers_1 rfl hl (by decide) rfl (fun ls (hl : lv_has ls _ ([(2, .int 0), (0, .ref (hO 0)), (1, .ref (aO 8))])) => ?_)
  have hl : lv_has _ _ ([(2, .int 0), (0, .ref (hO 0)), (1, .ref (aO 8))]) := lv_sub hl [0, 1, 2] rfl
  refine (fun (loop : ∀ (n9 : Nat) (wl_x2 : Nat → Int32) (wb_x2 : Nat → Int32) (wG_x2 : Nat → Nat → Int64) (l2_x2 : Int32) (H : Heap) (locs : List Loc) (ls : Array Slot), (∀ q : Nat, 0 ≤ (wl_x2 q).toInt ∧ (wl_x2 q).toInt ≤ 14) → (∀ q : Nat, 0 ≤ (wb_x2 q).toInt ∧ (wb_x2 q).toInt ≤ 1) → (0 ≤ l2_x2.toInt ∧ l2_x2.toInt ≤ 8) → (8 - l2_x2.toInt < ((n9 : Nat) : Int)) → va_P (dC, dI) vwCl (WO hO aO kO hM hQ hw iO_answered iO_searched iO_searchedRelaxed iO_counted fO_countedCase gO_goalNumber gO_goalScale fO_start fO_column fO_chosen ++ (WM hM aM kM iM_stands iM_variables iM_rows iM_goals iM_differents iM_cases fM_from fM_to fM_whole fM_ways iM_plainRows fM_plainRow fM_kept fM_goalOver fM_goalUnder fM_goalMax fM_different ++ (WQ hQ aQ kQ hw fQ_inside fQ_outside fQ_shut iQ_rows iQ_allRows iQ_columns ++ (WW nW hw lw kw wl_x2 wb_x2 wG_x2)))) H → va_D A (WO hO aO kO hM hQ hw iO_answered iO_searched iO_searchedRelaxed iO_counted fO_countedCase gO_goalNumber gO_goalScale fO_start fO_column fO_chosen ++ (WM hM aM kM iM_stands iM_variables iM_rows iM_goals iM_differents iM_cases fM_from fM_to fM_whole fM_ways iM_plainRows fM_plainRow fM_kept fM_goalOver fM_goalUnder fM_goalMax fM_different ++ (WQ hQ aQ kQ hw fQ_inside fQ_outside fQ_shut iQ_rows iQ_allRows iQ_columns ++ (WW nW hw lw kw wl_x2 wb_x2 wG_x2)))) → va_S A s.heap H locs → lv_has ls 4 [(2, .int l2_x2), (0, .ref (hO 0)), (1, .ref (aO 8))] → W p l e _ s m _ below meth c H locs 0 0 _ (F0 m 2 ls [])) => loop (9) wl wb wG 0 _ _ _ b_wl b_wb (show 0 ≤ (0 : Int32).toInt ∧ (0 : Int32).toInt ≤ 8 from by decide) ((by have e9 : (0 : Int32).toInt = 0 := (by decide : (0 : Int32).toInt = 0); omega)) hP hD hS hl) ?_
  intro n9
  induction n9 with
  | zero => intro wl_x2 wb_x2 wG_x2 l2_x2 H locs ls b_wl_x2 b_wb_x2 b_l2_x2 hf9; exact False.elim (by omega)
  | succ n9 ihx2 =>
    intro wl_x2 wb_x2 wG_x2 l2_x2 H locs ls b_wl_x2 b_wb_x2 b_l2_x2 hfx2 hP hD hS hl
    refine lv_iload_n hx hb dX5_takeNumbers_2 rfl (lv_at hl 0 rfl) ?_
    refine lv_aload_n hx hb dX5_takeNumbers_3 rfl (lv_at hl 1 rfl) ?_
    refine va_get (D := (dC, dI)) (ci := 5) (v := .ref (hM 0)) (C := RX5) (T := TX5) (N := 19) hx hb hts iwsMX5_takeNumbers_in5 hown hK hP 0 rfl rfl 0 (by decide) (hts (.fieldLink RX5 74 "OptimaWorks$Solver" "model" "LOptimaWorks$Model;") (by decide +kernel)) (fun _ h9 => h9) rfl dX5_takeNumbers_4 ?_
    refine va_get (D := (dC, dI)) (ci := 1) (v := .int iM_variables) (C := RX1) (T := TX1) (N := 17) hx hb hts iwsMX5_takeNumbers_in1 hown hK hP 11 rfl rfl 1 (by decide) (hts (.fieldLink RX5 112 "OptimaWorks$Model" "variables" "I") (by decide +kernel)) (fun _ h9 => h9) rfl dX5_takeNumbers_7 ?_
    refine lv_icmp_ge (tgt := 97) hx hb dX5_takeNumbers_10 (by decide) (fun c_10 => ?_) (fun c_10 => ?_)
    · have t_10 : l2_x2.toInt ≥ iM_variables.toInt := toI_ge c_10 rfl rfl
      refine W.widen (k := 0) (n := 0) (by decide +kernel) (by decide +kernel) ?_
      exact W.vret hx hb hr (fun t9_ ht hW => ⟨⟨(wl_x2, wb_x2, wG_x2), rfl, ⟨b_wl_x2, b_wb_x2⟩, by rw [ht]; exact hP, hD⟩, hS.F ht⟩) hS.2.2 dX5_takeNumbers_97
    · have t_10 : ¬ l2_x2.toInt ≥ iM_variables.toInt := toI_nge c_10 rfl rfl
      refine lv_aload_n hx hb dX5_takeNumbers_13 rfl (lv_at hl 2 rfl) ?_
      refine lv_iload_n hx hb dX5_takeNumbers_14 rfl (lv_at hl 0 rfl) ?_
      refine va_aldq (cA := kO 8) (n := 8) (f := fun q => some (hw (418 + q))) hx hb hK hP 9 8 rfl rfl (vp_in_iff.mpr ⟨b_l2_x2.1, (Int.lt_of_lt_of_le (Int.not_le.mp t_10) (Int.le_trans b_iM_variables.2 (by decide)))⟩) dX5_takeNumbers_15 ?_
      obtain ⟨k81, hk81, b_k81⟩ : ∃ k9 : Nat, k9 = 418 + (l2_x2).toNatClampNeg ∧ (418 ≤ k9 ∧ k9 < 426 ∧ (k9 : Int) = 418 + l2_x2.toInt) := ⟨_, rfl, ald_k (x := (l2_x2)) (o := 418) (n := 8) rfl (by omega) (by omega)⟩
      refine W.eq (g2 := F0 m 16 ls [.ref (hw k81)]) (by rw [hk81]; rfl) ?_
      clear hk81
      refine lv_lconst (v := 0) hx hb dX5_takeNumbers_16 (by decide) ?_
      have p9 := cj_4_3 (WO hO aO kO hM hQ hw iO_answered iO_searched iO_searchedRelaxed iO_counted fO_countedCase gO_goalNumber gO_goalScale fO_start fO_column fO_chosen) (WM hM aM kM iM_stands iM_variables iM_rows iM_goals iM_differents iM_cases fM_from fM_to fM_whole fM_ways iM_plainRows fM_plainRow fM_kept fM_goalOver fM_goalUnder fM_goalMax fM_different) (WQ hQ aQ kQ hw fQ_inside fQ_outside fQ_shut iQ_rows iQ_allRows iQ_columns) (WW nW hw lw kw wl_x2 wb_x2 wG_x2)
      have hPc := hP.mem (fun q h => p9.mem_iff.mpr (List.mem_append_left _ h))
      have hDc := (hD.perm p9).left
      have hKc : va_K (dC, dI) vwCl (tW kw) _ := hK.sub [24] rfl
      have hFc := freeG p9 hD hS hA
      refine va_callv (va_runV (As := [.long 0]) (rest := []) ⟨hx, hb, hml, hown, hts⟩ (m_X8_setLong l dC dI nW hw lw kw wl_x2 wb_x2 wG_x2 k81 0 b_wl_x2 b_wb_x2 (by first | with_reducible assumption | omega | (rw [iI_t (by omega) (by omega)]; omega) | decide | assumption) H.size) (cwV 1 hts gwsMX5_takeNumbers_0 rfl rfl rfl hd_yX8_setLong_RX8 (by decide +kernel)) (fz_pre (va_recv hK hP (ci := 8) (q0 := 11 + (11 + (5 + (k81)))) rfl (apR rfl (apR rfl (apR rfl (WW_o (by omega)))))) hPc hKc hDc) rfl rfl hl.1 rfl (lv_room (Nat.le_of_ble_eq_true rfl)) dX5_takeNumbers_17 (by decide +kernel)) hS (fun q _ h => hFc q h) hFc (fun u t9_ H locs ht hvm hw9 hB9 hz1 hk1 hS => ?_)
      revert u hw9 hB9
      refine fz_p3 ?_
      intro wl_82 wb_82 wG_82 hw9 hB9
      try dsimp only at hw9 hB9
      revert hw9
      refine fz_a2 ?_
      intro b_wl_82 b_wb_82
      have p8 := cj_4_3 (WO hO aO kO hM hQ hw iO_answered iO_searched iO_searchedRelaxed iO_counted fO_countedCase gO_goalNumber gO_goalScale fO_start fO_column fO_chosen) (WM hM aM kM iM_stands iM_variables iM_rows iM_goals iM_differents iM_cases fM_from fM_to fM_whole fM_ways iM_plainRows fM_plainRow fM_kept fM_goalOver fM_goalUnder fM_goalMax fM_different) (WQ hQ aQ kQ hw fQ_inside fQ_outside fQ_shut iQ_rows iQ_allRows iQ_columns) (WW nW hw lw kw wl_82 wb_82 wG_82)
      obtain ⟨hP, hD⟩ := frameG p9 p8 hP hD hk1 hFc (fz_P ht hB9.1) hB9.2
      refine lv_aload_n hx hb dX5_takeNumbers_20 rfl (lv_at hl 1 rfl) ?_
      refine lv_aload_n hx hb dX5_takeNumbers_21 rfl (lv_at hl 2 rfl) ?_
      refine lv_iload_n hx hb dX5_takeNumbers_22 rfl (lv_at hl 0 rfl) ?_
      refine va_aldq (cA := kO 8) (n := 8) (f := fun q => some (hw (418 + q))) hx hb hK hP 9 8 rfl rfl (vp_in_iff.mpr ⟨b_l2_x2.1, (Int.lt_of_lt_of_le (Int.not_le.mp t_10) (Int.le_trans b_iM_variables.2 (by decide)))⟩) dX5_takeNumbers_23 ?_
      obtain ⟨k83, hk83, b_k83⟩ : ∃ k9 : Nat, k9 = 418 + (l2_x2).toNatClampNeg ∧ (418 ≤ k9 ∧ k9 < 426 ∧ (k9 : Int) = 418 + l2_x2.toInt) := ⟨_, rfl, ald_k (x := (l2_x2)) (o := 418) (n := 8) rfl (by omega) (by omega)⟩
      refine W.eq (g2 := F0 m 24 ls [.ref (hw k83), .ref (hO 0)]) (by rw [hk83]; rfl) ?_
      clear hk83
      refine lv_aload_n hx hb dX5_takeNumbers_24 rfl (lv_at hl 1 rfl) ?_
      refine va_get (D := (dC, dI)) (ci := 5) (v := .ref (hQ 0)) (C := RX5) (T := TX5) (N := 19) hx hb hts iwsMX5_takeNumbers_in5 hown hK hP 0 rfl rfl 1 (by decide) (hts _ hm_m_X5_takeNumbers_0) (fun _ h9 => h9) rfl dX5_takeNumbers_25 ?_
      refine va_get (D := (dC, dI)) (ci := 6) (v := .ref (hw 400)) (C := RX6) (T := TX6) (N := 13) hx hb hts iwsMX5_takeNumbers_in6 hown hK hP 22 rfl rfl 4 (by decide) (hts (.fieldLink RX5 253 "OptimaWorks$Tableau" "under" "LOptimaWorks$Whole;") (by decide +kernel)) (fun _ h9 => h9) rfl dX5_takeNumbers_28 ?_
      refine lv_aload_n hx hb dX5_takeNumbers_31 rfl (lv_at hl 1 rfl) ?_
      refine va_get (D := (dC, dI)) (ci := 5) (v := .ref (aO 3)) (C := RX5) (T := TX5) (N := 19) hx hb hts iwsMX5_takeNumbers_in5 hown hK hP 0 rfl rfl 9 (by decide) (hts (.fieldLink RX5 35 "OptimaWorks$Solver" "start" "[I") (by decide +kernel)) (fun _ h9 => h9) rfl dX5_takeNumbers_32 ?_
      refine lv_iload_n hx hb dX5_takeNumbers_35 rfl (lv_at hl 0 rfl) ?_
      refine va_iald (cA := kO 3) (n := 8) (f := fO_start) hx hb hK hP 4 3 rfl rfl (vp_in_iff.mpr ⟨b_l2_x2.1, (Int.lt_of_lt_of_le (Int.not_le.mp t_10) (Int.le_trans b_iM_variables.2 (by decide)))⟩) dX5_takeNumbers_36 ?_
      refine lv_topi (fun v84 hv84 => ?_)
      clear hv84
      refine lv_i2l hx hb dX5_takeNumbers_37 rfl ?_
      refine lv_topl (fun v85 hv85 => ?_)
      clear hv85
      have hFc := allFree hD hS hA
      refine va_callv (va_runV (As := [.ref (hw k83), .ref (hw 400), .long v85]) (rest := []) ⟨hx, hb, hml, hown, hts⟩ (m_X5_addTimes l dC dI hO aO kO hM hQ hw iO_answered iO_searched iO_searchedRelaxed iO_counted fO_countedCase gO_goalNumber gO_goalScale fO_start fO_column fO_chosen aM kM iM_stands iM_variables iM_rows iM_goals iM_differents iM_cases fM_from fM_to fM_whole fM_ways iM_plainRows fM_plainRow fM_kept fM_goalOver fM_goalUnder fM_goalMax fM_different aQ kQ fQ_inside fQ_outside fQ_shut iQ_rows iQ_allRows iQ_columns nW lw kw wl_82 wb_82 wG_82 k83 400 v85 (b_iO_answered) (b_iO_searched) (b_iO_searchedRelaxed) (b_iO_counted) b_fO_countedCase b_fO_column b_fO_chosen (b_iM_stands) (b_iM_variables) (b_iM_rows) (b_iM_goals) (b_iM_differents) (b_iM_cases) b_fM_ways (b_iM_plainRows) b_fM_plainRow (by first | with_reducible assumption | omega | assumption) (b_iQ_rows) (b_iQ_allRows) (b_iQ_columns) (by first | with_reducible assumption | omega | assumption) b_wl_82 b_wb_82 (by omega) (by first | with_reducible assumption | omega | (rw [iI_t (by omega) (by omega)]; omega) | decide | assumption) (by first | with_reducible assumption | omega | (rw [iI_t (by omega) (by omega)]; omega) | decide | assumption) H.size) (cwV 3 hts gwsMX5_takeNumbers_1 rfl rfl rfl hd_yX5_addTimes_RX5 (by decide +kernel)) (fz_pre (va_recv hK hP (ci := 5) (q0 := 0) rfl rfl) hP hK hD) rfl rfl hl.1 rfl (lv_room (Nat.le_of_ble_eq_true rfl)) dX5_takeNumbers_38 (by decide +kernel)) hS (fun q _ h => hFc q h) hFc (fun u t9_ H locs ht hvm hw9 hB9 hz1 hk1 hS => ?_)
      revert u hw9 hB9
      refine fz_p3 ?_
      intro wl_86 wb_86 wG_86 hw9 hB9
      try dsimp only at hw9 hB9
      revert hw9
      refine fz_a2 ?_
      intro b_wl_86 b_wb_86
      have hP : va_P (dC, dI) vwCl (WO hO aO kO hM hQ hw iO_answered iO_searched iO_searchedRelaxed iO_counted fO_countedCase gO_goalNumber gO_goalScale fO_start fO_column fO_chosen ++ (WM hM aM kM iM_stands iM_variables iM_rows iM_goals iM_differents iM_cases fM_from fM_to fM_whole fM_ways iM_plainRows fM_plainRow fM_kept fM_goalOver fM_goalUnder fM_goalMax fM_different ++ (WQ hQ aQ kQ hw fQ_inside fQ_outside fQ_shut iQ_rows iQ_allRows iQ_columns ++ (WW nW hw lw kw wl_86 wb_86 wG_86)))) H := fz_P ht hB9.1
      have hD := fz_sd hP (hB9.2.weaken (fun _ q _ h => hFc q.1 h)) rfl
      refine lv_aload_n hx hb dX5_takeNumbers_41 rfl (lv_at hl 1 rfl) ?_
      refine va_get (D := (dC, dI)) (ci := 5) (v := .ref (aO 4)) (C := RX5) (T := TX5) (N := 19) hx hb hts iwsMX5_takeNumbers_in5 hown hK hP 0 rfl rfl 10 (by decide) (hts _ hm_m_X5_takeNumbers_1) (fun _ h9 => h9) rfl dX5_takeNumbers_42 ?_
      refine lv_iload_n hx hb dX5_takeNumbers_45 rfl (lv_at hl 0 rfl) ?_
      refine va_iald (cA := kO 4) (n := 8) (f := fO_column) hx hb hK hP 5 4 rfl rfl (vp_in_iff.mpr ⟨b_l2_x2.1, (Int.lt_of_lt_of_le (Int.not_le.mp t_10) (Int.le_trans b_iM_variables.2 (by decide)))⟩) dX5_takeNumbers_46 ?_
      refine lv_topi (fun v87 hv87 => ?_)
      have b_v87 : (-1) ≤ v87.toInt ∧ v87.toInt ≤ 8 := by rw [hv87]; exact b_fO_column _
      clear hv87
      refine lv_iconst (v := (-1)) hx hb dX5_takeNumbers_47 (by decide) ?_
      refine lv_icmp_ne (tgt := 55) hx hb dX5_takeNumbers_48 (by decide) (fun c_48 => ?_) (fun c_48 => ?_)
      · have t_48 : v87.toInt ≠ (-1) := toI_ne c_48 rfl (by decide : ((-1) : Int32).toInt = (-1))
        refine lv_aload_n hx hb dX5_takeNumbers_55 rfl (lv_at hl 1 rfl) ?_
        refine va_get (D := (dC, dI)) (ci := 5) (v := .ref (hQ 0)) (C := RX5) (T := TX5) (N := 19) hx hb hts iwsMX5_takeNumbers_in5 hown hK hP 0 rfl rfl 1 (by decide) (hts _ hm_m_X5_takeNumbers_0) (fun _ h9 => h9) rfl dX5_takeNumbers_56 ?_
        refine lv_aload_n hx hb dX5_takeNumbers_59 rfl (lv_at hl 1 rfl) ?_
        refine va_get (D := (dC, dI)) (ci := 5) (v := .ref (aO 4)) (C := RX5) (T := TX5) (N := 19) hx hb hts iwsMX5_takeNumbers_in5 hown hK hP 0 rfl rfl 10 (by decide) (hts _ hm_m_X5_takeNumbers_1) (fun _ h9 => h9) rfl dX5_takeNumbers_60 ?_
        refine lv_iload_n hx hb dX5_takeNumbers_63 rfl (lv_at hl 0 rfl) ?_
        refine va_iald (cA := kO 4) (n := 8) (f := fO_column) hx hb hK hP 5 4 rfl rfl (vp_in_iff.mpr ⟨b_l2_x2.1, (Int.lt_of_lt_of_le (Int.not_le.mp t_10) (Int.le_trans b_iM_variables.2 (by decide)))⟩) dX5_takeNumbers_64 ?_
        refine lv_topi (fun v88 hv88 => ?_)
        have b_v88 : (-1) ≤ v88.toInt ∧ v88.toInt ≤ 8 := by rw [hv88]; exact b_fO_column _
        clear hv88
        refine lv_iconst (v := 1) hx hb dX5_takeNumbers_65 (by decide) ?_
        refine lv_isub hx hb dX5_takeNumbers_66 ?_
        refine lv_topi (fun y89 hy89 => ?_)
        obtain rfl : (iI (v88.toInt - 1)) = y89 := (hy89.trans (iI_sub2 (iI_of _) (by decide : (1 : Int32) = iI 1))).symm
        have p9 := cj_4_2_3 (WO hO aO kO hM hQ hw iO_answered iO_searched iO_searchedRelaxed iO_counted fO_countedCase gO_goalNumber gO_goalScale fO_start fO_column fO_chosen) (WM hM aM kM iM_stands iM_variables iM_rows iM_goals iM_differents iM_cases fM_from fM_to fM_whole fM_ways iM_plainRows fM_plainRow fM_kept fM_goalOver fM_goalUnder fM_goalMax fM_different) (WQ hQ aQ kQ hw fQ_inside fQ_outside fQ_shut iQ_rows iQ_allRows iQ_columns) (WW nW hw lw kw wl_86 wb_86 wG_86)
        have hPc := hP.mem (fun q h => p9.mem_iff.mpr (List.mem_append_left _ h))
        have hDc := (hD.perm p9).left
        have hKc : va_K (dC, dI) vwCl (tQ kQ ++ (tW kw)) _ := hK.sub [20, 21, 22, 23, 24] rfl
        have hFc := freeG p9 hD hS hA
        refine va_calli (va_runV (As := [.int (iI (v88.toInt - 1))]) (rest := []) ⟨hx, hb, hml, hown, hts⟩ (m_X6_rowOf l dC dI hQ aQ kQ hw fQ_inside fQ_outside fQ_shut iQ_rows iQ_allRows iQ_columns nW lw kw wl_86 wb_86 wG_86 (iI (v88.toInt - 1)) (b_iQ_rows) (b_iQ_allRows) (b_iQ_columns) (by first | with_reducible assumption | omega | assumption) b_wl_86 b_wb_86 (by omega) H.size) (cwV 1 hts gwsMX5_takeNumbers_2 rfl rfl rfl hd_yX6_rowOf_RX6 (by decide +kernel)) (fz_pre (va_recv hK hP (ci := 6) (q0 := 22) rfl rfl) hPc hKc hDc) rfl rfl hl.1 rfl (lv_room (Nat.le_of_ble_eq_true rfl)) dX5_takeNumbers_67 (by decide +kernel)) hS (fun q _ h => hFc q h) hFc (fun r90 u t9_ H locs ht hvm hw9 hB9 hz1 hk1 hS => ?_)
        revert hw9
        refine fz_a2 ?_
        intro b_r90 f90_0
        have p8 := p9
        obtain ⟨hP, hD⟩ := frameG p9 p8 hP hD hk1 hFc (fz_P ht hB9.1) hB9.2
        refine lv_istore_n hx hb dX5_takeNumbers_70 rfl hl (by decide) rfl (fun ls (hl : lv_has ls _ ([(3, .int r90), (2, .int l2_x2), (0, .ref (hO 0)), (1, .ref (aO 8))])) => ?_)
        refine lv_iload_n hx hb dX5_takeNumbers_71 rfl (lv_at hl 0 rfl) ?_
        refine lv_iconst (v := (-1)) hx hb dX5_takeNumbers_72 (by decide) ?_
        refine W.cut (pc := 91) (fun H locs ls stk => ∃ (wl_j12 : Nat → Int32) (wb_j12 : Nat → Int32) (wG_j12 : Nat → Nat → Int64), (∀ q : Nat, 0 ≤ (wl_j12 q).toInt ∧ (wl_j12 q).toInt ≤ 14) ∧ (∀ q : Nat, 0 ≤ (wb_j12 q).toInt ∧ (wb_j12 q).toInt ≤ 1) ∧  stk = [] ∧ va_P (dC, dI) vwCl (WO hO aO kO hM hQ hw iO_answered iO_searched iO_searchedRelaxed iO_counted fO_countedCase gO_goalNumber gO_goalScale fO_start fO_column fO_chosen ++ (WM hM aM kM iM_stands iM_variables iM_rows iM_goals iM_differents iM_cases fM_from fM_to fM_whole fM_ways iM_plainRows fM_plainRow fM_kept fM_goalOver fM_goalUnder fM_goalMax fM_different ++ (WQ hQ aQ kQ hw fQ_inside fQ_outside fQ_shut iQ_rows iQ_allRows iQ_columns ++ (WW nW hw lw kw wl_j12 wb_j12 wG_j12)))) H ∧ va_D A (WO hO aO kO hM hQ hw iO_answered iO_searched iO_searchedRelaxed iO_counted fO_countedCase gO_goalNumber gO_goalScale fO_start fO_column fO_chosen ++ (WM hM aM kM iM_stands iM_variables iM_rows iM_goals iM_differents iM_cases fM_from fM_to fM_whole fM_ways iM_plainRows fM_plainRow fM_kept fM_goalOver fM_goalUnder fM_goalMax fM_different ++ (WQ hQ aQ kQ hw fQ_inside fQ_outside fQ_shut iQ_rows iQ_allRows iQ_columns ++ (WW nW hw lw kw wl_j12 wb_j12 wG_j12)))) ∧ va_S A s.heap H locs ∧ lv_has ls 4 [(3, .int r90), (2, .int l2_x2), (0, .ref (hO 0)), (1, .ref (aO 8))]) (fun join12 => ?_) ?_
        · refine lv_icmp_eq (tgt := 91) hx hb dX5_takeNumbers_73 (by decide) (fun c_73 => ?_) (fun c_73 => ?_)
          · have t_73 : r90.toInt = (-1) := toI_eq c_73 rfl (by decide : ((-1) : Int32).toInt = (-1))
            have hl : lv_has _ _ ([(3, .int r90), (2, .int l2_x2), (0, .ref (hO 0)), (1, .ref (aO 8))]) := lv_sub hl [0, 1, 2, 3] rfl
            exact join12 _ _ _ _ ⟨wl_86, wb_86, wG_86, b_wl_86, b_wb_86, rfl, hP, hD, hS, hl⟩
          · have t_73 : ¬ r90.toInt = (-1) := toI_neq c_73 rfl (by decide : ((-1) : Int32).toInt = (-1))
            refine lv_aload_n hx hb dX5_takeNumbers_76 rfl (lv_at hl 3 rfl) ?_
            refine lv_iload_n hx hb dX5_takeNumbers_77 rfl (lv_at hl 1 rfl) ?_
            refine va_aldq (cA := kO 8) (n := 8) (f := fun q => some (hw (418 + q))) hx hb hK hP 9 8 rfl rfl (vp_in_iff.mpr ⟨b_l2_x2.1, (by omega)⟩) dX5_takeNumbers_78 ?_
            obtain ⟨k94, hk94, b_k94⟩ : ∃ k9 : Nat, k9 = 418 + (l2_x2).toNatClampNeg ∧ (418 ≤ k9 ∧ k9 < 426 ∧ (k9 : Int) = 418 + l2_x2.toInt) := ⟨_, rfl, ald_k (x := (l2_x2)) (o := 418) (n := 8) rfl (by omega) (by omega)⟩
            refine W.eq (g2 := F0 m 79 ls [.ref (hw k94)]) (by rw [hk94]; rfl) ?_
            clear hk94
            refine lv_aload_n hx hb dX5_takeNumbers_79 rfl (lv_at hl 2 rfl) ?_
            refine va_get (D := (dC, dI)) (ci := 5) (v := .ref (hQ 0)) (C := RX5) (T := TX5) (N := 19) hx hb hts iwsMX5_takeNumbers_in5 hown hK hP 0 rfl rfl 1 (by decide) (hts _ hm_m_X5_takeNumbers_0) (fun _ h9 => h9) rfl dX5_takeNumbers_80 ?_
            refine lv_iload_n hx hb dX5_takeNumbers_83 rfl (lv_at hl 0 rfl) ?_
            refine lv_iconst (v := 0) hx hb dX5_takeNumbers_84 (by decide) ?_
            have p9 := cj_4_2_3 (WO hO aO kO hM hQ hw iO_answered iO_searched iO_searchedRelaxed iO_counted fO_countedCase gO_goalNumber gO_goalScale fO_start fO_column fO_chosen) (WM hM aM kM iM_stands iM_variables iM_rows iM_goals iM_differents iM_cases fM_from fM_to fM_whole fM_ways iM_plainRows fM_plainRow fM_kept fM_goalOver fM_goalUnder fM_goalMax fM_different) (WQ hQ aQ kQ hw fQ_inside fQ_outside fQ_shut iQ_rows iQ_allRows iQ_columns) (WW nW hw lw kw wl_86 wb_86 wG_86)
            have hPc := hP.mem (fun q h => p9.mem_iff.mpr (List.mem_append_left _ h))
            have hDc := (hD.perm p9).left
            have hKc : va_K (dC, dI) vwCl (tQ kQ ++ (tW kw)) _ := hK.sub [20, 21, 22, 23, 24] rfl
            have hFc := freeG p9 hD hS hA
            refine va_callr (va_runV (As := [.int r90, .int 0]) (rest := [.ref (hw k94)]) ⟨hx, hb, hml, hown, hts⟩ (m_X6_cellAt l dC dI hQ aQ kQ hw fQ_inside fQ_outside fQ_shut iQ_rows iQ_allRows iQ_columns nW lw kw wl_86 wb_86 wG_86 r90 0 (b_iQ_rows) (b_iQ_allRows) (b_iQ_columns) (by first | with_reducible assumption | omega | assumption) b_wl_86 b_wb_86 (by first | exact b_r90 | with_reducible assumption | exact ⟨by omega, by omega⟩ | assumption) (show 0 ≤ (0 : Int32).toInt ∧ (0 : Int32).toInt ≤ 40 from by decide) (by omega) (cell_ix0 b_tb (by omega) (by have h9 := b_tb.1; omega) (by omega)) H.size) (cwV 2 hts gwsMX5_takeNumbers_3 rfl rfl rfl hd_yX6_cellAt_RX6 (by decide +kernel)) (fz_pre (va_recv hK hP (ci := 6) (q0 := 22) rfl rfl) hPc hKc hDc) rfl rfl hl.1 rfl (lv_room (Nat.le_of_ble_eq_true rfl)) dX5_takeNumbers_85 (by decide +kernel)) hS (fun q _ h => hFc q h) hFc (fun kR_95 ra95 t9_ H locs ht hvm hw9 hB9 hz1 hk1 hS => ?_)
            revert hB9
            refine fz_a2 ?_
            intro hra hB9
            subst hra
            have f95_0 := hw9
            try dsimp only at f95_0
            have p8 := p9
            obtain ⟨hP, hD⟩ := frameG p9 p8 hP hD hk1 hFc (fz_P ht hB9.1) hB9.2
            have p9 := cj_4_3 (WO hO aO kO hM hQ hw iO_answered iO_searched iO_searchedRelaxed iO_counted fO_countedCase gO_goalNumber gO_goalScale fO_start fO_column fO_chosen) (WM hM aM kM iM_stands iM_variables iM_rows iM_goals iM_differents iM_cases fM_from fM_to fM_whole fM_ways iM_plainRows fM_plainRow fM_kept fM_goalOver fM_goalUnder fM_goalMax fM_different) (WQ hQ aQ kQ hw fQ_inside fQ_outside fQ_shut iQ_rows iQ_allRows iQ_columns) (WW nW hw lw kw wl_86 wb_86 wG_86)
            have hPc := hP.mem (fun q h => p9.mem_iff.mpr (List.mem_append_left _ h))
            have hDc := (hD.perm p9).left
            have hKc : va_K (dC, dI) vwCl (tW kw) _ := hK.sub [24] rfl
            have hFc := freeG p9 hD hS hA
            refine va_callv (va_runV (As := [.ref (hw kR_95)]) (rest := []) ⟨hx, hb, hml, hown, hts⟩ (m_X8_add l dC dI nW hw lw kw wl_86 wb_86 wG_86 k94 kR_95 b_wl_86 b_wb_86 (by first | with_reducible assumption | omega | (rw [iI_t (by omega) (by omega)]; omega) | decide | assumption) (by first | with_reducible assumption | omega | (rw [iI_t (by omega) (by omega)]; omega) | decide | assumption) H.size) (cwV 1 hts gwsMX5_takeNumbers_4 rfl rfl rfl hd_yX8_add_RX8 (by decide +kernel)) (fz_pre (va_recv hK hP (ci := 8) (q0 := 11 + (11 + (5 + (k94)))) rfl (apR rfl (apR rfl (apR rfl (WW_o (by omega)))))) hPc hKc hDc) rfl rfl hl.1 rfl (lv_room (Nat.le_of_ble_eq_true rfl)) dX5_takeNumbers_88 (by decide +kernel)) hS (fun q _ h => hFc q h) hFc (fun u t9_ H locs ht hvm hw9 hB9 hz1 hk1 hS => ?_)
            revert u hw9 hB9
            refine fz_p3 ?_
            intro wl_96 wb_96 wG_96 hw9 hB9
            try dsimp only at hw9 hB9
            revert hw9
            refine fz_a2 ?_
            intro b_wl_96 b_wb_96
            have p8 := cj_4_3 (WO hO aO kO hM hQ hw iO_answered iO_searched iO_searchedRelaxed iO_counted fO_countedCase gO_goalNumber gO_goalScale fO_start fO_column fO_chosen) (WM hM aM kM iM_stands iM_variables iM_rows iM_goals iM_differents iM_cases fM_from fM_to fM_whole fM_ways iM_plainRows fM_plainRow fM_kept fM_goalOver fM_goalUnder fM_goalMax fM_different) (WQ hQ aQ kQ hw fQ_inside fQ_outside fQ_shut iQ_rows iQ_allRows iQ_columns) (WW nW hw lw kw wl_96 wb_96 wG_96)
            obtain ⟨hP, hD⟩ := frameG p9 p8 hP hD hk1 hFc (fz_P ht hB9.1) hB9.2
            have hl : lv_has _ _ ([(3, .int r90), (2, .int l2_x2), (0, .ref (hO 0)), (1, .ref (aO 8))]) := lv_sub hl [0, 1, 2, 3] rfl
            exact join12 _ _ _ _ ⟨wl_96, wb_96, wG_96, b_wl_96, b_wb_96, rfl, hP, hD, hS, hl⟩
        · rintro H locs ls stk ⟨wl_j12, wb_j12, wG_j12, b_wl_j12, b_wb_j12, rfl, hP, hD, hS, hl⟩
          refine lv_iinc (v := (iI (l2_x2.toInt + 1))) hx hb dX5_takeNumbers_91 hl (k := 1) rfl (iI_add2 (iI_of _) (by decide : (1 : Int32) = iI 1)) (by decide) rfl (fun ls (hl : lv_has ls _ ([(2, .int (iI (l2_x2.toInt + 1))), (3, .int r90), (0, .ref (hO 0)), (1, .ref (aO 8))])) => ?_)
          refine lv_goto (tgt := 2) hx hb dX5_takeNumbers_94 (by decide) ?_
          have hl : lv_has _ _ ([(2, .int (iI (l2_x2.toInt + 1))), (0, .ref (hO 0)), (1, .ref (aO 8))]) := lv_sub hl [0, 2, 3] rfl
          exact ihx2 wl_j12 wb_j12 wG_j12 (iI (l2_x2.toInt + 1)) _ _ _ b_wl_j12 b_wb_j12 (iI_rng (Int.le_trans (by decide) (Int.add_le_add (b_l2_x2.1) (Int.le_refl _))) (by omega) (by decide) (by decide)) (by have e9 : ((iI (l2_x2.toInt + 1))).toInt = (l2_x2.toInt + 1) := (iI_t (Int.le_trans (by decide) (Int.add_le_add (b_l2_x2.1) (Int.le_refl _))) (Int.le_trans (Int.add_le_add (b_l2_x2.2) (Int.le_refl _)) (by decide))); omega) hP hD hS hl
      · have t_48 : v87.toInt = (-1) := toI_nne c_48 rfl (by decide : ((-1) : Int32).toInt = (-1))
        refine lv_iconst (v := (-1)) hx hb dX5_takeNumbers_51 (by decide) ?_
        refine lv_goto (tgt := 70) hx hb dX5_takeNumbers_52 (by decide) ?_
        refine lv_istore_n hx hb dX5_takeNumbers_70 rfl hl (by decide) rfl (fun ls (hl : lv_has ls _ ([(3, .int (-1)), (2, .int l2_x2), (0, .ref (hO 0)), (1, .ref (aO 8))])) => ?_)
        refine lv_iload_n hx hb dX5_takeNumbers_71 rfl (lv_at hl 0 rfl) ?_
        refine lv_iconst (v := (-1)) hx hb dX5_takeNumbers_72 (by decide) ?_
        refine lv_icmp_eq (tgt := 91) hx hb dX5_takeNumbers_73 (by decide) (fun _ => ?_) (fun c9 => absurd (by decide) c9)
        refine lv_iinc (v := (iI (l2_x2.toInt + 1))) hx hb dX5_takeNumbers_91 hl (k := 1) rfl (iI_add2 (iI_of _) (by decide : (1 : Int32) = iI 1)) (by decide) rfl (fun ls (hl : lv_has ls _ ([(2, .int (iI (l2_x2.toInt + 1))), (3, .int (-1)), (0, .ref (hO 0)), (1, .ref (aO 8))])) => ?_)
        refine lv_goto (tgt := 2) hx hb dX5_takeNumbers_94 (by decide) ?_
        have hl : lv_has _ _ ([(2, .int (iI (l2_x2.toInt + 1))), (0, .ref (hO 0)), (1, .ref (aO 8))]) := lv_sub hl [0, 2, 3] rfl
        exact ihx2 wl_86 wb_86 wG_86 (iI (l2_x2.toInt + 1)) _ _ _ b_wl_86 b_wb_86 (iI_rng (Int.le_trans (by decide) (Int.add_le_add (b_l2_x2.1) (Int.le_refl _))) (by omega) (by decide) (by decide)) (by have e9 : ((iI (l2_x2.toInt + 1))).toInt = (l2_x2.toInt + 1) := (iI_t (Int.le_trans (by decide) (Int.add_le_add (b_l2_x2.1) (Int.le_refl _))) (Int.le_trans (Int.add_le_add (b_l2_x2.2) (Int.le_refl _)) (by decide))); omega) hP hD hS hl
theorem dX5_keepAnswer_0 : decode cX5_keepAnswer 0 = .ok (.aload_n 0, 1) := dk_42 (by decide +kernel)
theorem dX5_keepAnswer_1 : decode cX5_keepAnswer 1 = .ok (.iconst 1, 1) := dk_4 (by decide +kernel)
theorem dX5_keepAnswer_2 : decode cX5_keepAnswer 2 = .ok (.putfield 78, 3) := dk_181 (by decide +kernel)
theorem dX5_keepAnswer_5 : decode cX5_keepAnswer 5 = .ok (.aload_n 0, 1) := dk_42 (by decide +kernel)
theorem dX5_keepAnswer_6 : decode cX5_keepAnswer 6 = .ok (.getfield 58, 3) := dk_180 (by decide +kernel)
theorem dX5_keepAnswer_9 : decode cX5_keepAnswer 9 = .ok (.aload_n 0, 1) := dk_42 (by decide +kernel)
theorem dX5_keepAnswer_10 : decode cX5_keepAnswer 10 = .ok (.getfield 12, 3) := dk_180 (by decide +kernel)
theorem dX5_keepAnswer_13 : decode cX5_keepAnswer 13 = .ok (.getfield 253, 3) := dk_180 (by decide +kernel)
theorem dX5_keepAnswer_16 : decode cX5_keepAnswer 16 = .ok (.invokevirtual 268, 3) := dk_182 (by decide +kernel)
theorem dX5_keepAnswer_19 : decode cX5_keepAnswer 19 = .ok (.iconst 0, 1) := dk_3 (by decide +kernel)
theorem dX5_keepAnswer_20 : decode cX5_keepAnswer 20 = .ok (.istore_n 1, 1) := dk_60 (by decide +kernel)
theorem dX5_keepAnswer_21 : decode cX5_keepAnswer 21 = .ok (.iload_n 1, 1) := dk_27 (by decide +kernel)
theorem dX5_keepAnswer_22 : decode cX5_keepAnswer 22 = .ok (.aload_n 0, 1) := dk_42 (by decide +kernel)
theorem dX5_keepAnswer_23 : decode cX5_keepAnswer 23 = .ok (.getfield 74, 3) := dk_180 (by decide +kernel)
theorem dX5_keepAnswer_26 : decode cX5_keepAnswer 26 = .ok (.getfield 112, 3) := dk_180 (by decide +kernel)
theorem dX5_keepAnswer_29 : decode cX5_keepAnswer 29 = .ok (.if_icmp .ge 24, 3) := dk_162 (by decide +kernel)
theorem dX5_keepAnswer_32 : decode cX5_keepAnswer 32 = .ok (.aload_n 0, 1) := dk_42 (by decide +kernel)
theorem dX5_keepAnswer_33 : decode cX5_keepAnswer 33 = .ok (.getfield 48, 3) := dk_180 (by decide +kernel)
theorem dX5_keepAnswer_36 : decode cX5_keepAnswer 36 = .ok (.iload_n 1, 1) := dk_27 (by decide +kernel)
theorem dX5_keepAnswer_37 : decode cX5_keepAnswer 37 = .ok (.aaload, 1) := dk_50 (by decide +kernel)
theorem dX5_keepAnswer_38 : decode cX5_keepAnswer 38 = .ok (.aload_n 0, 1) := dk_42 (by decide +kernel)
theorem dX5_keepAnswer_39 : decode cX5_keepAnswer 39 = .ok (.getfield 62, 3) := dk_180 (by decide +kernel)
theorem dX5_keepAnswer_42 : decode cX5_keepAnswer 42 = .ok (.iload_n 1, 1) := dk_27 (by decide +kernel)
theorem dX5_keepAnswer_43 : decode cX5_keepAnswer 43 = .ok (.aaload, 1) := dk_50 (by decide +kernel)
theorem dX5_keepAnswer_44 : decode cX5_keepAnswer 44 = .ok (.invokevirtual 268, 3) := dk_182 (by decide +kernel)
theorem dX5_keepAnswer_47 : decode cX5_keepAnswer 47 = .ok (.iinc 1 1, 3) := dk_132 (by decide +kernel)
theorem dX5_keepAnswer_50 : decode cX5_keepAnswer 50 = .ok (.goto (-29), 3) := dk_167 (by decide +kernel)
theorem dX5_keepAnswer_53 : decode cX5_keepAnswer 53 = .ok (.iconst 0, 1) := dk_3 (by decide +kernel)
theorem dX5_keepAnswer_54 : decode cX5_keepAnswer 54 = .ok (.istore_n 1, 1) := dk_60 (by decide +kernel)
theorem dX5_keepAnswer_55 : decode cX5_keepAnswer 55 = .ok (.iload_n 1, 1) := dk_27 (by decide +kernel)
theorem dX5_keepAnswer_56 : decode cX5_keepAnswer 56 = .ok (.aload_n 0, 1) := dk_42 (by decide +kernel)
theorem dX5_keepAnswer_57 : decode cX5_keepAnswer 57 = .ok (.getfield 74, 3) := dk_180 (by decide +kernel)
theorem dX5_keepAnswer_60 : decode cX5_keepAnswer 60 = .ok (.getfield 98, 3) := dk_180 (by decide +kernel)
theorem dX5_keepAnswer_63 : decode cX5_keepAnswer 63 = .ok (.if_icmp .ge 31, 3) := dk_162 (by decide +kernel)
theorem dX5_keepAnswer_66 : decode cX5_keepAnswer 66 = .ok (.aload_n 0, 1) := dk_42 (by decide +kernel)
theorem dX5_keepAnswer_67 : decode cX5_keepAnswer 67 = .ok (.getfield 52, 3) := dk_180 (by decide +kernel)
theorem dX5_keepAnswer_70 : decode cX5_keepAnswer 70 = .ok (.iload_n 1, 1) := dk_27 (by decide +kernel)
theorem dX5_keepAnswer_71 : decode cX5_keepAnswer 71 = .ok (.aaload, 1) := dk_50 (by decide +kernel)
theorem dX5_keepAnswer_72 : decode cX5_keepAnswer 72 = .ok (.aload_n 0, 1) := dk_42 (by decide +kernel)
theorem dX5_keepAnswer_73 : decode cX5_keepAnswer 73 = .ok (.getfield 12, 3) := dk_180 (by decide +kernel)
theorem dX5_keepAnswer_76 : decode cX5_keepAnswer 76 = .ok (.aload_n 0, 1) := dk_42 (by decide +kernel)
theorem dX5_keepAnswer_77 : decode cX5_keepAnswer 77 = .ok (.iload_n 1, 1) := dk_27 (by decide +kernel)
theorem dX5_keepAnswer_78 : decode cX5_keepAnswer 78 = .ok (.invokevirtual 225, 3) := dk_182 (by decide +kernel)
theorem dX5_keepAnswer_81 : decode cX5_keepAnswer 81 = .ok (.iconst 0, 1) := dk_3 (by decide +kernel)
theorem dX5_keepAnswer_82 : decode cX5_keepAnswer 82 = .ok (.invokevirtual 177, 3) := dk_182 (by decide +kernel)
theorem dX5_keepAnswer_85 : decode cX5_keepAnswer 85 = .ok (.invokevirtual 268, 3) := dk_182 (by decide +kernel)
theorem dX5_keepAnswer_88 : decode cX5_keepAnswer 88 = .ok (.iinc 1 1, 3) := dk_132 (by decide +kernel)
theorem dX5_keepAnswer_91 : decode cX5_keepAnswer 91 = .ok (.goto (-36), 3) := dk_167 (by decide +kernel)
theorem dX5_keepAnswer_94 : decode cX5_keepAnswer 94 = .ok (.return_, 1) := dk_177 (by decide +kernel)
def wsMX5_keepAnswer : List Cond := .code yX5_keepAnswer cX5_keepAnswer 2 none :: ([.fieldLink RX5 78 "OptimaWorks$Solver" "answered" "Z", .fieldLink RX5 58 "OptimaWorks$Solver" "answerUnder" "LOptimaWorks$Whole;", .fieldLink RX5 12 "OptimaWorks$Solver" "tableau" "LOptimaWorks$Tableau;", .fieldLink RX5 253 "OptimaWorks$Tableau" "under" "LOptimaWorks$Whole;", .fieldLink RX5 74 "OptimaWorks$Solver" "model" "LOptimaWorks$Model;", .fieldLink RX5 112 "OptimaWorks$Model" "variables" "I", .fieldLink RX5 48 "OptimaWorks$Solver" "answer" "[LOptimaWorks$Whole;", .fieldLink RX5 62 "OptimaWorks$Solver" "trial" "[LOptimaWorks$Whole;", .fieldLink RX5 98 "OptimaWorks$Model" "goals" "I", .fieldLink RX5 52 "OptimaWorks$Solver" "answerGoal" "[LOptimaWorks$Whole;"] ++ wsX10 ++ wsX50 ++ wsX60 ++ (wsV RX5 268 RX8 yX8_copy wsMX8_copy) ++ (wsV RX5 225 RX5 yX5_goalRow wsMX5_goalRow) ++ (wsV RX5 177 RX6 yX6_cellAt wsMX6_cellAt))
theorem iwsMX5_keepAnswer_in1 : ∀ w ∈ wsX10, w ∈ wsMX5_keepAnswer := fun _ h => List.mem_cons_of_mem _ (List.mem_append_left _ (List.mem_append_left _ (List.mem_append_left _ (List.mem_append_left _ (List.mem_append_left _ (List.mem_append_right _ h))))))
theorem iwsMX5_keepAnswer_in5 : ∀ w ∈ wsX50, w ∈ wsMX5_keepAnswer := fun _ h => List.mem_cons_of_mem _ (List.mem_append_left _ (List.mem_append_left _ (List.mem_append_left _ (List.mem_append_left _ (List.mem_append_right _ h)))))
theorem iwsMX5_keepAnswer_in6 : ∀ w ∈ wsX60, w ∈ wsMX5_keepAnswer := fun _ h => List.mem_cons_of_mem _ (List.mem_append_left _ (List.mem_append_left _ (List.mem_append_left _ (List.mem_append_right _ h))))
theorem gwsMX5_keepAnswer_0 : GoodIn wsMX5_keepAnswer (wsV RX5 268 RX8 yX8_copy wsMX8_copy) := goodIn_sub (fun _ h => List.mem_cons_of_mem _ (List.mem_append_left _ (List.mem_append_left _ (List.mem_append_right _ h)))) (gdV (by decide +kernel) gdwsMX8_copy)
theorem gwsMX5_keepAnswer_1 : GoodIn wsMX5_keepAnswer (wsV RX5 225 RX5 yX5_goalRow wsMX5_goalRow) := goodIn_sub (fun _ h => List.mem_cons_of_mem _ (List.mem_append_left _ (List.mem_append_right _ h))) (gdV (by decide +kernel) gdwsMX5_goalRow)
theorem gwsMX5_keepAnswer_2 : GoodIn wsMX5_keepAnswer (wsV RX5 177 RX6 yX6_cellAt wsMX6_cellAt) := goodIn_sub (fun _ h => List.mem_cons_of_mem _ (List.mem_append_right _ h)) (gdV (by decide +kernel) gdwsMX6_cellAt)
theorem gdwsMX5_keepAnswer : wsMX5_keepAnswer.all goodWord = true := gdC rfl (gdA (gdA (gdA (gdA (gdA (gdA (by decide +kernel : ([.fieldLink RX5 78 "OptimaWorks$Solver" "answered" "Z", .fieldLink RX5 58 "OptimaWorks$Solver" "answerUnder" "LOptimaWorks$Whole;", .fieldLink RX5 12 "OptimaWorks$Solver" "tableau" "LOptimaWorks$Tableau;", .fieldLink RX5 253 "OptimaWorks$Tableau" "under" "LOptimaWorks$Whole;", .fieldLink RX5 74 "OptimaWorks$Solver" "model" "LOptimaWorks$Model;", .fieldLink RX5 112 "OptimaWorks$Model" "variables" "I", .fieldLink RX5 48 "OptimaWorks$Solver" "answer" "[LOptimaWorks$Whole;", .fieldLink RX5 62 "OptimaWorks$Solver" "trial" "[LOptimaWorks$Whole;", .fieldLink RX5 98 "OptimaWorks$Model" "goals" "I", .fieldLink RX5 52 "OptimaWorks$Solver" "answerGoal" "[LOptimaWorks$Whole;"] : List Cond).all goodWord = true) gdwsX10) gdwsX50) gdwsX60) (gdV (by decide +kernel) gdwsMX8_copy)) (gdV (by decide +kernel) gdwsMX5_goalRow)) (gdV (by decide +kernel) gdwsMX6_cellAt))
theorem hm_m_X5_keepAnswer_0 : (.fieldLink RX5 12 "OptimaWorks$Solver" "tableau" "LOptimaWorks$Tableau;" : Cond) ∈ wsMX5_keepAnswer := by decide +kernel
theorem hm_m_X5_keepAnswer_1 : (.fieldLink RX5 74 "OptimaWorks$Solver" "model" "LOptimaWorks$Model;" : Cond) ∈ wsMX5_keepAnswer := by decide +kernel
set_option maxHeartbeats 4000000 in
set_option maxRecDepth 100000 in
/-- the answer is kept -/
theorem m_X5_keepAnswer (l : Launch) (dC : Nat → ClassId) (dI : Nat → Nat → Nat) (hO : Nat → Nat) (aO : Nat → Nat) (kO : Nat → ClassId) (hM : Nat → Nat) (hQ : Nat → Nat) (hw : Nat → Nat) (iO_answered : Int32) (iO_searched : Int32) (iO_searchedRelaxed : Int32) (iO_counted : Int32) (fO_countedCase : Nat → Int32) (gO_goalNumber : Nat → Int64) (gO_goalScale : Nat → Int64) (fO_start : Nat → Int32) (fO_column : Nat → Int32) (fO_chosen : Nat → Int32) (aM : Nat → Nat) (kM : Nat → ClassId) (iM_stands : Int32) (iM_variables : Int32) (iM_rows : Int32) (iM_goals : Int32) (iM_differents : Int32) (iM_cases : Int32) (fM_from : Nat → Int32) (fM_to : Nat → Int32) (fM_whole : Nat → Int32) (fM_ways : Nat → Int32) (iM_plainRows : Int32) (fM_plainRow : Nat → Int32) (fM_kept : Nat → Int32) (fM_goalOver : Nat → Int32) (fM_goalUnder : Nat → Int32) (fM_goalMax : Nat → Int32) (fM_different : Nat → Int32) (aQ : Nat → Nat) (kQ : Nat → ClassId) (fQ_inside : Nat → Int32) (fQ_outside : Nat → Int32) (fQ_shut : Nat → Int32) (iQ_rows : Int32) (iQ_allRows : Int32) (iQ_columns : Int32) (nW : Nat) (lw : Nat → Nat) (kw : ClassId) (wl : Nat → Int32) (wb : Nat → Int32) (wG : Nat → Nat → Int64) (b_iO_answered : 0 ≤ iO_answered.toInt ∧ iO_answered.toInt ≤ 1) (b_iO_searched : 0 ≤ iO_searched.toInt ∧ iO_searched.toInt ≤ 1) (b_iO_searchedRelaxed : 0 ≤ iO_searchedRelaxed.toInt ∧ iO_searchedRelaxed.toInt ≤ 1) (b_iO_counted : (-1) ≤ iO_counted.toInt ∧ iO_counted.toInt ≤ 64) (b_fO_countedCase : ∀ q : Nat, 0 ≤ (fO_countedCase q).toInt ∧ (fO_countedCase q).toInt ≤ 200000) (b_fO_column : ∀ q : Nat, (-1) ≤ (fO_column q).toInt ∧ (fO_column q).toInt ≤ 8) (b_fO_chosen : ∀ q : Nat, 0 ≤ (fO_chosen q).toInt ∧ (fO_chosen q).toInt ≤ 2) (b_iM_stands : 0 ≤ iM_stands.toInt ∧ iM_stands.toInt ≤ 1) (b_iM_variables : 0 ≤ iM_variables.toInt ∧ iM_variables.toInt ≤ 8) (b_iM_rows : 0 ≤ iM_rows.toInt ∧ iM_rows.toInt ≤ 12) (b_iM_goals : 0 ≤ iM_goals.toInt ∧ iM_goals.toInt ≤ 3) (b_iM_differents : 0 ≤ iM_differents.toInt ∧ iM_differents.toInt ≤ 8) (b_iM_cases : 0 ≤ iM_cases.toInt ∧ iM_cases.toInt ≤ 200000) (b_fM_ways : ∀ q : Nat, 0 ≤ (fM_ways q).toInt ∧ (fM_ways q).toInt ≤ 3) (b_iM_plainRows : 0 ≤ iM_plainRows.toInt ∧ iM_plainRows.toInt ≤ 12) (b_fM_plainRow : ∀ q : Nat, 0 ≤ (fM_plainRow q).toInt ∧ (fM_plainRow q).toInt ≤ 11) (b_pr : iM_plainRows.toInt ≤ iM_rows.toInt) (b_iQ_rows : 0 ≤ iQ_rows.toInt ∧ iQ_rows.toInt ≤ 40) (b_iQ_allRows : 0 ≤ iQ_allRows.toInt ∧ iQ_allRows.toInt ≤ 40) (b_iQ_columns : 0 ≤ iQ_columns.toInt ∧ iQ_columns.toInt ≤ 40) (b_tb : TbO iQ_rows iQ_allRows iQ_columns) (b_wl : ∀ q : Nat, 0 ≤ (wl q).toInt ∧ (wl q).toInt ≤ 14) (b_wb : ∀ q : Nat, 0 ≤ (wb q).toInt ∧ (wb q).toInt ≤ 1) (hnW : 432 ≤ nW) (hc8 : iQ_columns.toInt ≤ 8) (hr20 : iQ_rows.toInt ≤ 20) (sz : Nat) : Met l yX5_keepAnswer wsMX5_keepAnswer ({ frames := 2, cells := 0, slots := 0, locals := 41 }) (va_Pc [.ref (hO 0)] (fun U => U.heap.size = sz ∧ va_P (dC, dI) vwCl (WO hO aO kO hM hQ hw iO_answered iO_searched iO_searchedRelaxed iO_counted fO_countedCase gO_goalNumber gO_goalScale fO_start fO_column fO_chosen ++ (WM hM aM kM iM_stands iM_variables iM_rows iM_goals iM_differents iM_cases fM_from fM_to fM_whole fM_ways iM_plainRows fM_plainRow fM_kept fM_goalOver fM_goalUnder fM_goalMax fM_different ++ (WQ hQ aQ kQ hw fQ_inside fQ_outside fQ_shut iQ_rows iQ_allRows iQ_columns ++ (WW nW hw lw kw wl wb wG)))) U.heap ∧ va_K (dC, dI) vwCl (tO kO ++ (tM kM ++ (tQ kQ ++ (tW kw)))) U ∧ va_D (fun _ => True) (WO hO aO kO hM hQ hw iO_answered iO_searched iO_searchedRelaxed iO_counted fO_countedCase gO_goalNumber gO_goalScale fO_start fO_column fO_chosen ++ (WM hM aM kM iM_stands iM_variables iM_rows iM_goals iM_differents iM_cases fM_from fM_to fM_whole fM_ways iM_plainRows fM_plainRow fM_kept fM_goalOver fM_goalUnder fM_goalMax fM_different ++ (WQ hQ aQ kQ hw fQ_inside fQ_outside fQ_shut iQ_rows iQ_allRows iQ_columns ++ (WW nW hw lw kw wl wb wG)))))) (va_Qv (fun (u : (Int32) × (Nat → Int32) × (Nat → Int32) × (Nat → Nat → Int64)) => (0 ≤ (u.1).toInt ∧ (u.1).toInt ≤ 1) ∧ (∀ q : Nat, 0 ≤ ((u.2.1) q).toInt ∧ ((u.2.1) q).toInt ≤ 14) ∧ (∀ q : Nat, 0 ≤ ((u.2.2.1) q).toInt ∧ ((u.2.2.1) q).toInt ≤ 1)) (fun (u : (Int32) × (Nat → Int32) × (Nat → Int32) × (Nat → Nat → Int64)) t => va_P (dC, dI) vwCl (WO hO aO kO hM hQ hw (u.1) iO_searched iO_searchedRelaxed iO_counted fO_countedCase gO_goalNumber gO_goalScale fO_start fO_column fO_chosen ++ (WM hM aM kM iM_stands iM_variables iM_rows iM_goals iM_differents iM_cases fM_from fM_to fM_whole fM_ways iM_plainRows fM_plainRow fM_kept fM_goalOver fM_goalUnder fM_goalMax fM_different ++ (WQ hQ aQ kQ hw fQ_inside fQ_outside fQ_shut iQ_rows iQ_allRows iQ_columns ++ (WW nW hw lw kw (u.2.1) (u.2.2.1) (u.2.2.2))))) t.heap ∧ va_D (va_A (WO hO aO kO hM hQ hw iO_answered iO_searched iO_searchedRelaxed iO_counted fO_countedCase gO_goalNumber gO_goalScale fO_start fO_column fO_chosen ++ (WM hM aM kM iM_stands iM_variables iM_rows iM_goals iM_differents iM_cases fM_from fM_to fM_whole fM_ways iM_plainRows fM_plainRow fM_kept fM_goalOver fM_goalUnder fM_goalMax fM_different ++ (WQ hQ aQ kQ hw fQ_inside fQ_outside fQ_shut iQ_rows iQ_allRows iQ_columns ++ (WW nW hw lw kw wl wb wG)))) sz) (WO hO aO kO hM hQ hw (u.1) iO_searched iO_searchedRelaxed iO_counted fO_countedCase gO_goalNumber gO_goalScale fO_start fO_column fO_chosen ++ (WM hM aM kM iM_stands iM_variables iM_rows iM_goals iM_differents iM_cases fM_from fM_to fM_whole fM_ways iM_plainRows fM_plainRow fM_kept fM_goalOver fM_goalUnder fM_goalMax fM_different ++ (WQ hQ aQ kQ hw fQ_inside fQ_outside fQ_shut iQ_rows iQ_allRows iQ_columns ++ (WW nW hw lw kw (u.2.1) (u.2.2.1) (u.2.2.2)))))) (va_A (WO hO aO kO hM hQ hw iO_answered iO_searched iO_searchedRelaxed iO_counted fO_countedCase gO_goalNumber gO_goalScale fO_start fO_column fO_chosen ++ (WM hM aM kM iM_stands iM_variables iM_rows iM_goals iM_differents iM_cases fM_from fM_to fM_whole fM_ways iM_plainRows fM_plainRow fM_kept fM_goalOver fM_goalUnder fM_goalMax fM_different ++ (WQ hQ aQ kQ hw fQ_inside fQ_outside fQ_shut iQ_rows iQ_allRows iQ_columns ++ (WW nW hw lw kw wl wb wG)))) sz)) 0 0 (va_A (WO hO aO kO hM hQ hw iO_answered iO_searched iO_searchedRelaxed iO_counted fO_countedCase gO_goalNumber gO_goalScale fO_start fO_column fO_chosen ++ (WM hM aM kM iM_stands iM_variables iM_rows iM_goals iM_differents iM_cases fM_from fM_to fM_whole fM_ways iM_plainRows fM_plainRow fM_kept fM_goalOver fM_goalUnder fM_goalMax fM_different ++ (WQ hQ aQ kQ hw fQ_inside fQ_outside fQ_shut iQ_rows iQ_allRows iQ_columns ++ (WW nW hw lw kw wl wb wG)))) sz) := by
  refine Met.ofW (cc := cX5_keepAnswer) (maxL := 2) (ret := none) (by decide) rfl ?_
  intro p e s m args below meth c s₁ B hml hv
  obtain ⟨rfl, hsz, hP, hK, hD0⟩ := hv
  have hx := B.exec
  have hb := B.bytes
  have hr := B.returns
  have hts := atoms_spec (ws := wsMX5_keepAnswer) B.pre
  have hown : s.vm.findClass RX5 = some m.cls := findClass_of_methodNamed B.named
  have hlocks := B.notSynchronized
  subst hsz
  have hD := hD0.self (sz := s.heap.size)
  generalize hAe : va_A (WO hO aO kO hM hQ hw iO_answered iO_searched iO_searchedRelaxed iO_counted fO_countedCase gO_goalNumber gO_goalScale fO_start fO_column fO_chosen ++ (WM hM aM kM iM_stands iM_variables iM_rows iM_goals iM_differents iM_cases fM_from fM_to fM_whole fM_ways iM_plainRows fM_plainRow fM_kept fM_goalOver fM_goalUnder fM_goalMax fM_different ++ (WQ hQ aQ kQ hw fQ_inside fQ_outside fQ_shut iQ_rows iQ_allRows iQ_columns ++ (WW nW hw lw kw wl wb wG)))) s.heap.size = A at hD ⊢
  have hA : ∀ q : Nat, s.heap.size ≤ q → A q := fun q h => by rw [← hAe]; exact Or.inr h
  have hS : va_S A s.heap s.heap [] := va_S.rf
  have hl := lv_entry ([.ref (hO 0)]) (n := 2) (Nat.le_of_ble_eq_true rfl)
  rw [lg_entry_eq]
  generalize (lg_sl ([.ref (hO 0)]) ++ List.replicate (2 - (lg_sl ([.ref (hO 0)])).length) Slot.unset).toArray = ls at hl ⊢
  have hl : lv_has ls 2 [(0, .ref (hO 0))] := hl
  refine lv_aload_n hx hb dX5_keepAnswer_0 rfl (lv_at hl 0 rfl) ?_
  refine lv_iconst (v := 1) hx hb dX5_keepAnswer_1 (by decide) ?_
  refine va_put (D := (dC, dI)) (ci := 5) (v := .int 1) (ty := .boolean) (C := RX5) (T := TX5) (N := 19) hx hb hts iwsMX5_keepAnswer_in5 tyX5 tyX5_ok nmX5 hown hK hP hD hS 0 rfl rfl 2 (by decide) (hts (.fieldLink RX5 78 "OptimaWorks$Solver" "answered" "Z") (by decide +kernel)) (fun _ h9 => h9) rfl (by decide +kernel) rfl rfl (Nat.le_of_ble_eq_true rfl) dX5_keepAnswer_2 (fun H locs hP hD hS => ?_)
  have hP : va_P (dC, dI) vwCl (WO hO aO kO hM hQ hw 1 iO_searched iO_searchedRelaxed iO_counted fO_countedCase gO_goalNumber gO_goalScale fO_start fO_column fO_chosen ++ (WM hM aM kM iM_stands iM_variables iM_rows iM_goals iM_differents iM_cases fM_from fM_to fM_whole fM_ways iM_plainRows fM_plainRow fM_kept fM_goalOver fM_goalUnder fM_goalMax fM_different ++ (WQ hQ aQ kQ hw fQ_inside fQ_outside fQ_shut iQ_rows iQ_allRows iQ_columns ++ (WW nW hw lw kw wl wb wG)))) H := hP
  have hD := fz_sd hP (hD) rfl
  refine lv_aload_n hx hb dX5_keepAnswer_5 rfl (lv_at hl 0 rfl) ?_
  refine va_get (D := (dC, dI)) (ci := 5) (v := .ref (hw 417)) (C := RX5) (T := TX5) (N := 19) hx hb hts iwsMX5_keepAnswer_in5 hown hK hP 0 rfl rfl 14 (by decide) (hts (.fieldLink RX5 58 "OptimaWorks$Solver" "answerUnder" "LOptimaWorks$Whole;") (by decide +kernel)) (fun _ h9 => h9) rfl dX5_keepAnswer_6 ?_
  refine lv_aload_n hx hb dX5_keepAnswer_9 rfl (lv_at hl 0 rfl) ?_
  refine va_get (D := (dC, dI)) (ci := 5) (v := .ref (hQ 0)) (C := RX5) (T := TX5) (N := 19) hx hb hts iwsMX5_keepAnswer_in5 hown hK hP 0 rfl rfl 1 (by decide) (hts _ hm_m_X5_keepAnswer_0) (fun _ h9 => h9) rfl dX5_keepAnswer_10 ?_
  refine va_get (D := (dC, dI)) (ci := 6) (v := .ref (hw 400)) (C := RX6) (T := TX6) (N := 13) hx hb hts iwsMX5_keepAnswer_in6 hown hK hP 22 rfl rfl 4 (by decide) (hts (.fieldLink RX5 253 "OptimaWorks$Tableau" "under" "LOptimaWorks$Whole;") (by decide +kernel)) (fun _ h9 => h9) rfl dX5_keepAnswer_13 ?_
  have p9 := cj_4_3 (WO hO aO kO hM hQ hw 1 iO_searched iO_searchedRelaxed iO_counted fO_countedCase gO_goalNumber gO_goalScale fO_start fO_column fO_chosen) (WM hM aM kM iM_stands iM_variables iM_rows iM_goals iM_differents iM_cases fM_from fM_to fM_whole fM_ways iM_plainRows fM_plainRow fM_kept fM_goalOver fM_goalUnder fM_goalMax fM_different) (WQ hQ aQ kQ hw fQ_inside fQ_outside fQ_shut iQ_rows iQ_allRows iQ_columns) (WW nW hw lw kw wl wb wG)
  have hPc := hP.mem (fun q h => p9.mem_iff.mpr (List.mem_append_left _ h))
  have hDc := (hD.perm p9).left
  have hKc : va_K (dC, dI) vwCl (tW kw) _ := hK.sub [24] rfl
  have hFc := freeG p9 hD hS hA
  refine va_callv (va_runV (As := [.ref (hw 400)]) (rest := []) ⟨hx, hb, hml, hown, hts⟩ (m_X8_copy l dC dI nW hw lw kw wl wb wG 417 400 b_wl b_wb (by first | with_reducible assumption | omega | (rw [iI_t (by omega) (by omega)]; omega) | decide | assumption) (by first | with_reducible assumption | omega | (rw [iI_t (by omega) (by omega)]; omega) | decide | assumption) H.size) (cwV 1 hts gwsMX5_keepAnswer_0 rfl rfl rfl hd_yX8_copy_RX8 (by decide +kernel)) (fz_pre (va_recv hK hP (ci := 8) (q0 := 11 + (11 + (5 + (417)))) rfl (apR rfl (apR rfl (apR rfl (WW_o (by omega)))))) hPc hKc hDc) rfl rfl hl.1 rfl (lv_room (Nat.le_of_ble_eq_true rfl)) dX5_keepAnswer_16 (by decide +kernel)) hS (fun q _ h => hFc q h) hFc (fun u t9_ H locs ht hvm hw9 hB9 hz1 hk1 hS => ?_)
  revert u hw9 hB9
  refine fz_p3 ?_
  intro wl_1 wb_1 wG_1 hw9 hB9
  try dsimp only at hw9 hB9
  revert hw9
  refine fz_a2 ?_
  intro b_wl_1 b_wb_1
  have p8 := cj_4_3 (WO hO aO kO hM hQ hw 1 iO_searched iO_searchedRelaxed iO_counted fO_countedCase gO_goalNumber gO_goalScale fO_start fO_column fO_chosen) (WM hM aM kM iM_stands iM_variables iM_rows iM_goals iM_differents iM_cases fM_from fM_to fM_whole fM_ways iM_plainRows fM_plainRow fM_kept fM_goalOver fM_goalUnder fM_goalMax fM_different) (WQ hQ aQ kQ hw fQ_inside fQ_outside fQ_shut iQ_rows iQ_allRows iQ_columns) (WW nW hw lw kw wl_1 wb_1 wG_1)
  obtain ⟨hP, hD⟩ := frameG p9 p8 hP hD hk1 hFc (fz_P ht hB9.1) hB9.2
  refine lv_iconst (v := 0) hx hb dX5_keepAnswer_19 (by decide) ?_
  refine lv_istore_n hx hb dX5_keepAnswer_20 rfl hl (by decide) rfl (fun ls (hl : lv_has ls _ ([(1, .int 0), (0, .ref (hO 0))])) => ?_)
  have hl : lv_has _ _ ([(1, .int 0), (0, .ref (hO 0))]) := lv_sub hl [0, 1] rfl
  refine (fun (loop : ∀ (n9 : Nat) (wl_x21 : Nat → Int32) (wb_x21 : Nat → Int32) (wG_x21 : Nat → Nat → Int64) (l1_x21 : Int32) (H : Heap) (locs : List Loc) (ls : Array Slot), (∀ q : Nat, 0 ≤ (wl_x21 q).toInt ∧ (wl_x21 q).toInt ≤ 14) → (∀ q : Nat, 0 ≤ (wb_x21 q).toInt ∧ (wb_x21 q).toInt ≤ 1) → (0 ≤ l1_x21.toInt ∧ l1_x21.toInt ≤ 8) → (8 - l1_x21.toInt < ((n9 : Nat) : Int)) → va_P (dC, dI) vwCl (WO hO aO kO hM hQ hw 1 iO_searched iO_searchedRelaxed iO_counted fO_countedCase gO_goalNumber gO_goalScale fO_start fO_column fO_chosen ++ (WM hM aM kM iM_stands iM_variables iM_rows iM_goals iM_differents iM_cases fM_from fM_to fM_whole fM_ways iM_plainRows fM_plainRow fM_kept fM_goalOver fM_goalUnder fM_goalMax fM_different ++ (WQ hQ aQ kQ hw fQ_inside fQ_outside fQ_shut iQ_rows iQ_allRows iQ_columns ++ (WW nW hw lw kw wl_x21 wb_x21 wG_x21)))) H → va_D A (WO hO aO kO hM hQ hw 1 iO_searched iO_searchedRelaxed iO_counted fO_countedCase gO_goalNumber gO_goalScale fO_start fO_column fO_chosen ++ (WM hM aM kM iM_stands iM_variables iM_rows iM_goals iM_differents iM_cases fM_from fM_to fM_whole fM_ways iM_plainRows fM_plainRow fM_kept fM_goalOver fM_goalUnder fM_goalMax fM_different ++ (WQ hQ aQ kQ hw fQ_inside fQ_outside fQ_shut iQ_rows iQ_allRows iQ_columns ++ (WW nW hw lw kw wl_x21 wb_x21 wG_x21)))) → va_S A s.heap H locs → lv_has ls 2 [(1, .int l1_x21), (0, .ref (hO 0))] → W p l e _ s m _ below meth c H locs 0 0 _ (F0 m 21 ls [])) => loop (9) wl_1 wb_1 wG_1 0 _ _ _ b_wl_1 b_wb_1 (show 0 ≤ (0 : Int32).toInt ∧ (0 : Int32).toInt ≤ 8 from by decide) ((by have e9 : (0 : Int32).toInt = 0 := (by decide : (0 : Int32).toInt = 0); omega)) hP hD hS hl) ?_
  intro n9
  induction n9 with
  | zero => intro wl_x21 wb_x21 wG_x21 l1_x21 H locs ls b_wl_x21 b_wb_x21 b_l1_x21 hf9; exact False.elim (by omega)
  | succ n9 ihx21 =>
    intro wl_x21 wb_x21 wG_x21 l1_x21 H locs ls b_wl_x21 b_wb_x21 b_l1_x21 hfx21 hP hD hS hl
    refine lv_iload_n hx hb dX5_keepAnswer_21 rfl (lv_at hl 0 rfl) ?_
    refine lv_aload_n hx hb dX5_keepAnswer_22 rfl (lv_at hl 1 rfl) ?_
    refine va_get (D := (dC, dI)) (ci := 5) (v := .ref (hM 0)) (C := RX5) (T := TX5) (N := 19) hx hb hts iwsMX5_keepAnswer_in5 hown hK hP 0 rfl rfl 0 (by decide) (hts _ hm_m_X5_keepAnswer_1) (fun _ h9 => h9) rfl dX5_keepAnswer_23 ?_
    refine va_get (D := (dC, dI)) (ci := 1) (v := .int iM_variables) (C := RX1) (T := TX1) (N := 17) hx hb hts iwsMX5_keepAnswer_in1 hown hK hP 11 rfl rfl 1 (by decide) (hts (.fieldLink RX5 112 "OptimaWorks$Model" "variables" "I") (by decide +kernel)) (fun _ h9 => h9) rfl dX5_keepAnswer_26 ?_
    refine lv_icmp_ge (tgt := 53) hx hb dX5_keepAnswer_29 (by decide) (fun c_29 => ?_) (fun c_29 => ?_)
    · have t_29 : l1_x21.toInt ≥ iM_variables.toInt := toI_ge c_29 rfl rfl
      refine lv_iconst (v := 0) hx hb dX5_keepAnswer_53 (by decide) ?_
      refine lv_istore_n hx hb dX5_keepAnswer_54 rfl hl (by decide) rfl (fun ls (hl : lv_has ls _ ([(1, .int 0), (0, .ref (hO 0))])) => ?_)
      have hl : lv_has _ _ ([(1, .int 0), (0, .ref (hO 0))]) := lv_sub hl [0, 1] rfl
      refine (fun (loop : ∀ (n9 : Nat) (wl_x55 : Nat → Int32) (wb_x55 : Nat → Int32) (wG_x55 : Nat → Nat → Int64) (l1_x55 : Int32) (H : Heap) (locs : List Loc) (ls : Array Slot), (∀ q : Nat, 0 ≤ (wl_x55 q).toInt ∧ (wl_x55 q).toInt ≤ 14) → (∀ q : Nat, 0 ≤ (wb_x55 q).toInt ∧ (wb_x55 q).toInt ≤ 1) → (0 ≤ l1_x55.toInt ∧ l1_x55.toInt ≤ 3) → (3 - l1_x55.toInt < ((n9 : Nat) : Int)) → va_P (dC, dI) vwCl (WO hO aO kO hM hQ hw 1 iO_searched iO_searchedRelaxed iO_counted fO_countedCase gO_goalNumber gO_goalScale fO_start fO_column fO_chosen ++ (WM hM aM kM iM_stands iM_variables iM_rows iM_goals iM_differents iM_cases fM_from fM_to fM_whole fM_ways iM_plainRows fM_plainRow fM_kept fM_goalOver fM_goalUnder fM_goalMax fM_different ++ (WQ hQ aQ kQ hw fQ_inside fQ_outside fQ_shut iQ_rows iQ_allRows iQ_columns ++ (WW nW hw lw kw wl_x55 wb_x55 wG_x55)))) H → va_D A (WO hO aO kO hM hQ hw 1 iO_searched iO_searchedRelaxed iO_counted fO_countedCase gO_goalNumber gO_goalScale fO_start fO_column fO_chosen ++ (WM hM aM kM iM_stands iM_variables iM_rows iM_goals iM_differents iM_cases fM_from fM_to fM_whole fM_ways iM_plainRows fM_plainRow fM_kept fM_goalOver fM_goalUnder fM_goalMax fM_different ++ (WQ hQ aQ kQ hw fQ_inside fQ_outside fQ_shut iQ_rows iQ_allRows iQ_columns ++ (WW nW hw lw kw wl_x55 wb_x55 wG_x55)))) → va_S A s.heap H locs → lv_has ls 2 [(1, .int l1_x55), (0, .ref (hO 0))] → W p l e _ s m _ below meth c H locs 0 0 _ (F0 m 55 ls [])) => loop (4) wl_x21 wb_x21 wG_x21 0 _ _ _ b_wl_x21 b_wb_x21 (show 0 ≤ (0 : Int32).toInt ∧ (0 : Int32).toInt ≤ 3 from by decide) ((by have e9 : (0 : Int32).toInt = 0 := (by decide : (0 : Int32).toInt = 0); omega)) hP hD hS hl) ?_
      intro n9
      induction n9 with
      | zero => intro wl_x55 wb_x55 wG_x55 l1_x55 H locs ls b_wl_x55 b_wb_x55 b_l1_x55 hf9; exact False.elim (by omega)
      | succ n9 ihx55 =>
        intro wl_x55 wb_x55 wG_x55 l1_x55 H locs ls b_wl_x55 b_wb_x55 b_l1_x55 hfx55 hP hD hS hl
        refine lv_iload_n hx hb dX5_keepAnswer_55 rfl (lv_at hl 0 rfl) ?_
        refine lv_aload_n hx hb dX5_keepAnswer_56 rfl (lv_at hl 1 rfl) ?_
        refine va_get (D := (dC, dI)) (ci := 5) (v := .ref (hM 0)) (C := RX5) (T := TX5) (N := 19) hx hb hts iwsMX5_keepAnswer_in5 hown hK hP 0 rfl rfl 0 (by decide) (hts _ hm_m_X5_keepAnswer_1) (fun _ h9 => h9) rfl dX5_keepAnswer_57 ?_
        refine va_get (D := (dC, dI)) (ci := 1) (v := .int iM_goals) (C := RX1) (T := TX1) (N := 17) hx hb hts iwsMX5_keepAnswer_in1 hown hK hP 11 rfl rfl 3 (by decide) (hts (.fieldLink RX5 98 "OptimaWorks$Model" "goals" "I") (by decide +kernel)) (fun _ h9 => h9) rfl dX5_keepAnswer_60 ?_
        refine lv_icmp_ge (tgt := 94) hx hb dX5_keepAnswer_63 (by decide) (fun c_63 => ?_) (fun c_63 => ?_)
        · have t_63 : l1_x55.toInt ≥ iM_goals.toInt := toI_ge c_63 rfl rfl
          refine W.widen (k := 0) (n := 0) (by decide +kernel) (by decide +kernel) ?_
          exact W.vret hx hb hr (fun t9_ ht hW => ⟨⟨(1, wl_x55, wb_x55, wG_x55), rfl, ⟨(by (try dsimp only); exact (show 0 ≤ (1 : Int32).toInt ∧ (1 : Int32).toInt ≤ 1 from by decide)), b_wl_x55, b_wb_x55⟩, by rw [ht]; exact hP, hD⟩, hS.F ht⟩) hS.2.2 dX5_keepAnswer_94
        · have t_63 : ¬ l1_x55.toInt ≥ iM_goals.toInt := toI_nge c_63 rfl rfl
          refine lv_aload_n hx hb dX5_keepAnswer_66 rfl (lv_at hl 1 rfl) ?_
          refine va_get (D := (dC, dI)) (ci := 5) (v := .ref (aO 7)) (C := RX5) (T := TX5) (N := 19) hx hb hts iwsMX5_keepAnswer_in5 hown hK hP 0 rfl rfl 13 (by decide) (hts (.fieldLink RX5 52 "OptimaWorks$Solver" "answerGoal" "[LOptimaWorks$Whole;") (by decide +kernel)) (fun _ h9 => h9) rfl dX5_keepAnswer_67 ?_
          refine lv_iload_n hx hb dX5_keepAnswer_70 rfl (lv_at hl 0 rfl) ?_
          refine va_aldq (cA := kO 7) (n := 3) (f := fun q => some (hw (414 + q))) hx hb hK hP 8 7 rfl rfl (vp_in_iff.mpr ⟨b_l1_x55.1, (Int.lt_of_lt_of_le (Int.not_le.mp t_63) (Int.le_trans b_iM_goals.2 (by decide)))⟩) dX5_keepAnswer_71 ?_
          obtain ⟨k85, hk85, b_k85⟩ : ∃ k9 : Nat, k9 = 414 + (l1_x55).toNatClampNeg ∧ (414 ≤ k9 ∧ k9 < 417 ∧ (k9 : Int) = 414 + l1_x55.toInt) := ⟨_, rfl, ald_k (x := (l1_x55)) (o := 414) (n := 3) rfl (by omega) (by omega)⟩
          refine W.eq (g2 := F0 m 72 ls [.ref (hw k85)]) (by rw [hk85]; rfl) ?_
          clear hk85
          refine lv_aload_n hx hb dX5_keepAnswer_72 rfl (lv_at hl 1 rfl) ?_
          refine va_get (D := (dC, dI)) (ci := 5) (v := .ref (hQ 0)) (C := RX5) (T := TX5) (N := 19) hx hb hts iwsMX5_keepAnswer_in5 hown hK hP 0 rfl rfl 1 (by decide) (hts _ hm_m_X5_keepAnswer_0) (fun _ h9 => h9) rfl dX5_keepAnswer_73 ?_
          refine lv_aload_n hx hb dX5_keepAnswer_76 rfl (lv_at hl 1 rfl) ?_
          refine lv_iload_n hx hb dX5_keepAnswer_77 rfl (lv_at hl 0 rfl) ?_
          have hFc := allFree hD hS hA
          refine va_calli (va_runV (As := [.int l1_x55]) (rest := [.ref (hQ 0), .ref (hw k85)]) ⟨hx, hb, hml, hown, hts⟩ (m_X5_goalRow l dC dI hO aO kO hM hQ hw 1 iO_searched iO_searchedRelaxed iO_counted fO_countedCase gO_goalNumber gO_goalScale fO_start fO_column fO_chosen aM kM iM_stands iM_variables iM_rows iM_goals iM_differents iM_cases fM_from fM_to fM_whole fM_ways iM_plainRows fM_plainRow fM_kept fM_goalOver fM_goalUnder fM_goalMax fM_different aQ kQ fQ_inside fQ_outside fQ_shut iQ_rows iQ_allRows iQ_columns nW lw kw wl_x55 wb_x55 wG_x55 l1_x55 (show 0 ≤ (1 : Int32).toInt ∧ (1 : Int32).toInt ≤ 1 from by decide) (b_iO_searched) (b_iO_searchedRelaxed) (b_iO_counted) b_fO_countedCase b_fO_column b_fO_chosen (b_iM_stands) (b_iM_variables) (b_iM_rows) (b_iM_goals) (b_iM_differents) (b_iM_cases) b_fM_ways (b_iM_plainRows) b_fM_plainRow (by first | with_reducible assumption | omega | assumption) (b_iQ_rows) (b_iQ_allRows) (b_iQ_columns) (by first | with_reducible assumption | omega | assumption) b_wl_x55 b_wb_x55 (by first | exact b_l1_x55 | with_reducible assumption | exact ⟨by omega, by omega⟩ | assumption) (by omega) (by first | with_reducible assumption | omega | (rw [iI_t (by omega) (by omega)]; omega) | decide | assumption) H.size) (cwV 1 hts gwsMX5_keepAnswer_1 rfl rfl rfl hd_yX5_goalRow_RX5 (by decide +kernel)) (fz_pre (va_recv hK hP (ci := 5) (q0 := 0) rfl rfl) hP hK hD) rfl rfl hl.1 rfl (lv_room (Nat.le_of_ble_eq_true rfl)) dX5_keepAnswer_78 (by decide +kernel)) hS (fun q _ h => hFc q h) hFc (fun r86 u t9_ H locs ht hvm hw9 hB9 hz1 hk1 hS => ?_)
          have b_r86 := hw9
          try dsimp only at b_r86
          have hP : va_P (dC, dI) vwCl (WO hO aO kO hM hQ hw 1 iO_searched iO_searchedRelaxed iO_counted fO_countedCase gO_goalNumber gO_goalScale fO_start fO_column fO_chosen ++ (WM hM aM kM iM_stands iM_variables iM_rows iM_goals iM_differents iM_cases fM_from fM_to fM_whole fM_ways iM_plainRows fM_plainRow fM_kept fM_goalOver fM_goalUnder fM_goalMax fM_different ++ (WQ hQ aQ kQ hw fQ_inside fQ_outside fQ_shut iQ_rows iQ_allRows iQ_columns ++ (WW nW hw lw kw wl_x55 wb_x55 wG_x55)))) H := fz_P ht hB9.1
          have hD := fz_sd hP (hB9.2.weaken (fun _ q _ h => hFc q.1 h)) rfl
          refine lv_iconst (v := 0) hx hb dX5_keepAnswer_81 (by decide) ?_
          have p9 := cj_4_2_3 (WO hO aO kO hM hQ hw 1 iO_searched iO_searchedRelaxed iO_counted fO_countedCase gO_goalNumber gO_goalScale fO_start fO_column fO_chosen) (WM hM aM kM iM_stands iM_variables iM_rows iM_goals iM_differents iM_cases fM_from fM_to fM_whole fM_ways iM_plainRows fM_plainRow fM_kept fM_goalOver fM_goalUnder fM_goalMax fM_different) (WQ hQ aQ kQ hw fQ_inside fQ_outside fQ_shut iQ_rows iQ_allRows iQ_columns) (WW nW hw lw kw wl_x55 wb_x55 wG_x55)
          have hPc := hP.mem (fun q h => p9.mem_iff.mpr (List.mem_append_left _ h))
          have hDc := (hD.perm p9).left
          have hKc : va_K (dC, dI) vwCl (tQ kQ ++ (tW kw)) _ := hK.sub [20, 21, 22, 23, 24] rfl
          have hFc := freeG p9 hD hS hA
          refine va_callr (va_runV (As := [.int r86, .int 0]) (rest := [.ref (hw k85)]) ⟨hx, hb, hml, hown, hts⟩ (m_X6_cellAt l dC dI hQ aQ kQ hw fQ_inside fQ_outside fQ_shut iQ_rows iQ_allRows iQ_columns nW lw kw wl_x55 wb_x55 wG_x55 r86 0 (b_iQ_rows) (b_iQ_allRows) (b_iQ_columns) (by first | with_reducible assumption | omega | assumption) b_wl_x55 b_wb_x55 (by first | exact b_r86 | with_reducible assumption | exact ⟨by omega, by omega⟩ | assumption) (show 0 ≤ (0 : Int32).toInt ∧ (0 : Int32).toInt ≤ 40 from by decide) (by omega) ((by have h9 := ix_small (i := r86.toInt) (j := 0) (c := iQ_columns.toInt) (by omega) (by omega) (by omega) (by omega) (by omega) (by omega); have h8 : (0 : Int32).toInt = 0 := (by decide); rw [h8]; exact h9)) H.size) (cwV 2 hts gwsMX5_keepAnswer_2 rfl rfl rfl hd_yX6_cellAt_RX6 (by decide +kernel)) (fz_pre (va_recv hK hP (ci := 6) (q0 := 22) rfl rfl) hPc hKc hDc) rfl rfl hl.1 rfl (lv_room (Nat.le_of_ble_eq_true rfl)) dX5_keepAnswer_82 (by decide +kernel)) hS (fun q _ h => hFc q h) hFc (fun kR_87 ra87 t9_ H locs ht hvm hw9 hB9 hz1 hk1 hS => ?_)
          revert hB9
          refine fz_a2 ?_
          intro hra hB9
          subst hra
          have f87_0 := hw9
          try dsimp only at f87_0
          have p8 := p9
          obtain ⟨hP, hD⟩ := frameG p9 p8 hP hD hk1 hFc (fz_P ht hB9.1) hB9.2
          have p9 := cj_4_3 (WO hO aO kO hM hQ hw 1 iO_searched iO_searchedRelaxed iO_counted fO_countedCase gO_goalNumber gO_goalScale fO_start fO_column fO_chosen) (WM hM aM kM iM_stands iM_variables iM_rows iM_goals iM_differents iM_cases fM_from fM_to fM_whole fM_ways iM_plainRows fM_plainRow fM_kept fM_goalOver fM_goalUnder fM_goalMax fM_different) (WQ hQ aQ kQ hw fQ_inside fQ_outside fQ_shut iQ_rows iQ_allRows iQ_columns) (WW nW hw lw kw wl_x55 wb_x55 wG_x55)
          have hPc := hP.mem (fun q h => p9.mem_iff.mpr (List.mem_append_left _ h))
          have hDc := (hD.perm p9).left
          have hKc : va_K (dC, dI) vwCl (tW kw) _ := hK.sub [24] rfl
          have hFc := freeG p9 hD hS hA
          refine va_callv (va_runV (As := [.ref (hw kR_87)]) (rest := []) ⟨hx, hb, hml, hown, hts⟩ (m_X8_copy l dC dI nW hw lw kw wl_x55 wb_x55 wG_x55 k85 kR_87 b_wl_x55 b_wb_x55 (by first | with_reducible assumption | omega | (rw [iI_t (by omega) (by omega)]; omega) | decide | assumption) (by first | with_reducible assumption | omega | (rw [iI_t (by omega) (by omega)]; omega) | decide | assumption) H.size) (cwV 1 hts gwsMX5_keepAnswer_0 rfl rfl rfl hd_yX8_copy_RX8 (by decide +kernel)) (fz_pre (va_recv hK hP (ci := 8) (q0 := 11 + (11 + (5 + (k85)))) rfl (apR rfl (apR rfl (apR rfl (WW_o (by omega)))))) hPc hKc hDc) rfl rfl hl.1 rfl (lv_room (Nat.le_of_ble_eq_true rfl)) dX5_keepAnswer_85 (by decide +kernel)) hS (fun q _ h => hFc q h) hFc (fun u t9_ H locs ht hvm hw9 hB9 hz1 hk1 hS => ?_)
          revert u hw9 hB9
          refine fz_p3 ?_
          intro wl_88 wb_88 wG_88 hw9 hB9
          try dsimp only at hw9 hB9
          revert hw9
          refine fz_a2 ?_
          intro b_wl_88 b_wb_88
          have p8 := cj_4_3 (WO hO aO kO hM hQ hw 1 iO_searched iO_searchedRelaxed iO_counted fO_countedCase gO_goalNumber gO_goalScale fO_start fO_column fO_chosen) (WM hM aM kM iM_stands iM_variables iM_rows iM_goals iM_differents iM_cases fM_from fM_to fM_whole fM_ways iM_plainRows fM_plainRow fM_kept fM_goalOver fM_goalUnder fM_goalMax fM_different) (WQ hQ aQ kQ hw fQ_inside fQ_outside fQ_shut iQ_rows iQ_allRows iQ_columns) (WW nW hw lw kw wl_88 wb_88 wG_88)
          obtain ⟨hP, hD⟩ := frameG p9 p8 hP hD hk1 hFc (fz_P ht hB9.1) hB9.2
          refine lv_iinc (v := (iI (l1_x55.toInt + 1))) hx hb dX5_keepAnswer_88 hl (k := 0) rfl (iI_add2 (iI_of _) (by decide : (1 : Int32) = iI 1)) (by decide) rfl (fun ls (hl : lv_has ls _ ([(1, .int (iI (l1_x55.toInt + 1))), (0, .ref (hO 0))])) => ?_)
          refine lv_goto (tgt := 55) hx hb dX5_keepAnswer_91 (by decide) ?_
          have hl : lv_has _ _ ([(1, .int (iI (l1_x55.toInt + 1))), (0, .ref (hO 0))]) := lv_sub hl [0, 1] rfl
          exact ihx55 wl_88 wb_88 wG_88 (iI (l1_x55.toInt + 1)) _ _ _ b_wl_88 b_wb_88 (iI_rng (Int.le_trans (by decide) (Int.add_le_add (b_l1_x55.1) (Int.le_refl _))) (by omega) (by decide) (by decide)) (by have e9 : ((iI (l1_x55.toInt + 1))).toInt = (l1_x55.toInt + 1) := (iI_t (Int.le_trans (by decide) (Int.add_le_add (b_l1_x55.1) (Int.le_refl _))) (Int.le_trans (Int.add_le_add (b_l1_x55.2) (Int.le_refl _)) (by decide))); omega) hP hD hS hl
    · have t_29 : ¬ l1_x21.toInt ≥ iM_variables.toInt := toI_nge c_29 rfl rfl
      refine lv_aload_n hx hb dX5_keepAnswer_32 rfl (lv_at hl 1 rfl) ?_
      refine va_get (D := (dC, dI)) (ci := 5) (v := .ref (aO 6)) (C := RX5) (T := TX5) (N := 19) hx hb hts iwsMX5_keepAnswer_in5 hown hK hP 0 rfl rfl 12 (by decide) (hts (.fieldLink RX5 48 "OptimaWorks$Solver" "answer" "[LOptimaWorks$Whole;") (by decide +kernel)) (fun _ h9 => h9) rfl dX5_keepAnswer_33 ?_
      refine lv_iload_n hx hb dX5_keepAnswer_36 rfl (lv_at hl 0 rfl) ?_
      refine va_aldq (cA := kO 6) (n := 8) (f := fun q => some (hw (406 + q))) hx hb hK hP 7 6 rfl rfl (vp_in_iff.mpr ⟨b_l1_x21.1, (Int.lt_of_lt_of_le (Int.not_le.mp t_29) (Int.le_trans b_iM_variables.2 (by decide)))⟩) dX5_keepAnswer_37 ?_
      obtain ⟨k89, hk89, b_k89⟩ : ∃ k9 : Nat, k9 = 406 + (l1_x21).toNatClampNeg ∧ (406 ≤ k9 ∧ k9 < 414 ∧ (k9 : Int) = 406 + l1_x21.toInt) := ⟨_, rfl, ald_k (x := (l1_x21)) (o := 406) (n := 8) rfl (by omega) (by omega)⟩
      refine W.eq (g2 := F0 m 38 ls [.ref (hw k89)]) (by rw [hk89]; rfl) ?_
      clear hk89
      refine lv_aload_n hx hb dX5_keepAnswer_38 rfl (lv_at hl 1 rfl) ?_
      refine va_get (D := (dC, dI)) (ci := 5) (v := .ref (aO 8)) (C := RX5) (T := TX5) (N := 19) hx hb hts iwsMX5_keepAnswer_in5 hown hK hP 0 rfl rfl 15 (by decide) (hts (.fieldLink RX5 62 "OptimaWorks$Solver" "trial" "[LOptimaWorks$Whole;") (by decide +kernel)) (fun _ h9 => h9) rfl dX5_keepAnswer_39 ?_
      refine lv_iload_n hx hb dX5_keepAnswer_42 rfl (lv_at hl 0 rfl) ?_
      refine va_aldq (cA := kO 8) (n := 8) (f := fun q => some (hw (418 + q))) hx hb hK hP 9 8 rfl rfl (vp_in_iff.mpr ⟨b_l1_x21.1, (Int.lt_of_lt_of_le (Int.not_le.mp t_29) (Int.le_trans b_iM_variables.2 (by decide)))⟩) dX5_keepAnswer_43 ?_
      obtain ⟨k90, hk90, b_k90⟩ : ∃ k9 : Nat, k9 = 418 + (l1_x21).toNatClampNeg ∧ (418 ≤ k9 ∧ k9 < 426 ∧ (k9 : Int) = 418 + l1_x21.toInt) := ⟨_, rfl, ald_k (x := (l1_x21)) (o := 418) (n := 8) rfl (by omega) (by omega)⟩
      refine W.eq (g2 := F0 m 44 ls [.ref (hw k90), .ref (hw k89)]) (by rw [hk90]; rfl) ?_
      clear hk90
      have p9 := cj_4_3 (WO hO aO kO hM hQ hw 1 iO_searched iO_searchedRelaxed iO_counted fO_countedCase gO_goalNumber gO_goalScale fO_start fO_column fO_chosen) (WM hM aM kM iM_stands iM_variables iM_rows iM_goals iM_differents iM_cases fM_from fM_to fM_whole fM_ways iM_plainRows fM_plainRow fM_kept fM_goalOver fM_goalUnder fM_goalMax fM_different) (WQ hQ aQ kQ hw fQ_inside fQ_outside fQ_shut iQ_rows iQ_allRows iQ_columns) (WW nW hw lw kw wl_x21 wb_x21 wG_x21)
      have hPc := hP.mem (fun q h => p9.mem_iff.mpr (List.mem_append_left _ h))
      have hDc := (hD.perm p9).left
      have hKc : va_K (dC, dI) vwCl (tW kw) _ := hK.sub [24] rfl
      have hFc := freeG p9 hD hS hA
      refine va_callv (va_runV (As := [.ref (hw k90)]) (rest := []) ⟨hx, hb, hml, hown, hts⟩ (m_X8_copy l dC dI nW hw lw kw wl_x21 wb_x21 wG_x21 k89 k90 b_wl_x21 b_wb_x21 (by first | with_reducible assumption | omega | (rw [iI_t (by omega) (by omega)]; omega) | decide | assumption) (by first | with_reducible assumption | omega | (rw [iI_t (by omega) (by omega)]; omega) | decide | assumption) H.size) (cwV 1 hts gwsMX5_keepAnswer_0 rfl rfl rfl hd_yX8_copy_RX8 (by decide +kernel)) (fz_pre (va_recv hK hP (ci := 8) (q0 := 11 + (11 + (5 + (k89)))) rfl (apR rfl (apR rfl (apR rfl (WW_o (by omega)))))) hPc hKc hDc) rfl rfl hl.1 rfl (lv_room (Nat.le_of_ble_eq_true rfl)) dX5_keepAnswer_44 (by decide +kernel)) hS (fun q _ h => hFc q h) hFc (fun u t9_ H locs ht hvm hw9 hB9 hz1 hk1 hS => ?_)
      revert u hw9 hB9
      refine fz_p3 ?_
      intro wl_91 wb_91 wG_91 hw9 hB9
      try dsimp only at hw9 hB9
      revert hw9
      refine fz_a2 ?_
      intro b_wl_91 b_wb_91
      have p8 := cj_4_3 (WO hO aO kO hM hQ hw 1 iO_searched iO_searchedRelaxed iO_counted fO_countedCase gO_goalNumber gO_goalScale fO_start fO_column fO_chosen) (WM hM aM kM iM_stands iM_variables iM_rows iM_goals iM_differents iM_cases fM_from fM_to fM_whole fM_ways iM_plainRows fM_plainRow fM_kept fM_goalOver fM_goalUnder fM_goalMax fM_different) (WQ hQ aQ kQ hw fQ_inside fQ_outside fQ_shut iQ_rows iQ_allRows iQ_columns) (WW nW hw lw kw wl_91 wb_91 wG_91)
      obtain ⟨hP, hD⟩ := frameG p9 p8 hP hD hk1 hFc (fz_P ht hB9.1) hB9.2
      refine lv_iinc (v := (iI (l1_x21.toInt + 1))) hx hb dX5_keepAnswer_47 hl (k := 0) rfl (iI_add2 (iI_of _) (by decide : (1 : Int32) = iI 1)) (by decide) rfl (fun ls (hl : lv_has ls _ ([(1, .int (iI (l1_x21.toInt + 1))), (0, .ref (hO 0))])) => ?_)
      refine lv_goto (tgt := 21) hx hb dX5_keepAnswer_50 (by decide) ?_
      have hl : lv_has _ _ ([(1, .int (iI (l1_x21.toInt + 1))), (0, .ref (hO 0))]) := lv_sub hl [0, 1] rfl
      exact ihx21 wl_91 wb_91 wG_91 (iI (l1_x21.toInt + 1)) _ _ _ b_wl_91 b_wb_91 (iI_rng (Int.le_trans (by decide) (Int.add_le_add (b_l1_x21.1) (Int.le_refl _))) (by omega) (by decide) (by decide)) (by have e9 : ((iI (l1_x21.toInt + 1))).toInt = (l1_x21.toInt + 1) := (iI_t (Int.le_trans (by decide) (Int.add_le_add (b_l1_x21.1) (Int.le_refl _))) (Int.le_trans (Int.add_le_add (b_l1_x21.2) (Int.le_refl _)) (by decide))); omega) hP hD hS hl
theorem dX5_tryAnswer_0 : decode cX5_tryAnswer 0 = .ok (.iconst 0, 1) := dk_3 (by decide +kernel)
theorem dX5_tryAnswer_1 : decode cX5_tryAnswer 1 = .ok (.istore_n 1, 1) := dk_60 (by decide +kernel)
theorem dX5_tryAnswer_2 : decode cX5_tryAnswer 2 = .ok (.iconst 0, 1) := dk_3 (by decide +kernel)
theorem dX5_tryAnswer_3 : decode cX5_tryAnswer 3 = .ok (.istore_n 2, 1) := dk_61 (by decide +kernel)
theorem dX5_tryAnswer_4 : decode cX5_tryAnswer 4 = .ok (.iload_n 2, 1) := dk_28 (by decide +kernel)
theorem dX5_tryAnswer_5 : decode cX5_tryAnswer 5 = .ok (.aload_n 0, 1) := dk_42 (by decide +kernel)
theorem dX5_tryAnswer_6 : decode cX5_tryAnswer 6 = .ok (.getfield 74, 3) := dk_180 (by decide +kernel)
theorem dX5_tryAnswer_9 : decode cX5_tryAnswer 9 = .ok (.getfield 98, 3) := dk_180 (by decide +kernel)
theorem dX5_tryAnswer_12 : decode cX5_tryAnswer 12 = .ok (.if_icmp .ge 61, 3) := dk_162 (by decide +kernel)
theorem dX5_tryAnswer_15 : decode cX5_tryAnswer 15 = .ok (.aload_n 0, 1) := dk_42 (by decide +kernel)
theorem dX5_tryAnswer_16 : decode cX5_tryAnswer 16 = .ok (.getfield 12, 3) := dk_180 (by decide +kernel)
theorem dX5_tryAnswer_19 : decode cX5_tryAnswer 19 = .ok (.aload_n 0, 1) := dk_42 (by decide +kernel)
theorem dX5_tryAnswer_20 : decode cX5_tryAnswer 20 = .ok (.iload_n 2, 1) := dk_28 (by decide +kernel)
theorem dX5_tryAnswer_21 : decode cX5_tryAnswer 21 = .ok (.invokevirtual 225, 3) := dk_182 (by decide +kernel)
theorem dX5_tryAnswer_24 : decode cX5_tryAnswer 24 = .ok (.invokevirtual 228, 3) := dk_182 (by decide +kernel)
theorem dX5_tryAnswer_27 : decode cX5_tryAnswer 27 = .ok (.aload_n 0, 1) := dk_42 (by decide +kernel)
theorem dX5_tryAnswer_28 : decode cX5_tryAnswer 28 = .ok (.getfield 78, 3) := dk_180 (by decide +kernel)
theorem dX5_tryAnswer_31 : decode cX5_tryAnswer 31 = .ok (.ifCond .eq 36, 3) := dk_153 (by decide +kernel)
theorem dX5_tryAnswer_34 : decode cX5_tryAnswer 34 = .ok (.iload_n 1, 1) := dk_27 (by decide +kernel)
theorem dX5_tryAnswer_35 : decode cX5_tryAnswer 35 = .ok (.ifCond .ne 32, 3) := dk_154 (by decide +kernel)
theorem dX5_tryAnswer_38 : decode cX5_tryAnswer 38 = .ok (.aload_n 0, 1) := dk_42 (by decide +kernel)
theorem dX5_tryAnswer_39 : decode cX5_tryAnswer 39 = .ok (.aload_n 0, 1) := dk_42 (by decide +kernel)
theorem dX5_tryAnswer_40 : decode cX5_tryAnswer 40 = .ok (.getfield 12, 3) := dk_180 (by decide +kernel)
theorem dX5_tryAnswer_43 : decode cX5_tryAnswer 43 = .ok (.aload_n 0, 1) := dk_42 (by decide +kernel)
theorem dX5_tryAnswer_44 : decode cX5_tryAnswer 44 = .ok (.iload_n 2, 1) := dk_28 (by decide +kernel)
theorem dX5_tryAnswer_45 : decode cX5_tryAnswer 45 = .ok (.invokevirtual 225, 3) := dk_182 (by decide +kernel)
theorem dX5_tryAnswer_48 : decode cX5_tryAnswer 48 = .ok (.iconst 0, 1) := dk_3 (by decide +kernel)
theorem dX5_tryAnswer_49 : decode cX5_tryAnswer 49 = .ok (.invokevirtual 177, 3) := dk_182 (by decide +kernel)
theorem dX5_tryAnswer_52 : decode cX5_tryAnswer 52 = .ok (.aload_n 0, 1) := dk_42 (by decide +kernel)
theorem dX5_tryAnswer_53 : decode cX5_tryAnswer 53 = .ok (.getfield 52, 3) := dk_180 (by decide +kernel)
theorem dX5_tryAnswer_56 : decode cX5_tryAnswer 56 = .ok (.iload_n 2, 1) := dk_28 (by decide +kernel)
theorem dX5_tryAnswer_57 : decode cX5_tryAnswer 57 = .ok (.aaload, 1) := dk_50 (by decide +kernel)
theorem dX5_tryAnswer_58 : decode cX5_tryAnswer 58 = .ok (.invokevirtual 232, 3) := dk_182 (by decide +kernel)
theorem dX5_tryAnswer_61 : decode cX5_tryAnswer 61 = .ok (.istore_n 1, 1) := dk_60 (by decide +kernel)
theorem dX5_tryAnswer_62 : decode cX5_tryAnswer 62 = .ok (.iload_n 1, 1) := dk_27 (by decide +kernel)
theorem dX5_tryAnswer_63 : decode cX5_tryAnswer 63 = .ok (.ifCond .le 4, 3) := dk_158 (by decide +kernel)
theorem dX5_tryAnswer_66 : decode cX5_tryAnswer 66 = .ok (.return_, 1) := dk_177 (by decide +kernel)
theorem dX5_tryAnswer_67 : decode cX5_tryAnswer 67 = .ok (.iinc 2 1, 3) := dk_132 (by decide +kernel)
theorem dX5_tryAnswer_70 : decode cX5_tryAnswer 70 = .ok (.goto (-66), 3) := dk_167 (by decide +kernel)
theorem dX5_tryAnswer_73 : decode cX5_tryAnswer 73 = .ok (.iconst 0, 1) := dk_3 (by decide +kernel)
theorem dX5_tryAnswer_74 : decode cX5_tryAnswer 74 = .ok (.istore_n 2, 1) := dk_61 (by decide +kernel)
theorem dX5_tryAnswer_75 : decode cX5_tryAnswer 75 = .ok (.iload_n 2, 1) := dk_28 (by decide +kernel)
theorem dX5_tryAnswer_76 : decode cX5_tryAnswer 76 = .ok (.aload_n 0, 1) := dk_42 (by decide +kernel)
theorem dX5_tryAnswer_77 : decode cX5_tryAnswer 77 = .ok (.getfield 74, 3) := dk_180 (by decide +kernel)
theorem dX5_tryAnswer_80 : decode cX5_tryAnswer 80 = .ok (.getfield 112, 3) := dk_180 (by decide +kernel)
theorem dX5_tryAnswer_83 : decode cX5_tryAnswer 83 = .ok (.if_icmp .ge 50, 3) := dk_162 (by decide +kernel)
theorem dX5_tryAnswer_86 : decode cX5_tryAnswer 86 = .ok (.aload_n 0, 1) := dk_42 (by decide +kernel)
theorem dX5_tryAnswer_87 : decode cX5_tryAnswer 87 = .ok (.getfield 38, 3) := dk_180 (by decide +kernel)
theorem dX5_tryAnswer_90 : decode cX5_tryAnswer 90 = .ok (.iload_n 2, 1) := dk_28 (by decide +kernel)
theorem dX5_tryAnswer_91 : decode cX5_tryAnswer 91 = .ok (.iaload, 1) := dk_46 (by decide +kernel)
theorem dX5_tryAnswer_92 : decode cX5_tryAnswer 92 = .ok (.iconst (-1), 1) := dk_2 (by decide +kernel)
theorem dX5_tryAnswer_93 : decode cX5_tryAnswer 93 = .ok (.if_icmp .eq 34, 3) := dk_159 (by decide +kernel)
theorem dX5_tryAnswer_96 : decode cX5_tryAnswer 96 = .ok (.aload_n 0, 1) := dk_42 (by decide +kernel)
theorem dX5_tryAnswer_97 : decode cX5_tryAnswer 97 = .ok (.getfield 12, 3) := dk_180 (by decide +kernel)
theorem dX5_tryAnswer_100 : decode cX5_tryAnswer 100 = .ok (.aload_n 0, 1) := dk_42 (by decide +kernel)
theorem dX5_tryAnswer_101 : decode cX5_tryAnswer 101 = .ok (.getfield 38, 3) := dk_180 (by decide +kernel)
theorem dX5_tryAnswer_104 : decode cX5_tryAnswer 104 = .ok (.iload_n 2, 1) := dk_28 (by decide +kernel)
theorem dX5_tryAnswer_105 : decode cX5_tryAnswer 105 = .ok (.iaload, 1) := dk_46 (by decide +kernel)
theorem dX5_tryAnswer_106 : decode cX5_tryAnswer 106 = .ok (.iconst 1, 1) := dk_4 (by decide +kernel)
theorem dX5_tryAnswer_107 : decode cX5_tryAnswer 107 = .ok (.isub, 1) := dk_100 (by decide +kernel)
theorem dX5_tryAnswer_108 : decode cX5_tryAnswer 108 = .ok (.invokevirtual 236, 3) := dk_182 (by decide +kernel)
theorem dX5_tryAnswer_111 : decode cX5_tryAnswer 111 = .ok (.pop, 1) := dk_87 (by decide +kernel)
theorem dX5_tryAnswer_112 : decode cX5_tryAnswer 112 = .ok (.aload_n 0, 1) := dk_42 (by decide +kernel)
theorem dX5_tryAnswer_113 : decode cX5_tryAnswer 113 = .ok (.getfield 12, 3) := dk_180 (by decide +kernel)
theorem dX5_tryAnswer_116 : decode cX5_tryAnswer 116 = .ok (.aload_n 0, 1) := dk_42 (by decide +kernel)
theorem dX5_tryAnswer_117 : decode cX5_tryAnswer 117 = .ok (.getfield 38, 3) := dk_180 (by decide +kernel)
theorem dX5_tryAnswer_120 : decode cX5_tryAnswer 120 = .ok (.iload_n 2, 1) := dk_28 (by decide +kernel)
theorem dX5_tryAnswer_121 : decode cX5_tryAnswer 121 = .ok (.iaload, 1) := dk_46 (by decide +kernel)
theorem dX5_tryAnswer_122 : decode cX5_tryAnswer 122 = .ok (.iconst 1, 1) := dk_4 (by decide +kernel)
theorem dX5_tryAnswer_123 : decode cX5_tryAnswer 123 = .ok (.isub, 1) := dk_100 (by decide +kernel)
theorem dX5_tryAnswer_124 : decode cX5_tryAnswer 124 = .ok (.invokevirtual 239, 3) := dk_182 (by decide +kernel)
theorem dX5_tryAnswer_127 : decode cX5_tryAnswer 127 = .ok (.iinc 2 1, 3) := dk_132 (by decide +kernel)
theorem dX5_tryAnswer_130 : decode cX5_tryAnswer 130 = .ok (.goto (-55), 3) := dk_167 (by decide +kernel)
theorem dX5_tryAnswer_133 : decode cX5_tryAnswer 133 = .ok (.aload_n 0, 1) := dk_42 (by decide +kernel)
theorem dX5_tryAnswer_134 : decode cX5_tryAnswer 134 = .ok (.aload_n 0, 1) := dk_42 (by decide +kernel)
theorem dX5_tryAnswer_135 : decode cX5_tryAnswer 135 = .ok (.getfield 62, 3) := dk_180 (by decide +kernel)
theorem dX5_tryAnswer_138 : decode cX5_tryAnswer 138 = .ok (.invokevirtual 242, 3) := dk_182 (by decide +kernel)
theorem dX5_tryAnswer_141 : decode cX5_tryAnswer 141 = .ok (.iconst 0, 1) := dk_3 (by decide +kernel)
theorem dX5_tryAnswer_142 : decode cX5_tryAnswer 142 = .ok (.istore_n 2, 1) := dk_61 (by decide +kernel)
theorem dX5_tryAnswer_143 : decode cX5_tryAnswer 143 = .ok (.iload_n 2, 1) := dk_28 (by decide +kernel)
theorem dX5_tryAnswer_144 : decode cX5_tryAnswer 144 = .ok (.aload_n 0, 1) := dk_42 (by decide +kernel)
theorem dX5_tryAnswer_145 : decode cX5_tryAnswer 145 = .ok (.getfield 74, 3) := dk_180 (by decide +kernel)
theorem dX5_tryAnswer_148 : decode cX5_tryAnswer 148 = .ok (.getfield 112, 3) := dk_180 (by decide +kernel)
theorem dX5_tryAnswer_151 : decode cX5_tryAnswer 151 = .ok (.if_icmp .ge 37, 3) := dk_162 (by decide +kernel)
theorem dX5_tryAnswer_154 : decode cX5_tryAnswer 154 = .ok (.aload_n 0, 1) := dk_42 (by decide +kernel)
theorem dX5_tryAnswer_155 : decode cX5_tryAnswer 155 = .ok (.getfield 78, 3) := dk_180 (by decide +kernel)
theorem dX5_tryAnswer_158 : decode cX5_tryAnswer 158 = .ok (.ifCond .eq 30, 3) := dk_153 (by decide +kernel)
theorem dX5_tryAnswer_161 : decode cX5_tryAnswer 161 = .ok (.iload_n 1, 1) := dk_27 (by decide +kernel)
theorem dX5_tryAnswer_162 : decode cX5_tryAnswer 162 = .ok (.ifCond .ne 26, 3) := dk_154 (by decide +kernel)
theorem dX5_tryAnswer_165 : decode cX5_tryAnswer 165 = .ok (.aload_n 0, 1) := dk_42 (by decide +kernel)
theorem dX5_tryAnswer_166 : decode cX5_tryAnswer 166 = .ok (.aload_n 0, 1) := dk_42 (by decide +kernel)
theorem dX5_tryAnswer_167 : decode cX5_tryAnswer 167 = .ok (.getfield 62, 3) := dk_180 (by decide +kernel)
theorem dX5_tryAnswer_170 : decode cX5_tryAnswer 170 = .ok (.iload_n 2, 1) := dk_28 (by decide +kernel)
theorem dX5_tryAnswer_171 : decode cX5_tryAnswer 171 = .ok (.aaload, 1) := dk_50 (by decide +kernel)
theorem dX5_tryAnswer_172 : decode cX5_tryAnswer 172 = .ok (.aload_n 0, 1) := dk_42 (by decide +kernel)
theorem dX5_tryAnswer_173 : decode cX5_tryAnswer 173 = .ok (.getfield 48, 3) := dk_180 (by decide +kernel)
theorem dX5_tryAnswer_176 : decode cX5_tryAnswer 176 = .ok (.iload_n 2, 1) := dk_28 (by decide +kernel)
theorem dX5_tryAnswer_177 : decode cX5_tryAnswer 177 = .ok (.aaload, 1) := dk_50 (by decide +kernel)
theorem dX5_tryAnswer_178 : decode cX5_tryAnswer 178 = .ok (.invokevirtual 232, 3) := dk_182 (by decide +kernel)
theorem dX5_tryAnswer_181 : decode cX5_tryAnswer 181 = .ok (.istore_n 1, 1) := dk_60 (by decide +kernel)
theorem dX5_tryAnswer_182 : decode cX5_tryAnswer 182 = .ok (.iinc 2 1, 3) := dk_132 (by decide +kernel)
theorem dX5_tryAnswer_185 : decode cX5_tryAnswer 185 = .ok (.goto (-42), 3) := dk_167 (by decide +kernel)
theorem dX5_tryAnswer_188 : decode cX5_tryAnswer 188 = .ok (.aload_n 0, 1) := dk_42 (by decide +kernel)
theorem dX5_tryAnswer_189 : decode cX5_tryAnswer 189 = .ok (.getfield 78, 3) := dk_180 (by decide +kernel)
theorem dX5_tryAnswer_192 : decode cX5_tryAnswer 192 = .ok (.ifCond .eq 7, 3) := dk_153 (by decide +kernel)
theorem dX5_tryAnswer_195 : decode cX5_tryAnswer 195 = .ok (.iload_n 1, 1) := dk_27 (by decide +kernel)
theorem dX5_tryAnswer_196 : decode cX5_tryAnswer 196 = .ok (.ifCond .ge 7, 3) := dk_156 (by decide +kernel)
theorem dX5_tryAnswer_199 : decode cX5_tryAnswer 199 = .ok (.aload_n 0, 1) := dk_42 (by decide +kernel)
theorem dX5_tryAnswer_200 : decode cX5_tryAnswer 200 = .ok (.invokevirtual 246, 3) := dk_182 (by decide +kernel)
theorem dX5_tryAnswer_203 : decode cX5_tryAnswer 203 = .ok (.return_, 1) := dk_177 (by decide +kernel)
def wsMX5_tryAnswer : List Cond := .code yX5_tryAnswer cX5_tryAnswer 3 none :: ([.fieldLink RX5 74 "OptimaWorks$Solver" "model" "LOptimaWorks$Model;", .fieldLink RX5 98 "OptimaWorks$Model" "goals" "I", .fieldLink RX5 112 "OptimaWorks$Model" "variables" "I", .fieldLink RX5 38 "OptimaWorks$Solver" "column" "[I", .fieldLink RX5 12 "OptimaWorks$Solver" "tableau" "LOptimaWorks$Tableau;", .fieldLink RX5 62 "OptimaWorks$Solver" "trial" "[LOptimaWorks$Whole;", .fieldLink RX5 78 "OptimaWorks$Solver" "answered" "Z", .fieldLink RX5 48 "OptimaWorks$Solver" "answer" "[LOptimaWorks$Whole;", .fieldLink RX5 52 "OptimaWorks$Solver" "answerGoal" "[LOptimaWorks$Whole;"] ++ wsX10 ++ wsX50 ++ (wsV RX5 236 RX6 yX6_sink wsMX6_sink) ++ (wsV RX5 239 RX6 yX6_keepSunk wsMX6_keepSunk) ++ (wsV RX5 242 RX5 yX5_takeNumbers wsMX5_takeNumbers) ++ (wsV RX5 232 RX5 yX5_compare wsMX5_compare) ++ (wsV RX5 246 RX5 yX5_keepAnswer wsMX5_keepAnswer) ++ (wsV RX5 225 RX5 yX5_goalRow wsMX5_goalRow) ++ (wsV RX5 228 RX6 yX6_makeLeast wsMX6_makeLeast) ++ (wsV RX5 177 RX6 yX6_cellAt wsMX6_cellAt))
theorem iwsMX5_tryAnswer_in1 : ∀ w ∈ wsX10, w ∈ wsMX5_tryAnswer := fun _ h => List.mem_cons_of_mem _ (List.mem_append_left _ (List.mem_append_left _ (List.mem_append_left _ (List.mem_append_left _ (List.mem_append_left _ (List.mem_append_left _ (List.mem_append_left _ (List.mem_append_left _ (List.mem_append_left _ (List.mem_append_right _ h))))))))))
theorem iwsMX5_tryAnswer_in5 : ∀ w ∈ wsX50, w ∈ wsMX5_tryAnswer := fun _ h => List.mem_cons_of_mem _ (List.mem_append_left _ (List.mem_append_left _ (List.mem_append_left _ (List.mem_append_left _ (List.mem_append_left _ (List.mem_append_left _ (List.mem_append_left _ (List.mem_append_left _ (List.mem_append_right _ h)))))))))
theorem gwsMX5_tryAnswer_0 : GoodIn wsMX5_tryAnswer (wsV RX5 236 RX6 yX6_sink wsMX6_sink) := goodIn_sub (fun _ h => List.mem_cons_of_mem _ (List.mem_append_left _ (List.mem_append_left _ (List.mem_append_left _ (List.mem_append_left _ (List.mem_append_left _ (List.mem_append_left _ (List.mem_append_left _ (List.mem_append_right _ h))))))))) (gdV (by decide +kernel) gdwsMX6_sink)
theorem gwsMX5_tryAnswer_1 : GoodIn wsMX5_tryAnswer (wsV RX5 239 RX6 yX6_keepSunk wsMX6_keepSunk) := goodIn_sub (fun _ h => List.mem_cons_of_mem _ (List.mem_append_left _ (List.mem_append_left _ (List.mem_append_left _ (List.mem_append_left _ (List.mem_append_left _ (List.mem_append_left _ (List.mem_append_right _ h)))))))) (gdV (by decide +kernel) gdwsMX6_keepSunk)
theorem gwsMX5_tryAnswer_2 : GoodIn wsMX5_tryAnswer (wsV RX5 242 RX5 yX5_takeNumbers wsMX5_takeNumbers) := goodIn_sub (fun _ h => List.mem_cons_of_mem _ (List.mem_append_left _ (List.mem_append_left _ (List.mem_append_left _ (List.mem_append_left _ (List.mem_append_left _ (List.mem_append_right _ h))))))) (gdV (by decide +kernel) gdwsMX5_takeNumbers)
theorem gwsMX5_tryAnswer_3 : GoodIn wsMX5_tryAnswer (wsV RX5 232 RX5 yX5_compare wsMX5_compare) := goodIn_sub (fun _ h => List.mem_cons_of_mem _ (List.mem_append_left _ (List.mem_append_left _ (List.mem_append_left _ (List.mem_append_left _ (List.mem_append_right _ h)))))) (gdV (by decide +kernel) gdwsMX5_compare)
theorem gwsMX5_tryAnswer_4 : GoodIn wsMX5_tryAnswer (wsV RX5 246 RX5 yX5_keepAnswer wsMX5_keepAnswer) := goodIn_sub (fun _ h => List.mem_cons_of_mem _ (List.mem_append_left _ (List.mem_append_left _ (List.mem_append_left _ (List.mem_append_right _ h))))) (gdV (by decide +kernel) gdwsMX5_keepAnswer)
theorem gwsMX5_tryAnswer_5 : GoodIn wsMX5_tryAnswer (wsV RX5 225 RX5 yX5_goalRow wsMX5_goalRow) := goodIn_sub (fun _ h => List.mem_cons_of_mem _ (List.mem_append_left _ (List.mem_append_left _ (List.mem_append_right _ h)))) (gdV (by decide +kernel) gdwsMX5_goalRow)
theorem gwsMX5_tryAnswer_6 : GoodIn wsMX5_tryAnswer (wsV RX5 228 RX6 yX6_makeLeast wsMX6_makeLeast) := goodIn_sub (fun _ h => List.mem_cons_of_mem _ (List.mem_append_left _ (List.mem_append_right _ h))) (gdV (by decide +kernel) gdwsMX6_makeLeast)
theorem gwsMX5_tryAnswer_7 : GoodIn wsMX5_tryAnswer (wsV RX5 177 RX6 yX6_cellAt wsMX6_cellAt) := goodIn_sub (fun _ h => List.mem_cons_of_mem _ (List.mem_append_right _ h)) (gdV (by decide +kernel) gdwsMX6_cellAt)
theorem gdwsMX5_tryAnswer : wsMX5_tryAnswer.all goodWord = true := gdC rfl (gdA (gdA (gdA (gdA (gdA (gdA (gdA (gdA (gdA (gdA (by decide +kernel : ([.fieldLink RX5 74 "OptimaWorks$Solver" "model" "LOptimaWorks$Model;", .fieldLink RX5 98 "OptimaWorks$Model" "goals" "I", .fieldLink RX5 112 "OptimaWorks$Model" "variables" "I", .fieldLink RX5 38 "OptimaWorks$Solver" "column" "[I", .fieldLink RX5 12 "OptimaWorks$Solver" "tableau" "LOptimaWorks$Tableau;", .fieldLink RX5 62 "OptimaWorks$Solver" "trial" "[LOptimaWorks$Whole;", .fieldLink RX5 78 "OptimaWorks$Solver" "answered" "Z", .fieldLink RX5 48 "OptimaWorks$Solver" "answer" "[LOptimaWorks$Whole;", .fieldLink RX5 52 "OptimaWorks$Solver" "answerGoal" "[LOptimaWorks$Whole;"] : List Cond).all goodWord = true) gdwsX10) gdwsX50) (gdV (by decide +kernel) gdwsMX6_sink)) (gdV (by decide +kernel) gdwsMX6_keepSunk)) (gdV (by decide +kernel) gdwsMX5_takeNumbers)) (gdV (by decide +kernel) gdwsMX5_compare)) (gdV (by decide +kernel) gdwsMX5_keepAnswer)) (gdV (by decide +kernel) gdwsMX5_goalRow)) (gdV (by decide +kernel) gdwsMX6_makeLeast)) (gdV (by decide +kernel) gdwsMX6_cellAt))
theorem hm_m_X5_tryAnswer_0 : (.fieldLink RX5 74 "OptimaWorks$Solver" "model" "LOptimaWorks$Model;" : Cond) ∈ wsMX5_tryAnswer := by decide +kernel
theorem hm_m_X5_tryAnswer_1 : (.fieldLink RX5 112 "OptimaWorks$Model" "variables" "I" : Cond) ∈ wsMX5_tryAnswer := by decide +kernel
theorem hm_m_X5_tryAnswer_2 : (.fieldLink RX5 62 "OptimaWorks$Solver" "trial" "[LOptimaWorks$Whole;" : Cond) ∈ wsMX5_tryAnswer := by decide +kernel
theorem hm_m_X5_tryAnswer_3 : (.fieldLink RX5 78 "OptimaWorks$Solver" "answered" "Z" : Cond) ∈ wsMX5_tryAnswer := by decide +kernel
theorem hm_m_X5_tryAnswer_4 : (.fieldLink RX5 38 "OptimaWorks$Solver" "column" "[I" : Cond) ∈ wsMX5_tryAnswer := by decide +kernel
theorem hm_m_X5_tryAnswer_5 : (.fieldLink RX5 12 "OptimaWorks$Solver" "tableau" "LOptimaWorks$Tableau;" : Cond) ∈ wsMX5_tryAnswer := by decide +kernel
set_option maxHeartbeats 4000000 in
set_option maxRecDepth 100000 in
/-- is it better -/
theorem m_X5_tryAnswer (l : Launch) (dC : Nat → ClassId) (dI : Nat → Nat → Nat) (hO : Nat → Nat) (aO : Nat → Nat) (kO : Nat → ClassId) (hM : Nat → Nat) (hQ : Nat → Nat) (hw : Nat → Nat) (iO_answered : Int32) (iO_searched : Int32) (iO_searchedRelaxed : Int32) (iO_counted : Int32) (fO_countedCase : Nat → Int32) (gO_goalNumber : Nat → Int64) (gO_goalScale : Nat → Int64) (fO_start : Nat → Int32) (fO_column : Nat → Int32) (fO_chosen : Nat → Int32) (aM : Nat → Nat) (kM : Nat → ClassId) (iM_stands : Int32) (iM_variables : Int32) (iM_rows : Int32) (iM_goals : Int32) (iM_differents : Int32) (iM_cases : Int32) (fM_from : Nat → Int32) (fM_to : Nat → Int32) (fM_whole : Nat → Int32) (fM_ways : Nat → Int32) (iM_plainRows : Int32) (fM_plainRow : Nat → Int32) (fM_kept : Nat → Int32) (fM_goalOver : Nat → Int32) (fM_goalUnder : Nat → Int32) (fM_goalMax : Nat → Int32) (fM_different : Nat → Int32) (aQ : Nat → Nat) (kQ : Nat → ClassId) (fQ_inside : Nat → Int32) (fQ_outside : Nat → Int32) (fQ_shut : Nat → Int32) (iQ_rows : Int32) (iQ_allRows : Int32) (iQ_columns : Int32) (nW : Nat) (lw : Nat → Nat) (kw : ClassId) (wl : Nat → Int32) (wb : Nat → Int32) (wG : Nat → Nat → Int64) (b_iO_answered : 0 ≤ iO_answered.toInt ∧ iO_answered.toInt ≤ 1) (b_iO_searched : 0 ≤ iO_searched.toInt ∧ iO_searched.toInt ≤ 1) (b_iO_searchedRelaxed : 0 ≤ iO_searchedRelaxed.toInt ∧ iO_searchedRelaxed.toInt ≤ 1) (b_iO_counted : (-1) ≤ iO_counted.toInt ∧ iO_counted.toInt ≤ 64) (b_fO_countedCase : ∀ q : Nat, 0 ≤ (fO_countedCase q).toInt ∧ (fO_countedCase q).toInt ≤ 200000) (b_fO_column : ∀ q : Nat, (-1) ≤ (fO_column q).toInt ∧ (fO_column q).toInt ≤ 8) (b_fO_chosen : ∀ q : Nat, 0 ≤ (fO_chosen q).toInt ∧ (fO_chosen q).toInt ≤ 2) (b_iM_stands : 0 ≤ iM_stands.toInt ∧ iM_stands.toInt ≤ 1) (b_iM_variables : 0 ≤ iM_variables.toInt ∧ iM_variables.toInt ≤ 8) (b_iM_rows : 0 ≤ iM_rows.toInt ∧ iM_rows.toInt ≤ 12) (b_iM_goals : 0 ≤ iM_goals.toInt ∧ iM_goals.toInt ≤ 3) (b_iM_differents : 0 ≤ iM_differents.toInt ∧ iM_differents.toInt ≤ 8) (b_iM_cases : 0 ≤ iM_cases.toInt ∧ iM_cases.toInt ≤ 200000) (b_fM_ways : ∀ q : Nat, 0 ≤ (fM_ways q).toInt ∧ (fM_ways q).toInt ≤ 3) (b_iM_plainRows : 0 ≤ iM_plainRows.toInt ∧ iM_plainRows.toInt ≤ 12) (b_fM_plainRow : ∀ q : Nat, 0 ≤ (fM_plainRow q).toInt ∧ (fM_plainRow q).toInt ≤ 11) (b_pr : iM_plainRows.toInt ≤ iM_rows.toInt) (b_iQ_rows : 0 ≤ iQ_rows.toInt ∧ iQ_rows.toInt ≤ 40) (b_iQ_allRows : 0 ≤ iQ_allRows.toInt ∧ iQ_allRows.toInt ≤ 40) (b_iQ_columns : 0 ≤ iQ_columns.toInt ∧ iQ_columns.toInt ≤ 40) (b_tb : TbO iQ_rows iQ_allRows iQ_columns) (b_wl : ∀ q : Nat, 0 ≤ (wl q).toInt ∧ (wl q).toInt ≤ 14) (b_wb : ∀ q : Nat, 0 ≤ (wb q).toInt ∧ (wb q).toInt ≤ 1) (hnW : 432 ≤ nW) (hc8 : iQ_columns.toInt ≤ 8) (hr20 : iQ_rows.toInt ≤ 20) (sz : Nat) : Met l yX5_tryAnswer wsMX5_tryAnswer ({ frames := 6, cells := 0, slots := 0, locals := 156 }) (va_Pc [.ref (hO 0)] (fun U => U.heap.size = sz ∧ va_P (dC, dI) vwCl (WO hO aO kO hM hQ hw iO_answered iO_searched iO_searchedRelaxed iO_counted fO_countedCase gO_goalNumber gO_goalScale fO_start fO_column fO_chosen ++ (WM hM aM kM iM_stands iM_variables iM_rows iM_goals iM_differents iM_cases fM_from fM_to fM_whole fM_ways iM_plainRows fM_plainRow fM_kept fM_goalOver fM_goalUnder fM_goalMax fM_different ++ (WQ hQ aQ kQ hw fQ_inside fQ_outside fQ_shut iQ_rows iQ_allRows iQ_columns ++ (WW nW hw lw kw wl wb wG)))) U.heap ∧ va_K (dC, dI) vwCl (tO kO ++ (tM kM ++ (tQ kQ ++ (tW kw)))) U ∧ va_D (fun _ => True) (WO hO aO kO hM hQ hw iO_answered iO_searched iO_searchedRelaxed iO_counted fO_countedCase gO_goalNumber gO_goalScale fO_start fO_column fO_chosen ++ (WM hM aM kM iM_stands iM_variables iM_rows iM_goals iM_differents iM_cases fM_from fM_to fM_whole fM_ways iM_plainRows fM_plainRow fM_kept fM_goalOver fM_goalUnder fM_goalMax fM_different ++ (WQ hQ aQ kQ hw fQ_inside fQ_outside fQ_shut iQ_rows iQ_allRows iQ_columns ++ (WW nW hw lw kw wl wb wG)))))) (va_Qv (fun (u : (Int32) × (Nat → Int32) × (Nat → Int32) × (Nat → Int32) × (Nat → Int32) × (Nat → Int32) × (Nat → Nat → Int64)) => (0 ≤ (u.1).toInt ∧ (u.1).toInt ≤ 1) ∧ (∀ q : Nat, 0 ≤ ((u.2.2.2.2.1) q).toInt ∧ ((u.2.2.2.2.1) q).toInt ≤ 14) ∧ (∀ q : Nat, 0 ≤ ((u.2.2.2.2.2.1) q).toInt ∧ ((u.2.2.2.2.2.1) q).toInt ≤ 1)) (fun (u : (Int32) × (Nat → Int32) × (Nat → Int32) × (Nat → Int32) × (Nat → Int32) × (Nat → Int32) × (Nat → Nat → Int64)) t => va_P (dC, dI) vwCl (WO hO aO kO hM hQ hw (u.1) iO_searched iO_searchedRelaxed iO_counted fO_countedCase gO_goalNumber gO_goalScale fO_start fO_column fO_chosen ++ (WM hM aM kM iM_stands iM_variables iM_rows iM_goals iM_differents iM_cases fM_from fM_to fM_whole fM_ways iM_plainRows fM_plainRow fM_kept fM_goalOver fM_goalUnder fM_goalMax fM_different ++ (WQ hQ aQ kQ hw (u.2.1) (u.2.2.1) (u.2.2.2.1) iQ_rows iQ_allRows iQ_columns ++ (WW nW hw lw kw (u.2.2.2.2.1) (u.2.2.2.2.2.1) (u.2.2.2.2.2.2))))) t.heap ∧ va_D (va_A (WO hO aO kO hM hQ hw iO_answered iO_searched iO_searchedRelaxed iO_counted fO_countedCase gO_goalNumber gO_goalScale fO_start fO_column fO_chosen ++ (WM hM aM kM iM_stands iM_variables iM_rows iM_goals iM_differents iM_cases fM_from fM_to fM_whole fM_ways iM_plainRows fM_plainRow fM_kept fM_goalOver fM_goalUnder fM_goalMax fM_different ++ (WQ hQ aQ kQ hw fQ_inside fQ_outside fQ_shut iQ_rows iQ_allRows iQ_columns ++ (WW nW hw lw kw wl wb wG)))) sz) (WO hO aO kO hM hQ hw (u.1) iO_searched iO_searchedRelaxed iO_counted fO_countedCase gO_goalNumber gO_goalScale fO_start fO_column fO_chosen ++ (WM hM aM kM iM_stands iM_variables iM_rows iM_goals iM_differents iM_cases fM_from fM_to fM_whole fM_ways iM_plainRows fM_plainRow fM_kept fM_goalOver fM_goalUnder fM_goalMax fM_different ++ (WQ hQ aQ kQ hw (u.2.1) (u.2.2.1) (u.2.2.2.1) iQ_rows iQ_allRows iQ_columns ++ (WW nW hw lw kw (u.2.2.2.2.1) (u.2.2.2.2.2.1) (u.2.2.2.2.2.2)))))) (va_A (WO hO aO kO hM hQ hw iO_answered iO_searched iO_searchedRelaxed iO_counted fO_countedCase gO_goalNumber gO_goalScale fO_start fO_column fO_chosen ++ (WM hM aM kM iM_stands iM_variables iM_rows iM_goals iM_differents iM_cases fM_from fM_to fM_whole fM_ways iM_plainRows fM_plainRow fM_kept fM_goalOver fM_goalUnder fM_goalMax fM_different ++ (WQ hQ aQ kQ hw fQ_inside fQ_outside fQ_shut iQ_rows iQ_allRows iQ_columns ++ (WW nW hw lw kw wl wb wG)))) sz)) 0 0 (va_A (WO hO aO kO hM hQ hw iO_answered iO_searched iO_searchedRelaxed iO_counted fO_countedCase gO_goalNumber gO_goalScale fO_start fO_column fO_chosen ++ (WM hM aM kM iM_stands iM_variables iM_rows iM_goals iM_differents iM_cases fM_from fM_to fM_whole fM_ways iM_plainRows fM_plainRow fM_kept fM_goalOver fM_goalUnder fM_goalMax fM_different ++ (WQ hQ aQ kQ hw fQ_inside fQ_outside fQ_shut iQ_rows iQ_allRows iQ_columns ++ (WW nW hw lw kw wl wb wG)))) sz) := by
  refine Met.ofW (cc := cX5_tryAnswer) (maxL := 3) (ret := none) (by decide) rfl ?_
  intro p e s m args below meth c s₁ B hml hv
  obtain ⟨rfl, hsz, hP, hK, hD0⟩ := hv
  have hx := B.exec
  have hb := B.bytes
  have hr := B.returns
  have hts := atoms_spec (ws := wsMX5_tryAnswer) B.pre
  have hown : s.vm.findClass RX5 = some m.cls := findClass_of_methodNamed B.named
  have hlocks := B.notSynchronized
  subst hsz
  have hD := hD0.self (sz := s.heap.size)
  generalize hAe : va_A (WO hO aO kO hM hQ hw iO_answered iO_searched iO_searchedRelaxed iO_counted fO_countedCase gO_goalNumber gO_goalScale fO_start fO_column fO_chosen ++ (WM hM aM kM iM_stands iM_variables iM_rows iM_goals iM_differents iM_cases fM_from fM_to fM_whole fM_ways iM_plainRows fM_plainRow fM_kept fM_goalOver fM_goalUnder fM_goalMax fM_different ++ (WQ hQ aQ kQ hw fQ_inside fQ_outside fQ_shut iQ_rows iQ_allRows iQ_columns ++ (WW nW hw lw kw wl wb wG)))) s.heap.size = A at hD ⊢
  have hA : ∀ q : Nat, s.heap.size ≤ q → A q := fun q h => by rw [← hAe]; exact Or.inr h
  have hS : va_S A s.heap s.heap [] := va_S.rf
  have hl := lv_entry ([.ref (hO 0)]) (n := 3) (Nat.le_of_ble_eq_true rfl)
  rw [lg_entry_eq]
  generalize (lg_sl ([.ref (hO 0)]) ++ List.replicate (3 - (lg_sl ([.ref (hO 0)])).length) Slot.unset).toArray = ls at hl ⊢
  have hl : lv_has ls 3 [(0, .ref (hO 0))] := hl
  refine lv_iconst (v := 0) hx hb dX5_tryAnswer_0 (by decide) ?_
  refine lv_istore_n hx hb dX5_tryAnswer_1 rfl hl (by decide) rfl (fun ls (hl : lv_has ls _ ([(1, .int 0), (0, .ref (hO 0))])) => ?_)
  refine lv_iconst (v := 0) hx hb dX5_tryAnswer_2 (by decide) ?_
  refine lv_istore_n hx hb dX5_tryAnswer_3 rfl hl (by decide) rfl (fun ls (hl : lv_has ls _ ([(2, .int 0), (1, .int 0), (0, .ref (hO 0))])) => ?_)
  have hl : lv_has _ _ ([(2, .int 0), (1, .int 0), (0, .ref (hO 0))]) := lv_sub hl [0, 1, 2] rfl
  refine (fun (loop : ∀ (n9 : Nat) (fQ_inside_x4 : Nat → Int32) (fQ_outside_x4 : Nat → Int32) (fQ_shut_x4 : Nat → Int32) (wl_x4 : Nat → Int32) (wb_x4 : Nat → Int32) (wG_x4 : Nat → Nat → Int64) (l2_x4 : Int32) (l1_x4 : Int32) (H : Heap) (locs : List Loc) (ls : Array Slot), (∀ q : Nat, 0 ≤ (wl_x4 q).toInt ∧ (wl_x4 q).toInt ≤ 14) → (∀ q : Nat, 0 ≤ (wb_x4 q).toInt ∧ (wb_x4 q).toInt ≤ 1) → (0 ≤ l2_x4.toInt ∧ l2_x4.toInt ≤ 3) → ((-1) ≤ l1_x4.toInt ∧ l1_x4.toInt ≤ 1) → (3 - l2_x4.toInt < ((n9 : Nat) : Int)) → va_P (dC, dI) vwCl (WO hO aO kO hM hQ hw iO_answered iO_searched iO_searchedRelaxed iO_counted fO_countedCase gO_goalNumber gO_goalScale fO_start fO_column fO_chosen ++ (WM hM aM kM iM_stands iM_variables iM_rows iM_goals iM_differents iM_cases fM_from fM_to fM_whole fM_ways iM_plainRows fM_plainRow fM_kept fM_goalOver fM_goalUnder fM_goalMax fM_different ++ (WQ hQ aQ kQ hw fQ_inside_x4 fQ_outside_x4 fQ_shut_x4 iQ_rows iQ_allRows iQ_columns ++ (WW nW hw lw kw wl_x4 wb_x4 wG_x4)))) H → va_D A (WO hO aO kO hM hQ hw iO_answered iO_searched iO_searchedRelaxed iO_counted fO_countedCase gO_goalNumber gO_goalScale fO_start fO_column fO_chosen ++ (WM hM aM kM iM_stands iM_variables iM_rows iM_goals iM_differents iM_cases fM_from fM_to fM_whole fM_ways iM_plainRows fM_plainRow fM_kept fM_goalOver fM_goalUnder fM_goalMax fM_different ++ (WQ hQ aQ kQ hw fQ_inside_x4 fQ_outside_x4 fQ_shut_x4 iQ_rows iQ_allRows iQ_columns ++ (WW nW hw lw kw wl_x4 wb_x4 wG_x4)))) → va_S A s.heap H locs → lv_has ls 3 [(2, .int l2_x4), (1, .int l1_x4), (0, .ref (hO 0))] → W p l e _ s m _ below meth c H locs 0 0 _ (F0 m 4 ls [])) => loop (4) fQ_inside fQ_outside fQ_shut wl wb wG 0 0 _ _ _ b_wl b_wb (show 0 ≤ (0 : Int32).toInt ∧ (0 : Int32).toInt ≤ 3 from by decide) (show (-1) ≤ (0 : Int32).toInt ∧ (0 : Int32).toInt ≤ 1 from by decide) ((by have e9 : (0 : Int32).toInt = 0 := (by decide : (0 : Int32).toInt = 0); omega)) hP hD hS hl) ?_
  intro n9
  induction n9 with
  | zero => intro fQ_inside_x4 fQ_outside_x4 fQ_shut_x4 wl_x4 wb_x4 wG_x4 l2_x4 l1_x4 H locs ls b_wl_x4 b_wb_x4 b_l2_x4 b_l1_x4 hf9; exact False.elim (by omega)
  | succ n9 ihx4 =>
    intro fQ_inside_x4 fQ_outside_x4 fQ_shut_x4 wl_x4 wb_x4 wG_x4 l2_x4 l1_x4 H locs ls b_wl_x4 b_wb_x4 b_l2_x4 b_l1_x4 hfx4 hP hD hS hl
    refine lv_iload_n hx hb dX5_tryAnswer_4 rfl (lv_at hl 0 rfl) ?_
    refine lv_aload_n hx hb dX5_tryAnswer_5 rfl (lv_at hl 2 rfl) ?_
    refine va_get (D := (dC, dI)) (ci := 5) (v := .ref (hM 0)) (C := RX5) (T := TX5) (N := 19) hx hb hts iwsMX5_tryAnswer_in5 hown hK hP 0 rfl rfl 0 (by decide) (hts _ hm_m_X5_tryAnswer_0) (fun _ h9 => h9) rfl dX5_tryAnswer_6 ?_
    refine va_get (D := (dC, dI)) (ci := 1) (v := .int iM_goals) (C := RX1) (T := TX1) (N := 17) hx hb hts iwsMX5_tryAnswer_in1 hown hK hP 11 rfl rfl 3 (by decide) (hts (.fieldLink RX5 98 "OptimaWorks$Model" "goals" "I") (by decide +kernel)) (fun _ h9 => h9) rfl dX5_tryAnswer_9 ?_
    refine lv_icmp_ge (tgt := 73) hx hb dX5_tryAnswer_12 (by decide) (fun c_12 => ?_) (fun c_12 => ?_)
    · have t_12 : l2_x4.toInt ≥ iM_goals.toInt := toI_ge c_12 rfl rfl
      refine lv_iconst (v := 0) hx hb dX5_tryAnswer_73 (by decide) ?_
      refine lv_istore_n hx hb dX5_tryAnswer_74 rfl hl (by decide) rfl (fun ls (hl : lv_has ls _ ([(2, .int 0), (1, .int l1_x4), (0, .ref (hO 0))])) => ?_)
      have hl : lv_has _ _ ([(2, .int 0), (1, .int l1_x4), (0, .ref (hO 0))]) := lv_sub hl [0, 1, 2] rfl
      refine (fun (loop : ∀ (n9 : Nat) (fQ_inside_x75 : Nat → Int32) (fQ_outside_x75 : Nat → Int32) (fQ_shut_x75 : Nat → Int32) (wl_x75 : Nat → Int32) (wb_x75 : Nat → Int32) (wG_x75 : Nat → Nat → Int64) (l2_x75 : Int32) (H : Heap) (locs : List Loc) (ls : Array Slot), (∀ q : Nat, 0 ≤ (wl_x75 q).toInt ∧ (wl_x75 q).toInt ≤ 14) → (∀ q : Nat, 0 ≤ (wb_x75 q).toInt ∧ (wb_x75 q).toInt ≤ 1) → (0 ≤ l2_x75.toInt ∧ l2_x75.toInt ≤ 8) → (8 - l2_x75.toInt < ((n9 : Nat) : Int)) → va_P (dC, dI) vwCl (WO hO aO kO hM hQ hw iO_answered iO_searched iO_searchedRelaxed iO_counted fO_countedCase gO_goalNumber gO_goalScale fO_start fO_column fO_chosen ++ (WM hM aM kM iM_stands iM_variables iM_rows iM_goals iM_differents iM_cases fM_from fM_to fM_whole fM_ways iM_plainRows fM_plainRow fM_kept fM_goalOver fM_goalUnder fM_goalMax fM_different ++ (WQ hQ aQ kQ hw fQ_inside_x75 fQ_outside_x75 fQ_shut_x75 iQ_rows iQ_allRows iQ_columns ++ (WW nW hw lw kw wl_x75 wb_x75 wG_x75)))) H → va_D A (WO hO aO kO hM hQ hw iO_answered iO_searched iO_searchedRelaxed iO_counted fO_countedCase gO_goalNumber gO_goalScale fO_start fO_column fO_chosen ++ (WM hM aM kM iM_stands iM_variables iM_rows iM_goals iM_differents iM_cases fM_from fM_to fM_whole fM_ways iM_plainRows fM_plainRow fM_kept fM_goalOver fM_goalUnder fM_goalMax fM_different ++ (WQ hQ aQ kQ hw fQ_inside_x75 fQ_outside_x75 fQ_shut_x75 iQ_rows iQ_allRows iQ_columns ++ (WW nW hw lw kw wl_x75 wb_x75 wG_x75)))) → va_S A s.heap H locs → lv_has ls 3 [(2, .int l2_x75), (1, .int l1_x4), (0, .ref (hO 0))] → W p l e _ s m _ below meth c H locs 0 0 _ (F0 m 75 ls [])) => loop (9) fQ_inside_x4 fQ_outside_x4 fQ_shut_x4 wl_x4 wb_x4 wG_x4 0 _ _ _ b_wl_x4 b_wb_x4 (show 0 ≤ (0 : Int32).toInt ∧ (0 : Int32).toInt ≤ 8 from by decide) ((by have e9 : (0 : Int32).toInt = 0 := (by decide : (0 : Int32).toInt = 0); omega)) hP hD hS hl) ?_
      intro n9
      induction n9 with
      | zero => intro fQ_inside_x75 fQ_outside_x75 fQ_shut_x75 wl_x75 wb_x75 wG_x75 l2_x75 H locs ls b_wl_x75 b_wb_x75 b_l2_x75 hf9; exact False.elim (by omega)
      | succ n9 ihx75 =>
        intro fQ_inside_x75 fQ_outside_x75 fQ_shut_x75 wl_x75 wb_x75 wG_x75 l2_x75 H locs ls b_wl_x75 b_wb_x75 b_l2_x75 hfx75 hP hD hS hl
        refine lv_iload_n hx hb dX5_tryAnswer_75 rfl (lv_at hl 0 rfl) ?_
        refine lv_aload_n hx hb dX5_tryAnswer_76 rfl (lv_at hl 2 rfl) ?_
        refine va_get (D := (dC, dI)) (ci := 5) (v := .ref (hM 0)) (C := RX5) (T := TX5) (N := 19) hx hb hts iwsMX5_tryAnswer_in5 hown hK hP 0 rfl rfl 0 (by decide) (hts _ hm_m_X5_tryAnswer_0) (fun _ h9 => h9) rfl dX5_tryAnswer_77 ?_
        refine va_get (D := (dC, dI)) (ci := 1) (v := .int iM_variables) (C := RX1) (T := TX1) (N := 17) hx hb hts iwsMX5_tryAnswer_in1 hown hK hP 11 rfl rfl 1 (by decide) (hts _ hm_m_X5_tryAnswer_1) (fun _ h9 => h9) rfl dX5_tryAnswer_80 ?_
        refine lv_icmp_ge (tgt := 133) hx hb dX5_tryAnswer_83 (by decide) (fun c_83 => ?_) (fun c_83 => ?_)
        · have t_83 : l2_x75.toInt ≥ iM_variables.toInt := toI_ge c_83 rfl rfl
          refine lv_aload_n hx hb dX5_tryAnswer_133 rfl (lv_at hl 2 rfl) ?_
          refine lv_aload_n hx hb dX5_tryAnswer_134 rfl (lv_at hl 2 rfl) ?_
          refine va_get (D := (dC, dI)) (ci := 5) (v := .ref (aO 8)) (C := RX5) (T := TX5) (N := 19) hx hb hts iwsMX5_tryAnswer_in5 hown hK hP 0 rfl rfl 15 (by decide) (hts _ hm_m_X5_tryAnswer_2) (fun _ h9 => h9) rfl dX5_tryAnswer_135 ?_
          have hFc := allFree hD hS hA
          refine va_callv (va_runV (As := [.ref (aO 8)]) (rest := []) ⟨hx, hb, hml, hown, hts⟩ (m_X5_takeNumbers l dC dI hO aO kO hM hQ hw iO_answered iO_searched iO_searchedRelaxed iO_counted fO_countedCase gO_goalNumber gO_goalScale fO_start fO_column fO_chosen aM kM iM_stands iM_variables iM_rows iM_goals iM_differents iM_cases fM_from fM_to fM_whole fM_ways iM_plainRows fM_plainRow fM_kept fM_goalOver fM_goalUnder fM_goalMax fM_different aQ kQ fQ_inside_x75 fQ_outside_x75 fQ_shut_x75 iQ_rows iQ_allRows iQ_columns nW lw kw wl_x75 wb_x75 wG_x75 (b_iO_answered) (b_iO_searched) (b_iO_searchedRelaxed) (b_iO_counted) b_fO_countedCase b_fO_column b_fO_chosen (b_iM_stands) (b_iM_variables) (b_iM_rows) (b_iM_goals) (b_iM_differents) (b_iM_cases) b_fM_ways (b_iM_plainRows) b_fM_plainRow (by first | with_reducible assumption | omega | assumption) (b_iQ_rows) (b_iQ_allRows) (b_iQ_columns) (by first | with_reducible assumption | omega | assumption) b_wl_x75 b_wb_x75 (by omega) (by first | with_reducible assumption | omega | (rw [iI_t (by omega) (by omega)]; omega) | decide | assumption) H.size) (cwV 1 hts gwsMX5_tryAnswer_2 rfl rfl rfl hd_yX5_takeNumbers_RX5 (by decide +kernel)) (fz_pre (va_recv hK hP (ci := 5) (q0 := 0) rfl rfl) hP hK hD) rfl rfl hl.1 rfl (lv_room (Nat.le_of_ble_eq_true rfl)) dX5_tryAnswer_138 (by decide +kernel)) hS (fun q _ h => hFc q h) hFc (fun u t9_ H locs ht hvm hw9 hB9 hz1 hk1 hS => ?_)
          revert u hw9 hB9
          refine fz_p3 ?_
          intro wl_476 wb_476 wG_476 hw9 hB9
          try dsimp only at hw9 hB9
          revert hw9
          refine fz_a2 ?_
          intro b_wl_476 b_wb_476
          have hP : va_P (dC, dI) vwCl (WO hO aO kO hM hQ hw iO_answered iO_searched iO_searchedRelaxed iO_counted fO_countedCase gO_goalNumber gO_goalScale fO_start fO_column fO_chosen ++ (WM hM aM kM iM_stands iM_variables iM_rows iM_goals iM_differents iM_cases fM_from fM_to fM_whole fM_ways iM_plainRows fM_plainRow fM_kept fM_goalOver fM_goalUnder fM_goalMax fM_different ++ (WQ hQ aQ kQ hw fQ_inside_x75 fQ_outside_x75 fQ_shut_x75 iQ_rows iQ_allRows iQ_columns ++ (WW nW hw lw kw wl_476 wb_476 wG_476)))) H := fz_P ht hB9.1
          have hD := fz_sd hP (hB9.2.weaken (fun _ q _ h => hFc q.1 h)) rfl
          refine lv_iconst (v := 0) hx hb dX5_tryAnswer_141 (by decide) ?_
          refine lv_istore_n hx hb dX5_tryAnswer_142 rfl hl (by decide) rfl (fun ls (hl : lv_has ls _ ([(2, .int 0), (1, .int l1_x4), (0, .ref (hO 0))])) => ?_)
          have hl : lv_has _ _ ([(2, .int 0), (1, .int l1_x4), (0, .ref (hO 0))]) := lv_sub hl [0, 1, 2] rfl
          refine (fun (loop : ∀ (n9 : Nat) (wl_x143 : Nat → Int32) (wb_x143 : Nat → Int32) (wG_x143 : Nat → Nat → Int64) (l2_x143 : Int32) (l1_x143 : Int32) (H : Heap) (locs : List Loc) (ls : Array Slot), (∀ q : Nat, 0 ≤ (wl_x143 q).toInt ∧ (wl_x143 q).toInt ≤ 14) → (∀ q : Nat, 0 ≤ (wb_x143 q).toInt ∧ (wb_x143 q).toInt ≤ 1) → (0 ≤ l2_x143.toInt ∧ l2_x143.toInt ≤ 8) → ((-1) ≤ l1_x143.toInt ∧ l1_x143.toInt ≤ 1) → (8 - l2_x143.toInt < ((n9 : Nat) : Int)) → va_P (dC, dI) vwCl (WO hO aO kO hM hQ hw iO_answered iO_searched iO_searchedRelaxed iO_counted fO_countedCase gO_goalNumber gO_goalScale fO_start fO_column fO_chosen ++ (WM hM aM kM iM_stands iM_variables iM_rows iM_goals iM_differents iM_cases fM_from fM_to fM_whole fM_ways iM_plainRows fM_plainRow fM_kept fM_goalOver fM_goalUnder fM_goalMax fM_different ++ (WQ hQ aQ kQ hw fQ_inside_x75 fQ_outside_x75 fQ_shut_x75 iQ_rows iQ_allRows iQ_columns ++ (WW nW hw lw kw wl_x143 wb_x143 wG_x143)))) H → va_D A (WO hO aO kO hM hQ hw iO_answered iO_searched iO_searchedRelaxed iO_counted fO_countedCase gO_goalNumber gO_goalScale fO_start fO_column fO_chosen ++ (WM hM aM kM iM_stands iM_variables iM_rows iM_goals iM_differents iM_cases fM_from fM_to fM_whole fM_ways iM_plainRows fM_plainRow fM_kept fM_goalOver fM_goalUnder fM_goalMax fM_different ++ (WQ hQ aQ kQ hw fQ_inside_x75 fQ_outside_x75 fQ_shut_x75 iQ_rows iQ_allRows iQ_columns ++ (WW nW hw lw kw wl_x143 wb_x143 wG_x143)))) → va_S A s.heap H locs → lv_has ls 3 [(2, .int l2_x143), (1, .int l1_x143), (0, .ref (hO 0))] → W p l e _ s m _ below meth c H locs 0 0 _ (F0 m 143 ls [])) => loop (9) wl_476 wb_476 wG_476 0 l1_x4 _ _ _ b_wl_476 b_wb_476 (show 0 ≤ (0 : Int32).toInt ∧ (0 : Int32).toInt ≤ 8 from by decide) (b_l1_x4) ((by have e9 : (0 : Int32).toInt = 0 := (by decide : (0 : Int32).toInt = 0); omega)) hP hD hS hl) ?_
          intro n9
          induction n9 with
          | zero => intro wl_x143 wb_x143 wG_x143 l2_x143 l1_x143 H locs ls b_wl_x143 b_wb_x143 b_l2_x143 b_l1_x143 hf9; exact False.elim (by omega)
          | succ n9 ihx143 =>
            intro wl_x143 wb_x143 wG_x143 l2_x143 l1_x143 H locs ls b_wl_x143 b_wb_x143 b_l2_x143 b_l1_x143 hfx143 hP hD hS hl
            refine lv_iload_n hx hb dX5_tryAnswer_143 rfl (lv_at hl 0 rfl) ?_
            refine lv_aload_n hx hb dX5_tryAnswer_144 rfl (lv_at hl 2 rfl) ?_
            refine va_get (D := (dC, dI)) (ci := 5) (v := .ref (hM 0)) (C := RX5) (T := TX5) (N := 19) hx hb hts iwsMX5_tryAnswer_in5 hown hK hP 0 rfl rfl 0 (by decide) (hts _ hm_m_X5_tryAnswer_0) (fun _ h9 => h9) rfl dX5_tryAnswer_145 ?_
            refine va_get (D := (dC, dI)) (ci := 1) (v := .int iM_variables) (C := RX1) (T := TX1) (N := 17) hx hb hts iwsMX5_tryAnswer_in1 hown hK hP 11 rfl rfl 1 (by decide) (hts _ hm_m_X5_tryAnswer_1) (fun _ h9 => h9) rfl dX5_tryAnswer_148 ?_
            refine W.cut (pc := 188) (fun H locs ls stk =>  stk = [] ∧ va_P (dC, dI) vwCl (WO hO aO kO hM hQ hw iO_answered iO_searched iO_searchedRelaxed iO_counted fO_countedCase gO_goalNumber gO_goalScale fO_start fO_column fO_chosen ++ (WM hM aM kM iM_stands iM_variables iM_rows iM_goals iM_differents iM_cases fM_from fM_to fM_whole fM_ways iM_plainRows fM_plainRow fM_kept fM_goalOver fM_goalUnder fM_goalMax fM_different ++ (WQ hQ aQ kQ hw fQ_inside_x75 fQ_outside_x75 fQ_shut_x75 iQ_rows iQ_allRows iQ_columns ++ (WW nW hw lw kw wl_x143 wb_x143 wG_x143)))) H ∧ va_D A (WO hO aO kO hM hQ hw iO_answered iO_searched iO_searchedRelaxed iO_counted fO_countedCase gO_goalNumber gO_goalScale fO_start fO_column fO_chosen ++ (WM hM aM kM iM_stands iM_variables iM_rows iM_goals iM_differents iM_cases fM_from fM_to fM_whole fM_ways iM_plainRows fM_plainRow fM_kept fM_goalOver fM_goalUnder fM_goalMax fM_different ++ (WQ hQ aQ kQ hw fQ_inside_x75 fQ_outside_x75 fQ_shut_x75 iQ_rows iQ_allRows iQ_columns ++ (WW nW hw lw kw wl_x143 wb_x143 wG_x143)))) ∧ va_S A s.heap H locs ∧ lv_has ls 3 [(2, .int l2_x143), (1, .int l1_x143), (0, .ref (hO 0))]) (fun join142 => ?_) ?_
            · refine lv_icmp_ge (tgt := 188) hx hb dX5_tryAnswer_151 (by decide) (fun c_151 => ?_) (fun c_151 => ?_)
              · have t_151 : l2_x143.toInt ≥ iM_variables.toInt := toI_ge c_151 rfl rfl
                have hl : lv_has _ _ ([(2, .int l2_x143), (1, .int l1_x143), (0, .ref (hO 0))]) := lv_sub hl [0, 1, 2] rfl
                exact join142 _ _ _ _ ⟨rfl, hP, hD, hS, hl⟩
              · have t_151 : ¬ l2_x143.toInt ≥ iM_variables.toInt := toI_nge c_151 rfl rfl
                refine lv_aload_n hx hb dX5_tryAnswer_154 rfl (lv_at hl 2 rfl) ?_
                refine va_get (D := (dC, dI)) (ci := 5) (v := .int iO_answered) (C := RX5) (T := TX5) (N := 19) hx hb hts iwsMX5_tryAnswer_in5 hown hK hP 0 rfl rfl 2 (by decide) (hts _ hm_m_X5_tryAnswer_3) (fun _ h9 => h9) rfl dX5_tryAnswer_155 ?_
                refine lv_if_eq (tgt := 188) hx hb dX5_tryAnswer_158 (by decide) (fun c_158 => ?_) (fun c_158 => ?_)
                · have t_158 : iO_answered.toInt = 0 := toI_eq c_158 rfl (by decide : (0 : Int32).toInt = 0)
                  have hl : lv_has _ _ ([(2, .int l2_x143), (1, .int l1_x143), (0, .ref (hO 0))]) := lv_sub hl [0, 1, 2] rfl
                  exact join142 _ _ _ _ ⟨rfl, hP, hD, hS, hl⟩
                · have t_158 : ¬ iO_answered.toInt = 0 := toI_neq c_158 rfl (by decide : (0 : Int32).toInt = 0)
                  refine lv_iload_n hx hb dX5_tryAnswer_161 rfl (lv_at hl 1 rfl) ?_
                  refine lv_if_ne (tgt := 188) hx hb dX5_tryAnswer_162 (by decide) (fun c_162 => ?_) (fun c_162 => ?_)
                  · have t_162 : l1_x143.toInt ≠ 0 := toI_ne c_162 rfl (by decide : (0 : Int32).toInt = 0)
                    have hl : lv_has _ _ ([(2, .int l2_x143), (1, .int l1_x143), (0, .ref (hO 0))]) := lv_sub hl [0, 1, 2] rfl
                    exact join142 _ _ _ _ ⟨rfl, hP, hD, hS, hl⟩
                  · have t_162 : l1_x143.toInt = 0 := toI_nne c_162 rfl (by decide : (0 : Int32).toInt = 0)
                    refine lv_aload_n hx hb dX5_tryAnswer_165 rfl (lv_at hl 2 rfl) ?_
                    refine lv_aload_n hx hb dX5_tryAnswer_166 rfl (lv_at hl 2 rfl) ?_
                    refine va_get (D := (dC, dI)) (ci := 5) (v := .ref (aO 8)) (C := RX5) (T := TX5) (N := 19) hx hb hts iwsMX5_tryAnswer_in5 hown hK hP 0 rfl rfl 15 (by decide) (hts _ hm_m_X5_tryAnswer_2) (fun _ h9 => h9) rfl dX5_tryAnswer_167 ?_
                    refine lv_iload_n hx hb dX5_tryAnswer_170 rfl (lv_at hl 0 rfl) ?_
                    refine va_aldq (cA := kO 8) (n := 8) (f := fun q => some (hw (418 + q))) hx hb hK hP 9 8 rfl rfl (vp_in_iff.mpr ⟨b_l2_x143.1, (Int.lt_of_lt_of_le (Int.not_le.mp t_151) (Int.le_trans b_iM_variables.2 (by decide)))⟩) dX5_tryAnswer_171 ?_
                    obtain ⟨k500, hk500, b_k500⟩ : ∃ k9 : Nat, k9 = 418 + (l2_x143).toNatClampNeg ∧ (418 ≤ k9 ∧ k9 < 426 ∧ (k9 : Int) = 418 + l2_x143.toInt) := ⟨_, rfl, ald_k (x := (l2_x143)) (o := 418) (n := 8) rfl (by omega) (by omega)⟩
                    refine W.eq (g2 := F0 m 172 ls [.ref (hw k500), .ref (hO 0)]) (by rw [hk500]; rfl) ?_
                    clear hk500
                    refine lv_aload_n hx hb dX5_tryAnswer_172 rfl (lv_at hl 2 rfl) ?_
                    refine va_get (D := (dC, dI)) (ci := 5) (v := .ref (aO 6)) (C := RX5) (T := TX5) (N := 19) hx hb hts iwsMX5_tryAnswer_in5 hown hK hP 0 rfl rfl 12 (by decide) (hts (.fieldLink RX5 48 "OptimaWorks$Solver" "answer" "[LOptimaWorks$Whole;") (by decide +kernel)) (fun _ h9 => h9) rfl dX5_tryAnswer_173 ?_
                    refine lv_iload_n hx hb dX5_tryAnswer_176 rfl (lv_at hl 0 rfl) ?_
                    refine va_aldq (cA := kO 6) (n := 8) (f := fun q => some (hw (406 + q))) hx hb hK hP 7 6 rfl rfl (vp_in_iff.mpr ⟨b_l2_x143.1, (Int.lt_of_lt_of_le (Int.not_le.mp t_151) (Int.le_trans b_iM_variables.2 (by decide)))⟩) dX5_tryAnswer_177 ?_
                    obtain ⟨k501, hk501, b_k501⟩ : ∃ k9 : Nat, k9 = 406 + (l2_x143).toNatClampNeg ∧ (406 ≤ k9 ∧ k9 < 414 ∧ (k9 : Int) = 406 + l2_x143.toInt) := ⟨_, rfl, ald_k (x := (l2_x143)) (o := 406) (n := 8) rfl (by omega) (by omega)⟩
                    refine W.eq (g2 := F0 m 178 ls [.ref (hw k501), .ref (hw k500), .ref (hO 0)]) (by rw [hk501]; rfl) ?_
                    clear hk501
                    have hFc := allFree hD hS hA
                    refine va_calli (va_runV (As := [.ref (hw k500), .ref (hw k501)]) (rest := []) ⟨hx, hb, hml, hown, hts⟩ (m_X5_compare l dC dI hO aO kO hM hQ hw iO_answered iO_searched iO_searchedRelaxed iO_counted fO_countedCase gO_goalNumber gO_goalScale fO_start fO_column fO_chosen aM kM iM_stands iM_variables iM_rows iM_goals iM_differents iM_cases fM_from fM_to fM_whole fM_ways iM_plainRows fM_plainRow fM_kept fM_goalOver fM_goalUnder fM_goalMax fM_different aQ kQ fQ_inside_x75 fQ_outside_x75 fQ_shut_x75 iQ_rows iQ_allRows iQ_columns nW lw kw wl_x143 wb_x143 wG_x143 k500 k501 (b_iO_answered) (b_iO_searched) (b_iO_searchedRelaxed) (b_iO_counted) b_fO_countedCase b_fO_column b_fO_chosen (b_iM_stands) (b_iM_variables) (b_iM_rows) (b_iM_goals) (b_iM_differents) (b_iM_cases) b_fM_ways (b_iM_plainRows) b_fM_plainRow (by first | with_reducible assumption | omega | assumption) (b_iQ_rows) (b_iQ_allRows) (b_iQ_columns) (by first | with_reducible assumption | omega | assumption) b_wl_x143 b_wb_x143 (by omega) (by first | with_reducible assumption | omega | (rw [iI_t (by omega) (by omega)]; omega) | decide | assumption) (by first | with_reducible assumption | omega | (rw [iI_t (by omega) (by omega)]; omega) | decide | assumption) H.size) (cwV 2 hts gwsMX5_tryAnswer_3 rfl rfl rfl hd_yX5_compare_RX5 (by decide +kernel)) (fz_pre (va_recv hK hP (ci := 5) (q0 := 0) rfl rfl) hP hK hD) rfl rfl hl.1 rfl (lv_room (Nat.le_of_ble_eq_true rfl)) dX5_tryAnswer_178 (by decide +kernel)) hS (fun q _ h => hFc q h) hFc (fun r502 u t9_ H locs ht hvm hw9 hB9 hz1 hk1 hS => ?_)
                    revert u hw9 hB9
                    refine fz_p3 ?_
                    intro wl_502 wb_502 wG_502 hw9 hB9
                    try dsimp only at hw9 hB9
                    revert hw9
                    refine fz_a3 ?_
                    intro b_wl_502 b_wb_502 b_r502
                    have hP : va_P (dC, dI) vwCl (WO hO aO kO hM hQ hw iO_answered iO_searched iO_searchedRelaxed iO_counted fO_countedCase gO_goalNumber gO_goalScale fO_start fO_column fO_chosen ++ (WM hM aM kM iM_stands iM_variables iM_rows iM_goals iM_differents iM_cases fM_from fM_to fM_whole fM_ways iM_plainRows fM_plainRow fM_kept fM_goalOver fM_goalUnder fM_goalMax fM_different ++ (WQ hQ aQ kQ hw fQ_inside_x75 fQ_outside_x75 fQ_shut_x75 iQ_rows iQ_allRows iQ_columns ++ (WW nW hw lw kw wl_502 wb_502 wG_502)))) H := fz_P ht hB9.1
                    have hD := fz_sd hP (hB9.2.weaken (fun _ q _ h => hFc q.1 h)) rfl
                    refine lv_istore_n hx hb dX5_tryAnswer_181 rfl hl (by decide) rfl (fun ls (hl : lv_has ls _ ([(1, .int r502), (2, .int l2_x143), (0, .ref (hO 0))])) => ?_)
                    refine lv_iinc (v := (iI (l2_x143.toInt + 1))) hx hb dX5_tryAnswer_182 hl (k := 1) rfl (iI_add2 (iI_of _) (by decide : (1 : Int32) = iI 1)) (by decide) rfl (fun ls (hl : lv_has ls _ ([(2, .int (iI (l2_x143.toInt + 1))), (1, .int r502), (0, .ref (hO 0))])) => ?_)
                    refine lv_goto (tgt := 143) hx hb dX5_tryAnswer_185 (by decide) ?_
                    have hl : lv_has _ _ ([(2, .int (iI (l2_x143.toInt + 1))), (1, .int r502), (0, .ref (hO 0))]) := lv_sub hl [0, 1, 2] rfl
                    exact ihx143 wl_502 wb_502 wG_502 (iI (l2_x143.toInt + 1)) r502 _ _ _ b_wl_502 b_wb_502 (iI_rng (Int.le_trans (by decide) (Int.add_le_add (b_l2_x143.1) (Int.le_refl _))) (by omega) (by decide) (by decide)) (by first | exact b_r502 | with_reducible assumption | exact ⟨by omega, by omega⟩ | assumption) (by have e9 : ((iI (l2_x143.toInt + 1))).toInt = (l2_x143.toInt + 1) := (iI_t (Int.le_trans (by decide) (Int.add_le_add (b_l2_x143.1) (Int.le_refl _))) (Int.le_trans (Int.add_le_add (b_l2_x143.2) (Int.le_refl _)) (by decide))); omega) hP hD hS hl
            · rintro H locs ls stk ⟨rfl, hP, hD, hS, hl⟩
              refine lv_aload_n hx hb dX5_tryAnswer_188 rfl (lv_at hl 2 rfl) ?_
              refine va_get (D := (dC, dI)) (ci := 5) (v := .int iO_answered) (C := RX5) (T := TX5) (N := 19) hx hb hts iwsMX5_tryAnswer_in5 hown hK hP 0 rfl rfl 2 (by decide) (hts _ hm_m_X5_tryAnswer_3) (fun _ h9 => h9) rfl dX5_tryAnswer_189 ?_
              refine W.cut (pc := 203) (fun H locs ls stk => ∃ (iO_answered_j143 : Int32) (wl_j143 : Nat → Int32) (wb_j143 : Nat → Int32) (wG_j143 : Nat → Nat → Int64), (0 ≤ iO_answered_j143.toInt ∧ iO_answered_j143.toInt ≤ 1) ∧ (∀ q : Nat, 0 ≤ (wl_j143 q).toInt ∧ (wl_j143 q).toInt ≤ 14) ∧ (∀ q : Nat, 0 ≤ (wb_j143 q).toInt ∧ (wb_j143 q).toInt ≤ 1) ∧  stk = [] ∧ va_P (dC, dI) vwCl (WO hO aO kO hM hQ hw iO_answered_j143 iO_searched iO_searchedRelaxed iO_counted fO_countedCase gO_goalNumber gO_goalScale fO_start fO_column fO_chosen ++ (WM hM aM kM iM_stands iM_variables iM_rows iM_goals iM_differents iM_cases fM_from fM_to fM_whole fM_ways iM_plainRows fM_plainRow fM_kept fM_goalOver fM_goalUnder fM_goalMax fM_different ++ (WQ hQ aQ kQ hw fQ_inside_x75 fQ_outside_x75 fQ_shut_x75 iQ_rows iQ_allRows iQ_columns ++ (WW nW hw lw kw wl_j143 wb_j143 wG_j143)))) H ∧ va_D A (WO hO aO kO hM hQ hw iO_answered_j143 iO_searched iO_searchedRelaxed iO_counted fO_countedCase gO_goalNumber gO_goalScale fO_start fO_column fO_chosen ++ (WM hM aM kM iM_stands iM_variables iM_rows iM_goals iM_differents iM_cases fM_from fM_to fM_whole fM_ways iM_plainRows fM_plainRow fM_kept fM_goalOver fM_goalUnder fM_goalMax fM_different ++ (WQ hQ aQ kQ hw fQ_inside_x75 fQ_outside_x75 fQ_shut_x75 iQ_rows iQ_allRows iQ_columns ++ (WW nW hw lw kw wl_j143 wb_j143 wG_j143)))) ∧ va_S A s.heap H locs ∧ lv_has ls 3 [(2, .int l2_x143), (1, .int l1_x143), (0, .ref (hO 0))]) (fun join143 => ?_) ?_
              · refine lv_if_eq (tgt := 199) hx hb dX5_tryAnswer_192 (by decide) (fun c_192 => ?_) (fun c_192 => ?_)
                · have t_192 : iO_answered.toInt = 0 := toI_eq c_192 rfl (by decide : (0 : Int32).toInt = 0)
                  refine lv_aload_n hx hb dX5_tryAnswer_199 rfl (lv_at hl 2 rfl) ?_
                  have hFc := allFree hD hS hA
                  refine va_callv (va_runV (As := []) (rest := []) ⟨hx, hb, hml, hown, hts⟩ (m_X5_keepAnswer l dC dI hO aO kO hM hQ hw iO_answered iO_searched iO_searchedRelaxed iO_counted fO_countedCase gO_goalNumber gO_goalScale fO_start fO_column fO_chosen aM kM iM_stands iM_variables iM_rows iM_goals iM_differents iM_cases fM_from fM_to fM_whole fM_ways iM_plainRows fM_plainRow fM_kept fM_goalOver fM_goalUnder fM_goalMax fM_different aQ kQ fQ_inside_x75 fQ_outside_x75 fQ_shut_x75 iQ_rows iQ_allRows iQ_columns nW lw kw wl_x143 wb_x143 wG_x143 (b_iO_answered) (b_iO_searched) (b_iO_searchedRelaxed) (b_iO_counted) b_fO_countedCase b_fO_column b_fO_chosen (b_iM_stands) (b_iM_variables) (b_iM_rows) (b_iM_goals) (b_iM_differents) (b_iM_cases) b_fM_ways (b_iM_plainRows) b_fM_plainRow (by first | with_reducible assumption | omega | assumption) (b_iQ_rows) (b_iQ_allRows) (b_iQ_columns) (by first | with_reducible assumption | omega | assumption) b_wl_x143 b_wb_x143 (by omega) (by first | with_reducible assumption | omega | (rw [iI_t (by omega) (by omega)]; omega) | decide | assumption) (by first | with_reducible assumption | omega | (rw [iI_t (by omega) (by omega)]; omega) | decide | assumption) H.size) (cwV 0 hts gwsMX5_tryAnswer_4 rfl rfl rfl hd_yX5_keepAnswer_RX5 (by decide +kernel)) (fz_pre (va_recv hK hP (ci := 5) (q0 := 0) rfl rfl) hP hK hD) rfl rfl hl.1 rfl (lv_room (Nat.le_of_ble_eq_true rfl)) dX5_tryAnswer_200 (by decide +kernel)) hS (fun q _ h => hFc q h) hFc (fun u t9_ H locs ht hvm hw9 hB9 hz1 hk1 hS => ?_)
                  revert u hw9 hB9
                  refine fz_p4 ?_
                  intro iO_answered_505 wl_505 wb_505 wG_505 hw9 hB9
                  try dsimp only at hw9 hB9
                  revert hw9
                  refine fz_a3 ?_
                  intro b_iO_answered_505 b_wl_505 b_wb_505
                  have hP : va_P (dC, dI) vwCl (WO hO aO kO hM hQ hw iO_answered_505 iO_searched iO_searchedRelaxed iO_counted fO_countedCase gO_goalNumber gO_goalScale fO_start fO_column fO_chosen ++ (WM hM aM kM iM_stands iM_variables iM_rows iM_goals iM_differents iM_cases fM_from fM_to fM_whole fM_ways iM_plainRows fM_plainRow fM_kept fM_goalOver fM_goalUnder fM_goalMax fM_different ++ (WQ hQ aQ kQ hw fQ_inside_x75 fQ_outside_x75 fQ_shut_x75 iQ_rows iQ_allRows iQ_columns ++ (WW nW hw lw kw wl_505 wb_505 wG_505)))) H := fz_P ht hB9.1
                  have hD := fz_sd hP (hB9.2.weaken (fun _ q _ h => hFc q.1 h)) rfl
                  have hl : lv_has _ _ ([(2, .int l2_x143), (1, .int l1_x143), (0, .ref (hO 0))]) := lv_sub hl [0, 1, 2] rfl
                  exact join143 _ _ _ _ ⟨iO_answered_505, wl_505, wb_505, wG_505, (b_iO_answered_505), b_wl_505, b_wb_505, rfl, hP, hD, hS, hl⟩
                · have t_192 : ¬ iO_answered.toInt = 0 := toI_neq c_192 rfl (by decide : (0 : Int32).toInt = 0)
                  refine lv_iload_n hx hb dX5_tryAnswer_195 rfl (lv_at hl 1 rfl) ?_
                  refine lv_if_ge (tgt := 203) hx hb dX5_tryAnswer_196 (by decide) (fun c_196 => ?_) (fun c_196 => ?_)
                  · have t_196 : l1_x143.toInt ≥ 0 := toI_ge c_196 rfl (by decide : (0 : Int32).toInt = 0)
                    have hl : lv_has _ _ ([(2, .int l2_x143), (1, .int l1_x143), (0, .ref (hO 0))]) := lv_sub hl [0, 1, 2] rfl
                    exact join143 _ _ _ _ ⟨iO_answered, wl_x143, wb_x143, wG_x143, (b_iO_answered), b_wl_x143, b_wb_x143, rfl, hP, hD, hS, hl⟩
                  · have t_196 : ¬ l1_x143.toInt ≥ 0 := toI_nge c_196 rfl (by decide : (0 : Int32).toInt = 0)
                    refine lv_aload_n hx hb dX5_tryAnswer_199 rfl (lv_at hl 2 rfl) ?_
                    have hFc := allFree hD hS hA
                    refine va_callv (va_runV (As := []) (rest := []) ⟨hx, hb, hml, hown, hts⟩ (m_X5_keepAnswer l dC dI hO aO kO hM hQ hw iO_answered iO_searched iO_searchedRelaxed iO_counted fO_countedCase gO_goalNumber gO_goalScale fO_start fO_column fO_chosen aM kM iM_stands iM_variables iM_rows iM_goals iM_differents iM_cases fM_from fM_to fM_whole fM_ways iM_plainRows fM_plainRow fM_kept fM_goalOver fM_goalUnder fM_goalMax fM_different aQ kQ fQ_inside_x75 fQ_outside_x75 fQ_shut_x75 iQ_rows iQ_allRows iQ_columns nW lw kw wl_x143 wb_x143 wG_x143 (b_iO_answered) (b_iO_searched) (b_iO_searchedRelaxed) (b_iO_counted) b_fO_countedCase b_fO_column b_fO_chosen (b_iM_stands) (b_iM_variables) (b_iM_rows) (b_iM_goals) (b_iM_differents) (b_iM_cases) b_fM_ways (b_iM_plainRows) b_fM_plainRow (by first | with_reducible assumption | omega | assumption) (b_iQ_rows) (b_iQ_allRows) (b_iQ_columns) (by first | with_reducible assumption | omega | assumption) b_wl_x143 b_wb_x143 (by omega) (by first | with_reducible assumption | omega | (rw [iI_t (by omega) (by omega)]; omega) | decide | assumption) (by first | with_reducible assumption | omega | (rw [iI_t (by omega) (by omega)]; omega) | decide | assumption) H.size) (cwV 0 hts gwsMX5_tryAnswer_4 rfl rfl rfl hd_yX5_keepAnswer_RX5 (by decide +kernel)) (fz_pre (va_recv hK hP (ci := 5) (q0 := 0) rfl rfl) hP hK hD) rfl rfl hl.1 rfl (lv_room (Nat.le_of_ble_eq_true rfl)) dX5_tryAnswer_200 (by decide +kernel)) hS (fun q _ h => hFc q h) hFc (fun u t9_ H locs ht hvm hw9 hB9 hz1 hk1 hS => ?_)
                    revert u hw9 hB9
                    refine fz_p4 ?_
                    intro iO_answered_506 wl_506 wb_506 wG_506 hw9 hB9
                    try dsimp only at hw9 hB9
                    revert hw9
                    refine fz_a3 ?_
                    intro b_iO_answered_506 b_wl_506 b_wb_506
                    have hP : va_P (dC, dI) vwCl (WO hO aO kO hM hQ hw iO_answered_506 iO_searched iO_searchedRelaxed iO_counted fO_countedCase gO_goalNumber gO_goalScale fO_start fO_column fO_chosen ++ (WM hM aM kM iM_stands iM_variables iM_rows iM_goals iM_differents iM_cases fM_from fM_to fM_whole fM_ways iM_plainRows fM_plainRow fM_kept fM_goalOver fM_goalUnder fM_goalMax fM_different ++ (WQ hQ aQ kQ hw fQ_inside_x75 fQ_outside_x75 fQ_shut_x75 iQ_rows iQ_allRows iQ_columns ++ (WW nW hw lw kw wl_506 wb_506 wG_506)))) H := fz_P ht hB9.1
                    have hD := fz_sd hP (hB9.2.weaken (fun _ q _ h => hFc q.1 h)) rfl
                    have hl : lv_has _ _ ([(2, .int l2_x143), (1, .int l1_x143), (0, .ref (hO 0))]) := lv_sub hl [0, 1, 2] rfl
                    exact join143 _ _ _ _ ⟨iO_answered_506, wl_506, wb_506, wG_506, (b_iO_answered_506), b_wl_506, b_wb_506, rfl, hP, hD, hS, hl⟩
              · rintro H locs ls stk ⟨iO_answered_j143, wl_j143, wb_j143, wG_j143, b_iO_answered_j143, b_wl_j143, b_wb_j143, rfl, hP, hD, hS, hl⟩
                refine W.widen (k := 0) (n := 0) (by decide +kernel) (by decide +kernel) ?_
                exact W.vret hx hb hr (fun t9_ ht hW => ⟨⟨(iO_answered_j143, fQ_inside_x75, fQ_outside_x75, fQ_shut_x75, wl_j143, wb_j143, wG_j143), rfl, ⟨b_iO_answered_j143, b_wl_j143, b_wb_j143⟩, by rw [ht]; exact hP, hD⟩, hS.F ht⟩) hS.2.2 dX5_tryAnswer_203
        · have t_83 : ¬ l2_x75.toInt ≥ iM_variables.toInt := toI_nge c_83 rfl rfl
          refine lv_aload_n hx hb dX5_tryAnswer_86 rfl (lv_at hl 2 rfl) ?_
          refine va_get (D := (dC, dI)) (ci := 5) (v := .ref (aO 4)) (C := RX5) (T := TX5) (N := 19) hx hb hts iwsMX5_tryAnswer_in5 hown hK hP 0 rfl rfl 10 (by decide) (hts _ hm_m_X5_tryAnswer_4) (fun _ h9 => h9) rfl dX5_tryAnswer_87 ?_
          refine lv_iload_n hx hb dX5_tryAnswer_90 rfl (lv_at hl 0 rfl) ?_
          refine va_iald (cA := kO 4) (n := 8) (f := fO_column) hx hb hK hP 5 4 rfl rfl (vp_in_iff.mpr ⟨b_l2_x75.1, (Int.lt_of_lt_of_le (Int.not_le.mp t_83) (Int.le_trans b_iM_variables.2 (by decide)))⟩) dX5_tryAnswer_91 ?_
          refine lv_topi (fun v507 hv507 => ?_)
          have b_v507 : (-1) ≤ v507.toInt ∧ v507.toInt ≤ 8 := by rw [hv507]; exact b_fO_column _
          clear hv507
          refine lv_iconst (v := (-1)) hx hb dX5_tryAnswer_92 (by decide) ?_
          refine W.cut (pc := 127) (fun H locs ls stk => ∃ (fQ_inside_j144 : Nat → Int32) (fQ_outside_j144 : Nat → Int32) (fQ_shut_j144 : Nat → Int32) (wl_j144 : Nat → Int32) (wb_j144 : Nat → Int32) (wG_j144 : Nat → Nat → Int64), (∀ q : Nat, 0 ≤ (wl_j144 q).toInt ∧ (wl_j144 q).toInt ≤ 14) ∧ (∀ q : Nat, 0 ≤ (wb_j144 q).toInt ∧ (wb_j144 q).toInt ≤ 1) ∧  stk = [] ∧ va_P (dC, dI) vwCl (WO hO aO kO hM hQ hw iO_answered iO_searched iO_searchedRelaxed iO_counted fO_countedCase gO_goalNumber gO_goalScale fO_start fO_column fO_chosen ++ (WM hM aM kM iM_stands iM_variables iM_rows iM_goals iM_differents iM_cases fM_from fM_to fM_whole fM_ways iM_plainRows fM_plainRow fM_kept fM_goalOver fM_goalUnder fM_goalMax fM_different ++ (WQ hQ aQ kQ hw fQ_inside_j144 fQ_outside_j144 fQ_shut_j144 iQ_rows iQ_allRows iQ_columns ++ (WW nW hw lw kw wl_j144 wb_j144 wG_j144)))) H ∧ va_D A (WO hO aO kO hM hQ hw iO_answered iO_searched iO_searchedRelaxed iO_counted fO_countedCase gO_goalNumber gO_goalScale fO_start fO_column fO_chosen ++ (WM hM aM kM iM_stands iM_variables iM_rows iM_goals iM_differents iM_cases fM_from fM_to fM_whole fM_ways iM_plainRows fM_plainRow fM_kept fM_goalOver fM_goalUnder fM_goalMax fM_different ++ (WQ hQ aQ kQ hw fQ_inside_j144 fQ_outside_j144 fQ_shut_j144 iQ_rows iQ_allRows iQ_columns ++ (WW nW hw lw kw wl_j144 wb_j144 wG_j144)))) ∧ va_S A s.heap H locs ∧ lv_has ls 3 [(2, .int l2_x75), (1, .int l1_x4), (0, .ref (hO 0))]) (fun join144 => ?_) ?_
          · refine lv_icmp_eq (tgt := 127) hx hb dX5_tryAnswer_93 (by decide) (fun c_93 => ?_) (fun c_93 => ?_)
            · have t_93 : v507.toInt = (-1) := toI_eq c_93 rfl (by decide : ((-1) : Int32).toInt = (-1))
              have hl : lv_has _ _ ([(2, .int l2_x75), (1, .int l1_x4), (0, .ref (hO 0))]) := lv_sub hl [0, 1, 2] rfl
              exact join144 _ _ _ _ ⟨fQ_inside_x75, fQ_outside_x75, fQ_shut_x75, wl_x75, wb_x75, wG_x75, b_wl_x75, b_wb_x75, rfl, hP, hD, hS, hl⟩
            · have t_93 : ¬ v507.toInt = (-1) := toI_neq c_93 rfl (by decide : ((-1) : Int32).toInt = (-1))
              refine lv_aload_n hx hb dX5_tryAnswer_96 rfl (lv_at hl 2 rfl) ?_
              refine va_get (D := (dC, dI)) (ci := 5) (v := .ref (hQ 0)) (C := RX5) (T := TX5) (N := 19) hx hb hts iwsMX5_tryAnswer_in5 hown hK hP 0 rfl rfl 1 (by decide) (hts _ hm_m_X5_tryAnswer_5) (fun _ h9 => h9) rfl dX5_tryAnswer_97 ?_
              refine lv_aload_n hx hb dX5_tryAnswer_100 rfl (lv_at hl 2 rfl) ?_
              refine va_get (D := (dC, dI)) (ci := 5) (v := .ref (aO 4)) (C := RX5) (T := TX5) (N := 19) hx hb hts iwsMX5_tryAnswer_in5 hown hK hP 0 rfl rfl 10 (by decide) (hts _ hm_m_X5_tryAnswer_4) (fun _ h9 => h9) rfl dX5_tryAnswer_101 ?_
              refine lv_iload_n hx hb dX5_tryAnswer_104 rfl (lv_at hl 0 rfl) ?_
              refine va_iald (cA := kO 4) (n := 8) (f := fO_column) hx hb hK hP 5 4 rfl rfl (vp_in_iff.mpr ⟨b_l2_x75.1, (by omega)⟩) dX5_tryAnswer_105 ?_
              refine lv_topi (fun v514 hv514 => ?_)
              have b_v514 : (-1) ≤ v514.toInt ∧ v514.toInt ≤ 8 := by rw [hv514]; exact b_fO_column _
              clear hv514
              refine lv_iconst (v := 1) hx hb dX5_tryAnswer_106 (by decide) ?_
              refine lv_isub hx hb dX5_tryAnswer_107 ?_
              refine lv_topi (fun y515 hy515 => ?_)
              obtain rfl : (iI (v514.toInt - 1)) = y515 := (hy515.trans (iI_sub2 (iI_of _) (by decide : (1 : Int32) = iI 1))).symm
              have p9 := cj_4_2_3 (WO hO aO kO hM hQ hw iO_answered iO_searched iO_searchedRelaxed iO_counted fO_countedCase gO_goalNumber gO_goalScale fO_start fO_column fO_chosen) (WM hM aM kM iM_stands iM_variables iM_rows iM_goals iM_differents iM_cases fM_from fM_to fM_whole fM_ways iM_plainRows fM_plainRow fM_kept fM_goalOver fM_goalUnder fM_goalMax fM_different) (WQ hQ aQ kQ hw fQ_inside_x75 fQ_outside_x75 fQ_shut_x75 iQ_rows iQ_allRows iQ_columns) (WW nW hw lw kw wl_x75 wb_x75 wG_x75)
              have hPc := hP.mem (fun q h => p9.mem_iff.mpr (List.mem_append_left _ h))
              have hDc := (hD.perm p9).left
              have hKc : va_K (dC, dI) vwCl (tQ kQ ++ (tW kw)) _ := hK.sub [20, 21, 22, 23, 24] rfl
              have hFc := freeG p9 hD hS hA
              refine va_calli (va_runV (As := [.int (iI (v514.toInt - 1))]) (rest := []) ⟨hx, hb, hml, hown, hts⟩ (m_X6_sink l dC dI hQ aQ kQ hw fQ_inside_x75 fQ_outside_x75 fQ_shut_x75 iQ_rows iQ_allRows iQ_columns nW lw kw wl_x75 wb_x75 wG_x75 (iI (v514.toInt - 1)) (b_iQ_rows) (b_iQ_allRows) (b_iQ_columns) (by first | with_reducible assumption | omega | assumption) b_wl_x75 b_wb_x75 (by omega) H.size) (cwV 1 hts gwsMX5_tryAnswer_0 rfl rfl rfl hd_yX6_sink_RX6 (by decide +kernel)) (fz_pre (va_recv hK hP (ci := 6) (q0 := 22) rfl rfl) hPc hKc hDc) rfl rfl hl.1 rfl (lv_room (Nat.le_of_ble_eq_true rfl)) dX5_tryAnswer_108 (by decide +kernel)) hS (fun q _ h => hFc q h) hFc (fun r516 u t9_ H locs ht hvm hw9 hB9 hz1 hk1 hS => ?_)
              revert u hw9 hB9
              refine fz_p5 ?_
              intro fQ_inside_516 fQ_outside_516 wl_516 wb_516 wG_516 hw9 hB9
              try dsimp only at hw9 hB9
              revert hw9
              refine fz_a3 ?_
              intro b_wl_516 b_wb_516 b_r516
              have p8 := cj_4_2_3 (WO hO aO kO hM hQ hw iO_answered iO_searched iO_searchedRelaxed iO_counted fO_countedCase gO_goalNumber gO_goalScale fO_start fO_column fO_chosen) (WM hM aM kM iM_stands iM_variables iM_rows iM_goals iM_differents iM_cases fM_from fM_to fM_whole fM_ways iM_plainRows fM_plainRow fM_kept fM_goalOver fM_goalUnder fM_goalMax fM_different) (WQ hQ aQ kQ hw fQ_inside_516 fQ_outside_516 fQ_shut_x75 iQ_rows iQ_allRows iQ_columns) (WW nW hw lw kw wl_516 wb_516 wG_516)
              obtain ⟨hP, hD⟩ := frameG p9 p8 hP hD hk1 hFc (fz_P ht hB9.1) hB9.2
              refine lv_pop hx hb dX5_tryAnswer_111 rfl ?_
              refine lv_aload_n hx hb dX5_tryAnswer_112 rfl (lv_at hl 2 rfl) ?_
              refine va_get (D := (dC, dI)) (ci := 5) (v := .ref (hQ 0)) (C := RX5) (T := TX5) (N := 19) hx hb hts iwsMX5_tryAnswer_in5 hown hK hP 0 rfl rfl 1 (by decide) (hts _ hm_m_X5_tryAnswer_5) (fun _ h9 => h9) rfl dX5_tryAnswer_113 ?_
              refine lv_aload_n hx hb dX5_tryAnswer_116 rfl (lv_at hl 2 rfl) ?_
              refine va_get (D := (dC, dI)) (ci := 5) (v := .ref (aO 4)) (C := RX5) (T := TX5) (N := 19) hx hb hts iwsMX5_tryAnswer_in5 hown hK hP 0 rfl rfl 10 (by decide) (hts _ hm_m_X5_tryAnswer_4) (fun _ h9 => h9) rfl dX5_tryAnswer_117 ?_
              refine lv_iload_n hx hb dX5_tryAnswer_120 rfl (lv_at hl 0 rfl) ?_
              refine va_iald (cA := kO 4) (n := 8) (f := fO_column) hx hb hK hP 5 4 rfl rfl (vp_in_iff.mpr ⟨b_l2_x75.1, (by omega)⟩) dX5_tryAnswer_121 ?_
              refine lv_topi (fun v517 hv517 => ?_)
              have b_v517 : (-1) ≤ v517.toInt ∧ v517.toInt ≤ 8 := by rw [hv517]; exact b_fO_column _
              clear hv517
              refine lv_iconst (v := 1) hx hb dX5_tryAnswer_122 (by decide) ?_
              refine lv_isub hx hb dX5_tryAnswer_123 ?_
              refine lv_topi (fun y518 hy518 => ?_)
              obtain rfl : (iI (v517.toInt - 1)) = y518 := (hy518.trans (iI_sub2 (iI_of _) (by decide : (1 : Int32) = iI 1))).symm
              have p9 := cj_4_2_3 (WO hO aO kO hM hQ hw iO_answered iO_searched iO_searchedRelaxed iO_counted fO_countedCase gO_goalNumber gO_goalScale fO_start fO_column fO_chosen) (WM hM aM kM iM_stands iM_variables iM_rows iM_goals iM_differents iM_cases fM_from fM_to fM_whole fM_ways iM_plainRows fM_plainRow fM_kept fM_goalOver fM_goalUnder fM_goalMax fM_different) (WQ hQ aQ kQ hw fQ_inside_516 fQ_outside_516 fQ_shut_x75 iQ_rows iQ_allRows iQ_columns) (WW nW hw lw kw wl_516 wb_516 wG_516)
              have hPc := hP.mem (fun q h => p9.mem_iff.mpr (List.mem_append_left _ h))
              have hDc := (hD.perm p9).left
              have hKc : va_K (dC, dI) vwCl (tQ kQ ++ (tW kw)) _ := hK.sub [20, 21, 22, 23, 24] rfl
              have hFc := freeG p9 hD hS hA
              refine va_callv (va_runV (As := [.int (iI (v517.toInt - 1))]) (rest := []) ⟨hx, hb, hml, hown, hts⟩ (m_X6_keepSunk l dC dI hQ aQ kQ hw fQ_inside_516 fQ_outside_516 fQ_shut_x75 iQ_rows iQ_allRows iQ_columns nW lw kw wl_516 wb_516 wG_516 (iI (v517.toInt - 1)) (b_iQ_rows) (b_iQ_allRows) (b_iQ_columns) (by first | with_reducible assumption | omega | assumption) b_wl_516 b_wb_516 (by omega) H.size) (cwV 1 hts gwsMX5_tryAnswer_1 rfl rfl rfl hd_yX6_keepSunk_RX6 (by decide +kernel)) (fz_pre (va_recv hK hP (ci := 6) (q0 := 22) rfl rfl) hPc hKc hDc) rfl rfl hl.1 rfl (lv_room (Nat.le_of_ble_eq_true rfl)) dX5_tryAnswer_124 (by decide +kernel)) hS (fun q _ h => hFc q h) hFc (fun fQ_shut_519 t9_ H locs ht hvm hw9 hB9 hz1 hk1 hS => ?_)
              clear hw9
              have p8 := cj_4_2_3 (WO hO aO kO hM hQ hw iO_answered iO_searched iO_searchedRelaxed iO_counted fO_countedCase gO_goalNumber gO_goalScale fO_start fO_column fO_chosen) (WM hM aM kM iM_stands iM_variables iM_rows iM_goals iM_differents iM_cases fM_from fM_to fM_whole fM_ways iM_plainRows fM_plainRow fM_kept fM_goalOver fM_goalUnder fM_goalMax fM_different) (WQ hQ aQ kQ hw fQ_inside_516 fQ_outside_516 fQ_shut_519 iQ_rows iQ_allRows iQ_columns) (WW nW hw lw kw wl_516 wb_516 wG_516)
              obtain ⟨hP, hD⟩ := frameG p9 p8 hP hD hk1 hFc (fz_P ht hB9.1) hB9.2
              have hl : lv_has _ _ ([(2, .int l2_x75), (1, .int l1_x4), (0, .ref (hO 0))]) := lv_sub hl [0, 1, 2] rfl
              exact join144 _ _ _ _ ⟨fQ_inside_516, fQ_outside_516, fQ_shut_519, wl_516, wb_516, wG_516, b_wl_516, b_wb_516, rfl, hP, hD, hS, hl⟩
          · rintro H locs ls stk ⟨fQ_inside_j144, fQ_outside_j144, fQ_shut_j144, wl_j144, wb_j144, wG_j144, b_wl_j144, b_wb_j144, rfl, hP, hD, hS, hl⟩
            refine lv_iinc (v := (iI (l2_x75.toInt + 1))) hx hb dX5_tryAnswer_127 hl (k := 0) rfl (iI_add2 (iI_of _) (by decide : (1 : Int32) = iI 1)) (by decide) rfl (fun ls (hl : lv_has ls _ ([(2, .int (iI (l2_x75.toInt + 1))), (1, .int l1_x4), (0, .ref (hO 0))])) => ?_)
            refine lv_goto (tgt := 75) hx hb dX5_tryAnswer_130 (by decide) ?_
            have hl : lv_has _ _ ([(2, .int (iI (l2_x75.toInt + 1))), (1, .int l1_x4), (0, .ref (hO 0))]) := lv_sub hl [0, 1, 2] rfl
            exact ihx75 fQ_inside_j144 fQ_outside_j144 fQ_shut_j144 wl_j144 wb_j144 wG_j144 (iI (l2_x75.toInt + 1)) _ _ _ b_wl_j144 b_wb_j144 (iI_rng (Int.le_trans (by decide) (Int.add_le_add (b_l2_x75.1) (Int.le_refl _))) (by omega) (by decide) (by decide)) (by have e9 : ((iI (l2_x75.toInt + 1))).toInt = (l2_x75.toInt + 1) := (iI_t (Int.le_trans (by decide) (Int.add_le_add (b_l2_x75.1) (Int.le_refl _))) (Int.le_trans (Int.add_le_add (b_l2_x75.2) (Int.le_refl _)) (by decide))); omega) hP hD hS hl
    · have t_12 : ¬ l2_x4.toInt ≥ iM_goals.toInt := toI_nge c_12 rfl rfl
      refine lv_aload_n hx hb dX5_tryAnswer_15 rfl (lv_at hl 2 rfl) ?_
      refine va_get (D := (dC, dI)) (ci := 5) (v := .ref (hQ 0)) (C := RX5) (T := TX5) (N := 19) hx hb hts iwsMX5_tryAnswer_in5 hown hK hP 0 rfl rfl 1 (by decide) (hts _ hm_m_X5_tryAnswer_5) (fun _ h9 => h9) rfl dX5_tryAnswer_16 ?_
      refine lv_aload_n hx hb dX5_tryAnswer_19 rfl (lv_at hl 2 rfl) ?_
      refine lv_iload_n hx hb dX5_tryAnswer_20 rfl (lv_at hl 0 rfl) ?_
      have hFc := allFree hD hS hA
      refine va_calli (va_runV (As := [.int l2_x4]) (rest := [.ref (hQ 0)]) ⟨hx, hb, hml, hown, hts⟩ (m_X5_goalRow l dC dI hO aO kO hM hQ hw iO_answered iO_searched iO_searchedRelaxed iO_counted fO_countedCase gO_goalNumber gO_goalScale fO_start fO_column fO_chosen aM kM iM_stands iM_variables iM_rows iM_goals iM_differents iM_cases fM_from fM_to fM_whole fM_ways iM_plainRows fM_plainRow fM_kept fM_goalOver fM_goalUnder fM_goalMax fM_different aQ kQ fQ_inside_x4 fQ_outside_x4 fQ_shut_x4 iQ_rows iQ_allRows iQ_columns nW lw kw wl_x4 wb_x4 wG_x4 l2_x4 (b_iO_answered) (b_iO_searched) (b_iO_searchedRelaxed) (b_iO_counted) b_fO_countedCase b_fO_column b_fO_chosen (b_iM_stands) (b_iM_variables) (b_iM_rows) (b_iM_goals) (b_iM_differents) (b_iM_cases) b_fM_ways (b_iM_plainRows) b_fM_plainRow (by first | with_reducible assumption | omega | assumption) (b_iQ_rows) (b_iQ_allRows) (b_iQ_columns) (by first | with_reducible assumption | omega | assumption) b_wl_x4 b_wb_x4 (by first | exact b_l2_x4 | with_reducible assumption | exact ⟨by omega, by omega⟩ | assumption) (by omega) (by first | with_reducible assumption | omega | (rw [iI_t (by omega) (by omega)]; omega) | decide | assumption) H.size) (cwV 1 hts gwsMX5_tryAnswer_5 rfl rfl rfl hd_yX5_goalRow_RX5 (by decide +kernel)) (fz_pre (va_recv hK hP (ci := 5) (q0 := 0) rfl rfl) hP hK hD) rfl rfl hl.1 rfl (lv_room (Nat.le_of_ble_eq_true rfl)) dX5_tryAnswer_21 (by decide +kernel)) hS (fun q _ h => hFc q h) hFc (fun r520 u t9_ H locs ht hvm hw9 hB9 hz1 hk1 hS => ?_)
      have b_r520 := hw9
      try dsimp only at b_r520
      have hP : va_P (dC, dI) vwCl (WO hO aO kO hM hQ hw iO_answered iO_searched iO_searchedRelaxed iO_counted fO_countedCase gO_goalNumber gO_goalScale fO_start fO_column fO_chosen ++ (WM hM aM kM iM_stands iM_variables iM_rows iM_goals iM_differents iM_cases fM_from fM_to fM_whole fM_ways iM_plainRows fM_plainRow fM_kept fM_goalOver fM_goalUnder fM_goalMax fM_different ++ (WQ hQ aQ kQ hw fQ_inside_x4 fQ_outside_x4 fQ_shut_x4 iQ_rows iQ_allRows iQ_columns ++ (WW nW hw lw kw wl_x4 wb_x4 wG_x4)))) H := fz_P ht hB9.1
      have hD := fz_sd hP (hB9.2.weaken (fun _ q _ h => hFc q.1 h)) rfl
      have p9 := cj_4_2_3 (WO hO aO kO hM hQ hw iO_answered iO_searched iO_searchedRelaxed iO_counted fO_countedCase gO_goalNumber gO_goalScale fO_start fO_column fO_chosen) (WM hM aM kM iM_stands iM_variables iM_rows iM_goals iM_differents iM_cases fM_from fM_to fM_whole fM_ways iM_plainRows fM_plainRow fM_kept fM_goalOver fM_goalUnder fM_goalMax fM_different) (WQ hQ aQ kQ hw fQ_inside_x4 fQ_outside_x4 fQ_shut_x4 iQ_rows iQ_allRows iQ_columns) (WW nW hw lw kw wl_x4 wb_x4 wG_x4)
      have hPc := hP.mem (fun q h => p9.mem_iff.mpr (List.mem_append_left _ h))
      have hDc := (hD.perm p9).left
      have hKc : va_K (dC, dI) vwCl (tQ kQ ++ (tW kw)) _ := hK.sub [20, 21, 22, 23, 24] rfl
      have hFc := freeG p9 hD hS hA
      refine va_callv (va_runV (As := [.int r520]) (rest := []) ⟨hx, hb, hml, hown, hts⟩ (m_X6_makeLeast l dC dI hQ aQ kQ hw fQ_inside_x4 fQ_outside_x4 fQ_shut_x4 iQ_rows iQ_allRows iQ_columns nW lw kw wl_x4 wb_x4 wG_x4 r520 (b_iQ_rows) (b_iQ_allRows) (b_iQ_columns) (by first | with_reducible assumption | omega | assumption) b_wl_x4 b_wb_x4 (by first | exact b_r520 | with_reducible assumption | exact ⟨by omega, by omega⟩ | assumption) (by omega) (FitR.small (I := 39) (C := 8) (by omega) (by omega) (by omega) (by omega) (by decide)) H.size) (cwV 1 hts gwsMX5_tryAnswer_6 rfl rfl rfl hd_yX6_makeLeast_RX6 (by decide +kernel)) (fz_pre (va_recv hK hP (ci := 6) (q0 := 22) rfl rfl) hPc hKc hDc) rfl rfl hl.1 rfl (lv_room (Nat.le_of_ble_eq_true rfl)) dX5_tryAnswer_24 (by decide +kernel)) hS (fun q _ h => hFc q h) hFc (fun u t9_ H locs ht hvm hw9 hB9 hz1 hk1 hS => ?_)
      revert u hw9 hB9
      refine fz_p6 ?_
      intro fQ_inside_521 fQ_outside_521 fQ_shut_521 wl_521 wb_521 wG_521 hw9 hB9
      try dsimp only at hw9 hB9
      revert hw9
      refine fz_a2 ?_
      intro b_wl_521 b_wb_521
      have p8 := cj_4_2_3 (WO hO aO kO hM hQ hw iO_answered iO_searched iO_searchedRelaxed iO_counted fO_countedCase gO_goalNumber gO_goalScale fO_start fO_column fO_chosen) (WM hM aM kM iM_stands iM_variables iM_rows iM_goals iM_differents iM_cases fM_from fM_to fM_whole fM_ways iM_plainRows fM_plainRow fM_kept fM_goalOver fM_goalUnder fM_goalMax fM_different) (WQ hQ aQ kQ hw fQ_inside_521 fQ_outside_521 fQ_shut_521 iQ_rows iQ_allRows iQ_columns) (WW nW hw lw kw wl_521 wb_521 wG_521)
      obtain ⟨hP, hD⟩ := frameG p9 p8 hP hD hk1 hFc (fz_P ht hB9.1) hB9.2
      refine lv_aload_n hx hb dX5_tryAnswer_27 rfl (lv_at hl 2 rfl) ?_
      refine va_get (D := (dC, dI)) (ci := 5) (v := .int iO_answered) (C := RX5) (T := TX5) (N := 19) hx hb hts iwsMX5_tryAnswer_in5 hown hK hP 0 rfl rfl 2 (by decide) (hts _ hm_m_X5_tryAnswer_3) (fun _ h9 => h9) rfl dX5_tryAnswer_28 ?_
      refine lv_if_eq (tgt := 67) hx hb dX5_tryAnswer_31 (by decide) (fun c_31 => ?_) (fun c_31 => ?_)
      · have t_31 : iO_answered.toInt = 0 := toI_eq c_31 rfl (by decide : (0 : Int32).toInt = 0)
        refine lv_iinc (v := (iI (l2_x4.toInt + 1))) hx hb dX5_tryAnswer_67 hl (k := 0) rfl (iI_add2 (iI_of _) (by decide : (1 : Int32) = iI 1)) (by decide) rfl (fun ls (hl : lv_has ls _ ([(2, .int (iI (l2_x4.toInt + 1))), (1, .int l1_x4), (0, .ref (hO 0))])) => ?_)
        refine lv_goto (tgt := 4) hx hb dX5_tryAnswer_70 (by decide) ?_
        have hl : lv_has _ _ ([(2, .int (iI (l2_x4.toInt + 1))), (1, .int l1_x4), (0, .ref (hO 0))]) := lv_sub hl [0, 1, 2] rfl
        exact ihx4 fQ_inside_521 fQ_outside_521 fQ_shut_521 wl_521 wb_521 wG_521 (iI (l2_x4.toInt + 1)) l1_x4 _ _ _ b_wl_521 b_wb_521 (iI_rng (Int.le_trans (by decide) (Int.add_le_add (b_l2_x4.1) (Int.le_refl _))) (by omega) (by decide) (by decide)) (b_l1_x4) (by have e9 : ((iI (l2_x4.toInt + 1))).toInt = (l2_x4.toInt + 1) := (iI_t (Int.le_trans (by decide) (Int.add_le_add (b_l2_x4.1) (Int.le_refl _))) (Int.le_trans (Int.add_le_add (b_l2_x4.2) (Int.le_refl _)) (by decide))); omega) hP hD hS hl
      · have t_31 : ¬ iO_answered.toInt = 0 := toI_neq c_31 rfl (by decide : (0 : Int32).toInt = 0)
        refine lv_iload_n hx hb dX5_tryAnswer_34 rfl (lv_at hl 1 rfl) ?_
        refine lv_if_ne (tgt := 67) hx hb dX5_tryAnswer_35 (by decide) (fun c_35 => ?_) (fun c_35 => ?_)
        · have t_35 : l1_x4.toInt ≠ 0 := toI_ne c_35 rfl (by decide : (0 : Int32).toInt = 0)
          refine lv_iinc (v := (iI (l2_x4.toInt + 1))) hx hb dX5_tryAnswer_67 hl (k := 0) rfl (iI_add2 (iI_of _) (by decide : (1 : Int32) = iI 1)) (by decide) rfl (fun ls (hl : lv_has ls _ ([(2, .int (iI (l2_x4.toInt + 1))), (1, .int l1_x4), (0, .ref (hO 0))])) => ?_)
          refine lv_goto (tgt := 4) hx hb dX5_tryAnswer_70 (by decide) ?_
          have hl : lv_has _ _ ([(2, .int (iI (l2_x4.toInt + 1))), (1, .int l1_x4), (0, .ref (hO 0))]) := lv_sub hl [0, 1, 2] rfl
          exact ihx4 fQ_inside_521 fQ_outside_521 fQ_shut_521 wl_521 wb_521 wG_521 (iI (l2_x4.toInt + 1)) l1_x4 _ _ _ b_wl_521 b_wb_521 (iI_rng (Int.le_trans (by decide) (Int.add_le_add (b_l2_x4.1) (Int.le_refl _))) (by omega) (by decide) (by decide)) (b_l1_x4) (by have e9 : ((iI (l2_x4.toInt + 1))).toInt = (l2_x4.toInt + 1) := (iI_t (Int.le_trans (by decide) (Int.add_le_add (b_l2_x4.1) (Int.le_refl _))) (Int.le_trans (Int.add_le_add (b_l2_x4.2) (Int.le_refl _)) (by decide))); omega) hP hD hS hl
        · have t_35 : l1_x4.toInt = 0 := toI_nne c_35 rfl (by decide : (0 : Int32).toInt = 0)
          refine lv_aload_n hx hb dX5_tryAnswer_38 rfl (lv_at hl 2 rfl) ?_
          refine lv_aload_n hx hb dX5_tryAnswer_39 rfl (lv_at hl 2 rfl) ?_
          refine va_get (D := (dC, dI)) (ci := 5) (v := .ref (hQ 0)) (C := RX5) (T := TX5) (N := 19) hx hb hts iwsMX5_tryAnswer_in5 hown hK hP 0 rfl rfl 1 (by decide) (hts _ hm_m_X5_tryAnswer_5) (fun _ h9 => h9) rfl dX5_tryAnswer_40 ?_
          refine lv_aload_n hx hb dX5_tryAnswer_43 rfl (lv_at hl 2 rfl) ?_
          refine lv_iload_n hx hb dX5_tryAnswer_44 rfl (lv_at hl 0 rfl) ?_
          have hFc := allFree hD hS hA
          refine va_calli (va_runV (As := [.int l2_x4]) (rest := [.ref (hQ 0), .ref (hO 0)]) ⟨hx, hb, hml, hown, hts⟩ (m_X5_goalRow l dC dI hO aO kO hM hQ hw iO_answered iO_searched iO_searchedRelaxed iO_counted fO_countedCase gO_goalNumber gO_goalScale fO_start fO_column fO_chosen aM kM iM_stands iM_variables iM_rows iM_goals iM_differents iM_cases fM_from fM_to fM_whole fM_ways iM_plainRows fM_plainRow fM_kept fM_goalOver fM_goalUnder fM_goalMax fM_different aQ kQ fQ_inside_521 fQ_outside_521 fQ_shut_521 iQ_rows iQ_allRows iQ_columns nW lw kw wl_521 wb_521 wG_521 l2_x4 (b_iO_answered) (b_iO_searched) (b_iO_searchedRelaxed) (b_iO_counted) b_fO_countedCase b_fO_column b_fO_chosen (b_iM_stands) (b_iM_variables) (b_iM_rows) (b_iM_goals) (b_iM_differents) (b_iM_cases) b_fM_ways (b_iM_plainRows) b_fM_plainRow (by first | with_reducible assumption | omega | assumption) (b_iQ_rows) (b_iQ_allRows) (b_iQ_columns) (by first | with_reducible assumption | omega | assumption) b_wl_521 b_wb_521 (by first | exact b_l2_x4 | with_reducible assumption | exact ⟨by omega, by omega⟩ | assumption) (by omega) (by first | with_reducible assumption | omega | (rw [iI_t (by omega) (by omega)]; omega) | decide | assumption) H.size) (cwV 1 hts gwsMX5_tryAnswer_5 rfl rfl rfl hd_yX5_goalRow_RX5 (by decide +kernel)) (fz_pre (va_recv hK hP (ci := 5) (q0 := 0) rfl rfl) hP hK hD) rfl rfl hl.1 rfl (lv_room (Nat.le_of_ble_eq_true rfl)) dX5_tryAnswer_45 (by decide +kernel)) hS (fun q _ h => hFc q h) hFc (fun r522 u t9_ H locs ht hvm hw9 hB9 hz1 hk1 hS => ?_)
          have b_r522 := hw9
          try dsimp only at b_r522
          have hP : va_P (dC, dI) vwCl (WO hO aO kO hM hQ hw iO_answered iO_searched iO_searchedRelaxed iO_counted fO_countedCase gO_goalNumber gO_goalScale fO_start fO_column fO_chosen ++ (WM hM aM kM iM_stands iM_variables iM_rows iM_goals iM_differents iM_cases fM_from fM_to fM_whole fM_ways iM_plainRows fM_plainRow fM_kept fM_goalOver fM_goalUnder fM_goalMax fM_different ++ (WQ hQ aQ kQ hw fQ_inside_521 fQ_outside_521 fQ_shut_521 iQ_rows iQ_allRows iQ_columns ++ (WW nW hw lw kw wl_521 wb_521 wG_521)))) H := fz_P ht hB9.1
          have hD := fz_sd hP (hB9.2.weaken (fun _ q _ h => hFc q.1 h)) rfl
          refine lv_iconst (v := 0) hx hb dX5_tryAnswer_48 (by decide) ?_
          have p9 := cj_4_2_3 (WO hO aO kO hM hQ hw iO_answered iO_searched iO_searchedRelaxed iO_counted fO_countedCase gO_goalNumber gO_goalScale fO_start fO_column fO_chosen) (WM hM aM kM iM_stands iM_variables iM_rows iM_goals iM_differents iM_cases fM_from fM_to fM_whole fM_ways iM_plainRows fM_plainRow fM_kept fM_goalOver fM_goalUnder fM_goalMax fM_different) (WQ hQ aQ kQ hw fQ_inside_521 fQ_outside_521 fQ_shut_521 iQ_rows iQ_allRows iQ_columns) (WW nW hw lw kw wl_521 wb_521 wG_521)
          have hPc := hP.mem (fun q h => p9.mem_iff.mpr (List.mem_append_left _ h))
          have hDc := (hD.perm p9).left
          have hKc : va_K (dC, dI) vwCl (tQ kQ ++ (tW kw)) _ := hK.sub [20, 21, 22, 23, 24] rfl
          have hFc := freeG p9 hD hS hA
          refine va_callr (va_runV (As := [.int r522, .int 0]) (rest := [.ref (hO 0)]) ⟨hx, hb, hml, hown, hts⟩ (m_X6_cellAt l dC dI hQ aQ kQ hw fQ_inside_521 fQ_outside_521 fQ_shut_521 iQ_rows iQ_allRows iQ_columns nW lw kw wl_521 wb_521 wG_521 r522 0 (b_iQ_rows) (b_iQ_allRows) (b_iQ_columns) (by first | with_reducible assumption | omega | assumption) b_wl_521 b_wb_521 (by first | exact b_r522 | with_reducible assumption | exact ⟨by omega, by omega⟩ | assumption) (show 0 ≤ (0 : Int32).toInt ∧ (0 : Int32).toInt ≤ 40 from by decide) (by omega) ((by have h9 := ix_small (i := r522.toInt) (j := 0) (c := iQ_columns.toInt) (by omega) (by omega) (by omega) (by omega) (by omega) (by omega); have h8 : (0 : Int32).toInt = 0 := (by decide); rw [h8]; exact h9)) H.size) (cwV 2 hts gwsMX5_tryAnswer_7 rfl rfl rfl hd_yX6_cellAt_RX6 (by decide +kernel)) (fz_pre (va_recv hK hP (ci := 6) (q0 := 22) rfl rfl) hPc hKc hDc) rfl rfl hl.1 rfl (lv_room (Nat.le_of_ble_eq_true rfl)) dX5_tryAnswer_49 (by decide +kernel)) hS (fun q _ h => hFc q h) hFc (fun kR_523 ra523 t9_ H locs ht hvm hw9 hB9 hz1 hk1 hS => ?_)
          revert hB9
          refine fz_a2 ?_
          intro hra hB9
          subst hra
          have f523_0 := hw9
          try dsimp only at f523_0
          have p8 := p9
          obtain ⟨hP, hD⟩ := frameG p9 p8 hP hD hk1 hFc (fz_P ht hB9.1) hB9.2
          refine lv_aload_n hx hb dX5_tryAnswer_52 rfl (lv_at hl 2 rfl) ?_
          refine va_get (D := (dC, dI)) (ci := 5) (v := .ref (aO 7)) (C := RX5) (T := TX5) (N := 19) hx hb hts iwsMX5_tryAnswer_in5 hown hK hP 0 rfl rfl 13 (by decide) (hts (.fieldLink RX5 52 "OptimaWorks$Solver" "answerGoal" "[LOptimaWorks$Whole;") (by decide +kernel)) (fun _ h9 => h9) rfl dX5_tryAnswer_53 ?_
          refine lv_iload_n hx hb dX5_tryAnswer_56 rfl (lv_at hl 0 rfl) ?_
          refine va_aldq (cA := kO 7) (n := 3) (f := fun q => some (hw (414 + q))) hx hb hK hP 8 7 rfl rfl (vp_in_iff.mpr ⟨b_l2_x4.1, (Int.lt_of_lt_of_le (Int.not_le.mp t_12) (Int.le_trans b_iM_goals.2 (by decide)))⟩) dX5_tryAnswer_57 ?_
          obtain ⟨k524, hk524, b_k524⟩ : ∃ k9 : Nat, k9 = 414 + (l2_x4).toNatClampNeg ∧ (414 ≤ k9 ∧ k9 < 417 ∧ (k9 : Int) = 414 + l2_x4.toInt) := ⟨_, rfl, ald_k (x := (l2_x4)) (o := 414) (n := 3) rfl (by omega) (by omega)⟩
          refine W.eq (g2 := F0 m 58 ls [.ref (hw k524), .ref (hw kR_523), .ref (hO 0)]) (by rw [hk524]; rfl) ?_
          clear hk524
          have hFc := allFree hD hS hA
          refine va_calli (va_runV (As := [.ref (hw kR_523), .ref (hw k524)]) (rest := []) ⟨hx, hb, hml, hown, hts⟩ (m_X5_compare l dC dI hO aO kO hM hQ hw iO_answered iO_searched iO_searchedRelaxed iO_counted fO_countedCase gO_goalNumber gO_goalScale fO_start fO_column fO_chosen aM kM iM_stands iM_variables iM_rows iM_goals iM_differents iM_cases fM_from fM_to fM_whole fM_ways iM_plainRows fM_plainRow fM_kept fM_goalOver fM_goalUnder fM_goalMax fM_different aQ kQ fQ_inside_521 fQ_outside_521 fQ_shut_521 iQ_rows iQ_allRows iQ_columns nW lw kw wl_521 wb_521 wG_521 kR_523 k524 (b_iO_answered) (b_iO_searched) (b_iO_searchedRelaxed) (b_iO_counted) b_fO_countedCase b_fO_column b_fO_chosen (b_iM_stands) (b_iM_variables) (b_iM_rows) (b_iM_goals) (b_iM_differents) (b_iM_cases) b_fM_ways (b_iM_plainRows) b_fM_plainRow (by first | with_reducible assumption | omega | assumption) (b_iQ_rows) (b_iQ_allRows) (b_iQ_columns) (by first | with_reducible assumption | omega | assumption) b_wl_521 b_wb_521 (by omega) (by first | with_reducible assumption | omega | (rw [iI_t (by omega) (by omega)]; omega) | decide | assumption) (by first | with_reducible assumption | omega | (rw [iI_t (by omega) (by omega)]; omega) | decide | assumption) H.size) (cwV 2 hts gwsMX5_tryAnswer_3 rfl rfl rfl hd_yX5_compare_RX5 (by decide +kernel)) (fz_pre (va_recv hK hP (ci := 5) (q0 := 0) rfl rfl) hP hK hD) rfl rfl hl.1 rfl (lv_room (Nat.le_of_ble_eq_true rfl)) dX5_tryAnswer_58 (by decide +kernel)) hS (fun q _ h => hFc q h) hFc (fun r525 u t9_ H locs ht hvm hw9 hB9 hz1 hk1 hS => ?_)
          revert u hw9 hB9
          refine fz_p3 ?_
          intro wl_525 wb_525 wG_525 hw9 hB9
          try dsimp only at hw9 hB9
          revert hw9
          refine fz_a3 ?_
          intro b_wl_525 b_wb_525 b_r525
          have hP : va_P (dC, dI) vwCl (WO hO aO kO hM hQ hw iO_answered iO_searched iO_searchedRelaxed iO_counted fO_countedCase gO_goalNumber gO_goalScale fO_start fO_column fO_chosen ++ (WM hM aM kM iM_stands iM_variables iM_rows iM_goals iM_differents iM_cases fM_from fM_to fM_whole fM_ways iM_plainRows fM_plainRow fM_kept fM_goalOver fM_goalUnder fM_goalMax fM_different ++ (WQ hQ aQ kQ hw fQ_inside_521 fQ_outside_521 fQ_shut_521 iQ_rows iQ_allRows iQ_columns ++ (WW nW hw lw kw wl_525 wb_525 wG_525)))) H := fz_P ht hB9.1
          have hD := fz_sd hP (hB9.2.weaken (fun _ q _ h => hFc q.1 h)) rfl
          refine lv_istore_n hx hb dX5_tryAnswer_61 rfl hl (by decide) rfl (fun ls (hl : lv_has ls _ ([(1, .int r525), (2, .int l2_x4), (0, .ref (hO 0))])) => ?_)
          refine lv_iload_n hx hb dX5_tryAnswer_62 rfl (lv_at hl 0 rfl) ?_
          refine lv_if_le (tgt := 67) hx hb dX5_tryAnswer_63 (by decide) (fun c_63 => ?_) (fun c_63 => ?_)
          · have t_63 : r525.toInt ≤ 0 := toI_le c_63 rfl (by decide : (0 : Int32).toInt = 0)
            refine lv_iinc (v := (iI (l2_x4.toInt + 1))) hx hb dX5_tryAnswer_67 hl (k := 1) rfl (iI_add2 (iI_of _) (by decide : (1 : Int32) = iI 1)) (by decide) rfl (fun ls (hl : lv_has ls _ ([(2, .int (iI (l2_x4.toInt + 1))), (1, .int r525), (0, .ref (hO 0))])) => ?_)
            refine lv_goto (tgt := 4) hx hb dX5_tryAnswer_70 (by decide) ?_
            have hl : lv_has _ _ ([(2, .int (iI (l2_x4.toInt + 1))), (1, .int r525), (0, .ref (hO 0))]) := lv_sub hl [0, 1, 2] rfl
            exact ihx4 fQ_inside_521 fQ_outside_521 fQ_shut_521 wl_525 wb_525 wG_525 (iI (l2_x4.toInt + 1)) r525 _ _ _ b_wl_525 b_wb_525 (iI_rng (Int.le_trans (by decide) (Int.add_le_add (b_l2_x4.1) (Int.le_refl _))) (by omega) (by decide) (by decide)) (by first | exact b_r525 | with_reducible assumption | exact ⟨by omega, by omega⟩ | assumption) (by have e9 : ((iI (l2_x4.toInt + 1))).toInt = (l2_x4.toInt + 1) := (iI_t (Int.le_trans (by decide) (Int.add_le_add (b_l2_x4.1) (Int.le_refl _))) (Int.le_trans (Int.add_le_add (b_l2_x4.2) (Int.le_refl _)) (by decide))); omega) hP hD hS hl
          · have t_63 : ¬ r525.toInt ≤ 0 := toI_nle c_63 rfl (by decide : (0 : Int32).toInt = 0)
            refine W.widen (k := 0) (n := 0) (by decide +kernel) (by decide +kernel) ?_
            exact W.vret hx hb hr (fun t9_ ht hW => ⟨⟨(iO_answered, fQ_inside_521, fQ_outside_521, fQ_shut_521, wl_525, wb_525, wG_525), rfl, ⟨b_iO_answered, b_wl_525, b_wb_525⟩, by rw [ht]; exact hP, hD⟩, hS.F ht⟩) hS.2.2 dX5_tryAnswer_66
end

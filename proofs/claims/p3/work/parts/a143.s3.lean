theorem dX5_lay_0 : decode cX5_lay 0 = .ok (.iconst 0, 1) := by decide +kernel
theorem dX5_lay_1 : decode cX5_lay 1 = .ok (.istore_n 3, 1) := by decide +kernel
theorem dX5_lay_2 : decode cX5_lay 2 = .ok (.iconst 0, 1) := by decide +kernel
theorem dX5_lay_3 : decode cX5_lay 3 = .ok (.istore 4, 2) := by decide +kernel
theorem dX5_lay_5 : decode cX5_lay 5 = .ok (.iload 4, 2) := by decide +kernel
theorem dX5_lay_7 : decode cX5_lay 7 = .ok (.aload_n 0, 1) := by decide +kernel
theorem dX5_lay_8 : decode cX5_lay 8 = .ok (.getfield 74, 3) := by decide +kernel
theorem dX5_lay_11 : decode cX5_lay 11 = .ok (.getfield 112, 3) := by decide +kernel
theorem dX5_lay_14 : decode cX5_lay 14 = .ok (.if_icmp .ge 74, 3) := by decide +kernel
theorem dX5_lay_17 : decode cX5_lay 17 = .ok (.iload_n 1, 1) := by decide +kernel
theorem dX5_lay_18 : decode cX5_lay 18 = .ok (.ifCond .ne 16, 3) := by decide +kernel
theorem dX5_lay_21 : decode cX5_lay 21 = .ok (.aload_n 0, 1) := by decide +kernel
theorem dX5_lay_22 : decode cX5_lay 22 = .ok (.getfield 74, 3) := by decide +kernel
theorem dX5_lay_25 : decode cX5_lay 25 = .ok (.getfield 143, 3) := by decide +kernel
theorem dX5_lay_28 : decode cX5_lay 28 = .ok (.iload 4, 2) := by decide +kernel
theorem dX5_lay_30 : decode cX5_lay 30 = .ok (.baload, 1) := by decide +kernel
theorem dX5_lay_31 : decode cX5_lay 31 = .ok (.ifCond .ne 7, 3) := by decide +kernel
theorem dX5_lay_34 : decode cX5_lay 34 = .ok (.iconst 1, 1) := by decide +kernel
theorem dX5_lay_35 : decode cX5_lay 35 = .ok (.goto 4, 3) := by decide +kernel
theorem dX5_lay_38 : decode cX5_lay 38 = .ok (.iconst 0, 1) := by decide +kernel
theorem dX5_lay_39 : decode cX5_lay 39 = .ok (.istore 5, 2) := by decide +kernel
theorem dX5_lay_41 : decode cX5_lay 41 = .ok (.aload_n 0, 1) := by decide +kernel
theorem dX5_lay_42 : decode cX5_lay 42 = .ok (.getfield 38, 3) := by decide +kernel
theorem dX5_lay_45 : decode cX5_lay 45 = .ok (.iload 4, 2) := by decide +kernel
theorem dX5_lay_47 : decode cX5_lay 47 = .ok (.iload 5, 2) := by decide +kernel
theorem dX5_lay_49 : decode cX5_lay 49 = .ok (.ifCond .eq 10, 3) := by decide +kernel
theorem dX5_lay_52 : decode cX5_lay 52 = .ok (.iinc 3 1, 3) := by decide +kernel
theorem dX5_lay_55 : decode cX5_lay 55 = .ok (.iload_n 3, 1) := by decide +kernel
theorem dX5_lay_56 : decode cX5_lay 56 = .ok (.goto 4, 3) := by decide +kernel
theorem dX5_lay_59 : decode cX5_lay 59 = .ok (.iconst (-1), 1) := by decide +kernel
theorem dX5_lay_60 : decode cX5_lay 60 = .ok (.iastore, 1) := by decide +kernel
theorem dX5_lay_61 : decode cX5_lay 61 = .ok (.iload_n 1, 1) := by decide +kernel
theorem dX5_lay_62 : decode cX5_lay 62 = .ok (.ifCond .eq 20, 3) := by decide +kernel
theorem dX5_lay_65 : decode cX5_lay 65 = .ok (.aload_n 0, 1) := by decide +kernel
theorem dX5_lay_66 : decode cX5_lay 66 = .ok (.getfield 35, 3) := by decide +kernel
theorem dX5_lay_69 : decode cX5_lay 69 = .ok (.iload 4, 2) := by decide +kernel
theorem dX5_lay_71 : decode cX5_lay 71 = .ok (.aload_n 0, 1) := by decide +kernel
theorem dX5_lay_72 : decode cX5_lay 72 = .ok (.getfield 74, 3) := by decide +kernel
theorem dX5_lay_75 : decode cX5_lay 75 = .ok (.getfield 150, 3) := by decide +kernel
theorem dX5_lay_78 : decode cX5_lay 78 = .ok (.iload 4, 2) := by decide +kernel
theorem dX5_lay_80 : decode cX5_lay 80 = .ok (.iaload, 1) := by decide +kernel
theorem dX5_lay_81 : decode cX5_lay 81 = .ok (.iastore, 1) := by decide +kernel
theorem dX5_lay_82 : decode cX5_lay 82 = .ok (.iinc 4 1, 3) := by decide +kernel
theorem dX5_lay_85 : decode cX5_lay 85 = .ok (.goto (-80), 3) := by decide +kernel
theorem dX5_lay_88 : decode cX5_lay 88 = .ok (.iload_n 1, 1) := by decide +kernel
theorem dX5_lay_89 : decode cX5_lay 89 = .ok (.ifCond .eq 13, 3) := by decide +kernel
theorem dX5_lay_92 : decode cX5_lay 92 = .ok (.aload_n 0, 1) := by decide +kernel
theorem dX5_lay_93 : decode cX5_lay 93 = .ok (.getfield 74, 3) := by decide +kernel
theorem dX5_lay_96 : decode cX5_lay 96 = .ok (.getfield 166, 3) := by decide +kernel
theorem dX5_lay_99 : decode cX5_lay 99 = .ok (.goto 10, 3) := by decide +kernel
theorem dX5_lay_102 : decode cX5_lay 102 = .ok (.aload_n 0, 1) := by decide +kernel
theorem dX5_lay_103 : decode cX5_lay 103 = .ok (.getfield 74, 3) := by decide +kernel
theorem dX5_lay_106 : decode cX5_lay 106 = .ok (.getfield 131, 3) := by decide +kernel
theorem dX5_lay_109 : decode cX5_lay 109 = .ok (.istore 4, 2) := by decide +kernel
theorem dX5_lay_111 : decode cX5_lay 111 = .ok (.aload_n 0, 1) := by decide +kernel
theorem dX5_lay_112 : decode cX5_lay 112 = .ok (.getfield 12, 3) := by decide +kernel
theorem dX5_lay_115 : decode cX5_lay 115 = .ok (.iload 4, 2) := by decide +kernel
theorem dX5_lay_117 : decode cX5_lay 117 = .ok (.iload_n 3, 1) := by decide +kernel
theorem dX5_lay_118 : decode cX5_lay 118 = .ok (.iadd, 1) := by decide +kernel
theorem dX5_lay_119 : decode cX5_lay 119 = .ok (.iload_n 2, 1) := by decide +kernel
theorem dX5_lay_120 : decode cX5_lay 120 = .ok (.iload_n 3, 1) := by decide +kernel
theorem dX5_lay_121 : decode cX5_lay 121 = .ok (.invokevirtual 169, 3) := by decide +kernel
theorem dX5_lay_124 : decode cX5_lay 124 = .ok (.iconst 0, 1) := by decide +kernel
theorem dX5_lay_125 : decode cX5_lay 125 = .ok (.istore 5, 2) := by decide +kernel
theorem dX5_lay_127 : decode cX5_lay 127 = .ok (.iconst 0, 1) := by decide +kernel
theorem dX5_lay_128 : decode cX5_lay 128 = .ok (.istore 6, 2) := by decide +kernel
theorem dX5_lay_130 : decode cX5_lay 130 = .ok (.iload 6, 2) := by decide +kernel
theorem dX5_lay_132 : decode cX5_lay 132 = .ok (.aload_n 0, 1) := by decide +kernel
theorem dX5_lay_133 : decode cX5_lay 133 = .ok (.getfield 74, 3) := by decide +kernel
theorem dX5_lay_136 : decode cX5_lay 136 = .ok (.getfield 131, 3) := by decide +kernel
theorem dX5_lay_139 : decode cX5_lay 139 = .ok (.if_icmp .ge 58, 3) := by decide +kernel
theorem dX5_lay_142 : decode cX5_lay 142 = .ok (.iload_n 1, 1) := by decide +kernel
theorem dX5_lay_143 : decode cX5_lay 143 = .ok (.ifCond .eq 17, 3) := by decide +kernel
theorem dX5_lay_146 : decode cX5_lay 146 = .ok (.aload_n 0, 1) := by decide +kernel
theorem dX5_lay_147 : decode cX5_lay 147 = .ok (.getfield 74, 3) := by decide +kernel
theorem dX5_lay_150 : decode cX5_lay 150 = .ok (.getfield 134, 3) := by decide +kernel
theorem dX5_lay_153 : decode cX5_lay 153 = .ok (.iload 6, 2) := by decide +kernel
theorem dX5_lay_155 : decode cX5_lay 155 = .ok (.iaload, 1) := by decide +kernel
theorem dX5_lay_156 : decode cX5_lay 156 = .ok (.iconst 1, 1) := by decide +kernel
theorem dX5_lay_157 : decode cX5_lay 157 = .ok (.if_icmp .ne 34, 3) := by decide +kernel
theorem dX5_lay_160 : decode cX5_lay 160 = .ok (.aload_n 0, 1) := by decide +kernel
theorem dX5_lay_161 : decode cX5_lay 161 = .ok (.iload 5, 2) := by decide +kernel
theorem dX5_lay_163 : decode cX5_lay 163 = .ok (.iload 6, 2) := by decide +kernel
theorem dX5_lay_165 : decode cX5_lay 165 = .ok (.iload_n 1, 1) := by decide +kernel
theorem dX5_lay_166 : decode cX5_lay 166 = .ok (.ifCond .eq 7, 3) := by decide +kernel
theorem dX5_lay_169 : decode cX5_lay 169 = .ok (.iconst 0, 1) := by decide +kernel
theorem dX5_lay_170 : decode cX5_lay 170 = .ok (.goto 10, 3) := by decide +kernel
theorem dX5_lay_173 : decode cX5_lay 173 = .ok (.aload_n 0, 1) := by decide +kernel
theorem dX5_lay_174 : decode cX5_lay 174 = .ok (.getfield 41, 3) := by decide +kernel
theorem dX5_lay_177 : decode cX5_lay 177 = .ok (.iload 6, 2) := by decide +kernel
theorem dX5_lay_179 : decode cX5_lay 179 = .ok (.iaload, 1) := by decide +kernel
theorem dX5_lay_180 : decode cX5_lay 180 = .ok (.invokevirtual 173, 3) := by decide +kernel
theorem dX5_lay_183 : decode cX5_lay 183 = .ok (.ifCond .ne 5, 3) := by decide +kernel
theorem dX5_lay_186 : decode cX5_lay 186 = .ok (.iconst 0, 1) := by decide +kernel
theorem dX5_lay_187 : decode cX5_lay 187 = .ok (.ireturn, 1) := by decide +kernel
theorem dX5_lay_188 : decode cX5_lay 188 = .ok (.iinc 5 1, 3) := by decide +kernel
theorem dX5_lay_191 : decode cX5_lay 191 = .ok (.iinc 6 1, 3) := by decide +kernel
theorem dX5_lay_194 : decode cX5_lay 194 = .ok (.goto (-64), 3) := by decide +kernel
theorem dX5_lay_197 : decode cX5_lay 197 = .ok (.iconst 0, 1) := by decide +kernel
theorem dX5_lay_198 : decode cX5_lay 198 = .ok (.istore 6, 2) := by decide +kernel
theorem dX5_lay_200 : decode cX5_lay 200 = .ok (.iload 6, 2) := by decide +kernel
theorem dX5_lay_202 : decode cX5_lay 202 = .ok (.aload_n 0, 1) := by decide +kernel
theorem dX5_lay_203 : decode cX5_lay 203 = .ok (.getfield 74, 3) := by decide +kernel
theorem dX5_lay_206 : decode cX5_lay 206 = .ok (.getfield 112, 3) := by decide +kernel
theorem dX5_lay_209 : decode cX5_lay 209 = .ok (.if_icmp .ge 80, 3) := by decide +kernel
theorem dX5_lay_212 : decode cX5_lay 212 = .ok (.aload_n 0, 1) := by decide +kernel
theorem dX5_lay_213 : decode cX5_lay 213 = .ok (.getfield 38, 3) := by decide +kernel
theorem dX5_lay_216 : decode cX5_lay 216 = .ok (.iload 6, 2) := by decide +kernel
theorem dX5_lay_218 : decode cX5_lay 218 = .ok (.iaload, 1) := by decide +kernel
theorem dX5_lay_219 : decode cX5_lay 219 = .ok (.iconst (-1), 1) := by decide +kernel
theorem dX5_lay_220 : decode cX5_lay 220 = .ok (.if_icmp .eq 63, 3) := by decide +kernel
theorem dX5_lay_223 : decode cX5_lay 223 = .ok (.aload_n 0, 1) := by decide +kernel
theorem dX5_lay_224 : decode cX5_lay 224 = .ok (.getfield 12, 3) := by decide +kernel
theorem dX5_lay_227 : decode cX5_lay 227 = .ok (.iload 5, 2) := by decide +kernel
theorem dX5_lay_229 : decode cX5_lay 229 = .ok (.iconst 0, 1) := by decide +kernel
theorem dX5_lay_230 : decode cX5_lay 230 = .ok (.invokevirtual 177, 3) := by decide +kernel
theorem dX5_lay_233 : decode cX5_lay 233 = .ok (.aload_n 0, 1) := by decide +kernel
theorem dX5_lay_234 : decode cX5_lay 234 = .ok (.getfield 74, 3) := by decide +kernel
theorem dX5_lay_237 : decode cX5_lay 237 = .ok (.getfield 181, 3) := by decide +kernel
theorem dX5_lay_240 : decode cX5_lay 240 = .ok (.iload 6, 2) := by decide +kernel
theorem dX5_lay_242 : decode cX5_lay 242 = .ok (.iaload, 1) := by decide +kernel
theorem dX5_lay_243 : decode cX5_lay 243 = .ok (.aload_n 0, 1) := by decide +kernel
theorem dX5_lay_244 : decode cX5_lay 244 = .ok (.getfield 74, 3) := by decide +kernel
theorem dX5_lay_247 : decode cX5_lay 247 = .ok (.getfield 150, 3) := by decide +kernel
theorem dX5_lay_250 : decode cX5_lay 250 = .ok (.iload 6, 2) := by decide +kernel
theorem dX5_lay_252 : decode cX5_lay 252 = .ok (.iaload, 1) := by decide +kernel
theorem dX5_lay_253 : decode cX5_lay 253 = .ok (.isub, 1) := by decide +kernel
theorem dX5_lay_254 : decode cX5_lay 254 = .ok (.i2l, 1) := by decide +kernel
theorem dX5_lay_255 : decode cX5_lay 255 = .ok (.invokevirtual 184, 3) := by decide +kernel
theorem dX5_lay_258 : decode cX5_lay 258 = .ok (.aload_n 0, 1) := by decide +kernel
theorem dX5_lay_259 : decode cX5_lay 259 = .ok (.getfield 12, 3) := by decide +kernel
theorem dX5_lay_262 : decode cX5_lay 262 = .ok (.iload 5, 2) := by decide +kernel
theorem dX5_lay_264 : decode cX5_lay 264 = .ok (.aload_n 0, 1) := by decide +kernel
theorem dX5_lay_265 : decode cX5_lay 265 = .ok (.getfield 38, 3) := by decide +kernel
theorem dX5_lay_268 : decode cX5_lay 268 = .ok (.iload 6, 2) := by decide +kernel
theorem dX5_lay_270 : decode cX5_lay 270 = .ok (.iaload, 1) := by decide +kernel
theorem dX5_lay_271 : decode cX5_lay 271 = .ok (.invokevirtual 177, 3) := by decide +kernel
theorem dX5_lay_274 : decode cX5_lay 274 = .ok (.ldc2_w 188, 3) := by decide +kernel
theorem dX5_lay_277 : decode cX5_lay 277 = .ok (.invokevirtual 184, 3) := by decide +kernel
theorem dX5_lay_280 : decode cX5_lay 280 = .ok (.iinc 5 1, 3) := by decide +kernel
theorem dX5_lay_283 : decode cX5_lay 283 = .ok (.iinc 6 1, 3) := by decide +kernel
theorem dX5_lay_286 : decode cX5_lay 286 = .ok (.goto (-86), 3) := by decide +kernel
theorem dX5_lay_289 : decode cX5_lay 289 = .ok (.iconst 0, 1) := by decide +kernel
theorem dX5_lay_290 : decode cX5_lay 290 = .ok (.istore 6, 2) := by decide +kernel
theorem dX5_lay_292 : decode cX5_lay 292 = .ok (.iload 6, 2) := by decide +kernel
theorem dX5_lay_294 : decode cX5_lay 294 = .ok (.iload_n 2, 1) := by decide +kernel
theorem dX5_lay_295 : decode cX5_lay 295 = .ok (.if_icmp .ge 20, 3) := by decide +kernel
theorem dX5_lay_298 : decode cX5_lay 298 = .ok (.aload_n 0, 1) := by decide +kernel
theorem dX5_lay_299 : decode cX5_lay 299 = .ok (.iload 5, 2) := by decide +kernel
theorem dX5_lay_301 : decode cX5_lay 301 = .ok (.iload 6, 2) := by decide +kernel
theorem dX5_lay_303 : decode cX5_lay 303 = .ok (.iadd, 1) := by decide +kernel
theorem dX5_lay_304 : decode cX5_lay 304 = .ok (.iload 6, 2) := by decide +kernel
theorem dX5_lay_306 : decode cX5_lay 306 = .ok (.invokevirtual 190, 3) := by decide +kernel
theorem dX5_lay_309 : decode cX5_lay 309 = .ok (.iinc 6 1, 3) := by decide +kernel
theorem dX5_lay_312 : decode cX5_lay 312 = .ok (.goto (-20), 3) := by decide +kernel
theorem dX5_lay_315 : decode cX5_lay 315 = .ok (.iconst 1, 1) := by decide +kernel
theorem dX5_lay_316 : decode cX5_lay 316 = .ok (.ireturn, 1) := by decide +kernel
def wsMX5_lay : List Cond := .code yX5_lay cX5_lay 7 (some .boolean) :: ([.fieldLink RX5 74 "OptimaWorks$Solver" "model" "LOptimaWorks$Model;", .fieldLink RX5 112 "OptimaWorks$Model" "variables" "I", .fieldLink RX5 38 "OptimaWorks$Solver" "column" "[I", .fieldLink RX5 35 "OptimaWorks$Solver" "start" "[I", .fieldLink RX5 150 "OptimaWorks$Model" "from" "[I", .fieldLink RX5 143 "OptimaWorks$Model" "whole" "[Z", .fieldLink RX5 131 "OptimaWorks$Model" "rows" "I", .fieldLink RX5 166 "OptimaWorks$Model" "plainRows" "I", .fieldLink RX5 12 "OptimaWorks$Solver" "tableau" "LOptimaWorks$Tableau;", .fieldLink RX5 181 "OptimaWorks$Model" "to" "[I", .constantLong RX5 188 (-1), .fieldLink RX5 41 "OptimaWorks$Solver" "chosen" "[I", .fieldLink RX5 134 "OptimaWorks$Model" "ways" "[I"] ++ wsX10 ++ wsX50 ++ (wsV RX5 169 RX6 yX6_begin wsMX6_begin) ++ (wsV RX5 177 RX6 yX6_cellAt wsMX6_cellAt) ++ (wsV RX5 184 RX8 yX8_setLong wsMX8_setLong) ++ (wsV RX5 190 RX5 yX5_layGoal wsMX5_layGoal) ++ (wsV RX5 173 RX5 yX5_layWay wsMX5_layWay))
theorem iwsMX5_lay_in1 : ∀ w ∈ wsX10, w ∈ wsMX5_lay := fun _ h => List.mem_cons_of_mem _ (List.mem_append_left _ (List.mem_append_left _ (List.mem_append_left _ (List.mem_append_left _ (List.mem_append_left _ (List.mem_append_left _ (List.mem_append_right _ h)))))))
theorem iwsMX5_lay_in5 : ∀ w ∈ wsX50, w ∈ wsMX5_lay := fun _ h => List.mem_cons_of_mem _ (List.mem_append_left _ (List.mem_append_left _ (List.mem_append_left _ (List.mem_append_left _ (List.mem_append_left _ (List.mem_append_right _ h))))))
theorem gwsMX5_lay_0 : GoodIn wsMX5_lay (wsV RX5 169 RX6 yX6_begin wsMX6_begin) := goodIn_sub (fun _ h => List.mem_cons_of_mem _ (List.mem_append_left _ (List.mem_append_left _ (List.mem_append_left _ (List.mem_append_left _ (List.mem_append_right _ h)))))) (gdV (by decide +kernel) gdwsMX6_begin)
theorem gwsMX5_lay_1 : GoodIn wsMX5_lay (wsV RX5 177 RX6 yX6_cellAt wsMX6_cellAt) := goodIn_sub (fun _ h => List.mem_cons_of_mem _ (List.mem_append_left _ (List.mem_append_left _ (List.mem_append_left _ (List.mem_append_right _ h))))) (gdV (by decide +kernel) gdwsMX6_cellAt)
theorem gwsMX5_lay_2 : GoodIn wsMX5_lay (wsV RX5 184 RX8 yX8_setLong wsMX8_setLong) := goodIn_sub (fun _ h => List.mem_cons_of_mem _ (List.mem_append_left _ (List.mem_append_left _ (List.mem_append_right _ h)))) (gdV (by decide +kernel) gdwsMX8_setLong)
theorem gwsMX5_lay_3 : GoodIn wsMX5_lay (wsV RX5 190 RX5 yX5_layGoal wsMX5_layGoal) := goodIn_sub (fun _ h => List.mem_cons_of_mem _ (List.mem_append_left _ (List.mem_append_right _ h))) (gdV (by decide +kernel) gdwsMX5_layGoal)
theorem gwsMX5_lay_4 : GoodIn wsMX5_lay (wsV RX5 173 RX5 yX5_layWay wsMX5_layWay) := goodIn_sub (fun _ h => List.mem_cons_of_mem _ (List.mem_append_right _ h)) (gdV (by decide +kernel) gdwsMX5_layWay)
theorem gdwsMX5_lay : wsMX5_lay.all goodWord = true := gdC rfl (gdA (gdA (gdA (gdA (gdA (gdA (gdA (by decide +kernel : ([.fieldLink RX5 74 "OptimaWorks$Solver" "model" "LOptimaWorks$Model;", .fieldLink RX5 112 "OptimaWorks$Model" "variables" "I", .fieldLink RX5 38 "OptimaWorks$Solver" "column" "[I", .fieldLink RX5 35 "OptimaWorks$Solver" "start" "[I", .fieldLink RX5 150 "OptimaWorks$Model" "from" "[I", .fieldLink RX5 143 "OptimaWorks$Model" "whole" "[Z", .fieldLink RX5 131 "OptimaWorks$Model" "rows" "I", .fieldLink RX5 166 "OptimaWorks$Model" "plainRows" "I", .fieldLink RX5 12 "OptimaWorks$Solver" "tableau" "LOptimaWorks$Tableau;", .fieldLink RX5 181 "OptimaWorks$Model" "to" "[I", .constantLong RX5 188 (-1), .fieldLink RX5 41 "OptimaWorks$Solver" "chosen" "[I", .fieldLink RX5 134 "OptimaWorks$Model" "ways" "[I"] : List Cond).all goodWord = true) gdwsX10) gdwsX50) (gdV (by decide +kernel) gdwsMX6_begin)) (gdV (by decide +kernel) gdwsMX6_cellAt)) (gdV (by decide +kernel) gdwsMX8_setLong)) (gdV (by decide +kernel) gdwsMX5_layGoal)) (gdV (by decide +kernel) gdwsMX5_layWay))
set_option maxHeartbeats 4000000 in
set_option maxRecDepth 100000 in
/-- a case is laid out -/
theorem m_X5_lay (l : Launch) (dC : Nat → ClassId) (dI : Nat → Nat → Nat) (hO : Nat → Nat) (aO : Nat → Nat) (kO : Nat → ClassId) (hM : Nat → Nat) (hQ : Nat → Nat) (hw : Nat → Nat) (iO_answered : Int32) (iO_searched : Int32) (iO_searchedRelaxed : Int32) (iO_counted : Int32) (fO_countedCase : Nat → Int32) (gO_goalNumber : Nat → Int64) (gO_goalScale : Nat → Int64) (fO_start : Nat → Int32) (fO_column : Nat → Int32) (fO_chosen : Nat → Int32) (aM : Nat → Nat) (kM : Nat → ClassId) (iM_stands : Int32) (iM_variables : Int32) (iM_rows : Int32) (iM_goals : Int32) (iM_differents : Int32) (iM_cases : Int32) (fM_from : Nat → Int32) (fM_to : Nat → Int32) (fM_whole : Nat → Int32) (fM_ways : Nat → Int32) (iM_plainRows : Int32) (fM_plainRow : Nat → Int32) (fM_kept : Nat → Int32) (fM_goalOver : Nat → Int32) (fM_goalUnder : Nat → Int32) (fM_goalMax : Nat → Int32) (fM_different : Nat → Int32) (aQ : Nat → Nat) (kQ : Nat → ClassId) (fQ_inside : Nat → Int32) (fQ_outside : Nat → Int32) (fQ_shut : Nat → Int32) (iQ_rows : Int32) (iQ_allRows : Int32) (iQ_columns : Int32) (nW : Nat) (lw : Nat → Nat) (kw : ClassId) (wl : Nat → Int32) (wb : Nat → Int32) (wG : Nat → Nat → Int64) (p1 : Int32) (p2 : Int32) (b_iO_answered : 0 ≤ iO_answered.toInt ∧ iO_answered.toInt ≤ 1) (b_iO_searched : 0 ≤ iO_searched.toInt ∧ iO_searched.toInt ≤ 1) (b_iO_searchedRelaxed : 0 ≤ iO_searchedRelaxed.toInt ∧ iO_searchedRelaxed.toInt ≤ 1) (b_iO_counted : (-1) ≤ iO_counted.toInt ∧ iO_counted.toInt ≤ 64) (b_fO_countedCase : ∀ q : Nat, 0 ≤ (fO_countedCase q).toInt ∧ (fO_countedCase q).toInt ≤ 200000) (b_fO_column : ∀ q : Nat, (-1) ≤ (fO_column q).toInt ∧ (fO_column q).toInt ≤ 8) (b_fO_chosen : ∀ q : Nat, 0 ≤ (fO_chosen q).toInt ∧ (fO_chosen q).toInt ≤ 2) (b_iM_stands : 0 ≤ iM_stands.toInt ∧ iM_stands.toInt ≤ 1) (b_iM_variables : 0 ≤ iM_variables.toInt ∧ iM_variables.toInt ≤ 8) (b_iM_rows : 0 ≤ iM_rows.toInt ∧ iM_rows.toInt ≤ 12) (b_iM_goals : 0 ≤ iM_goals.toInt ∧ iM_goals.toInt ≤ 3) (b_iM_differents : 0 ≤ iM_differents.toInt ∧ iM_differents.toInt ≤ 8) (b_iM_cases : 0 ≤ iM_cases.toInt ∧ iM_cases.toInt ≤ 200000) (b_fM_ways : ∀ q : Nat, 0 ≤ (fM_ways q).toInt ∧ (fM_ways q).toInt ≤ 3) (b_iM_plainRows : 0 ≤ iM_plainRows.toInt ∧ iM_plainRows.toInt ≤ 12) (b_fM_plainRow : ∀ q : Nat, 0 ≤ (fM_plainRow q).toInt ∧ (fM_plainRow q).toInt ≤ 11) (b_pr : iM_plainRows.toInt ≤ iM_rows.toInt) (b_iQ_rows : 0 ≤ iQ_rows.toInt ∧ iQ_rows.toInt ≤ 40) (b_iQ_allRows : 0 ≤ iQ_allRows.toInt ∧ iQ_allRows.toInt ≤ 40) (b_iQ_columns : 0 ≤ iQ_columns.toInt ∧ iQ_columns.toInt ≤ 40) (b_tb : TbO iQ_rows iQ_allRows iQ_columns) (b_wl : ∀ q : Nat, 0 ≤ (wl q).toInt ∧ (wl q).toInt ≤ 14) (b_wb : ∀ q : Nat, 0 ≤ (wb q).toInt ∧ (wb q).toInt ≤ 1) (b_p2 : 0 ≤ p2.toInt ∧ p2.toInt ≤ 3) (hnW : 432 ≤ nW) (sz : Nat) : Met l yX5_lay wsMX5_lay ({ frames := 5, cells := 0, slots := 0, locals := 111 }) (va_Pc [.ref (hO 0), .int p1, .int p2] (fun U => U.heap.size = sz ∧ va_P (dC, dI) vwCl (WO hO aO kO hM hQ hw iO_answered iO_searched iO_searchedRelaxed iO_counted fO_countedCase gO_goalNumber gO_goalScale fO_start fO_column fO_chosen ++ (WM hM aM kM iM_stands iM_variables iM_rows iM_goals iM_differents iM_cases fM_from fM_to fM_whole fM_ways iM_plainRows fM_plainRow fM_kept fM_goalOver fM_goalUnder fM_goalMax fM_different ++ (WQ hQ aQ kQ hw fQ_inside fQ_outside fQ_shut iQ_rows iQ_allRows iQ_columns ++ (WW nW hw lw kw wl wb wG)))) U.heap ∧ va_K (dC, dI) vwCl (tO kO ++ (tM kM ++ (tQ kQ ++ (tW kw)))) U ∧ va_D (fun _ => True) (WO hO aO kO hM hQ hw iO_answered iO_searched iO_searchedRelaxed iO_counted fO_countedCase gO_goalNumber gO_goalScale fO_start fO_column fO_chosen ++ (WM hM aM kM iM_stands iM_variables iM_rows iM_goals iM_differents iM_cases fM_from fM_to fM_whole fM_ways iM_plainRows fM_plainRow fM_kept fM_goalOver fM_goalUnder fM_goalMax fM_different ++ (WQ hQ aQ kQ hw fQ_inside fQ_outside fQ_shut iQ_rows iQ_allRows iQ_columns ++ (WW nW hw lw kw wl wb wG)))))) (va_Qi (fun (r : Int32) (u : (Nat → Int32) × (Nat → Int32) × (Nat → Int32) × (Nat → Int32) × (Nat → Int32) × (Int32) × (Int32) × (Int32) × (Nat → Int32) × (Nat → Int32) × (Nat → Nat → Int64)) => (∀ q : Nat, (-1) ≤ ((u.2.1) q).toInt ∧ ((u.2.1) q).toInt ≤ 8) ∧ (0 ≤ (u.2.2.2.2.2.1).toInt ∧ (u.2.2.2.2.2.1).toInt ≤ 40) ∧ (0 ≤ (u.2.2.2.2.2.2.1).toInt ∧ (u.2.2.2.2.2.2.1).toInt ≤ 40) ∧ (0 ≤ (u.2.2.2.2.2.2.2.1).toInt ∧ (u.2.2.2.2.2.2.2.1).toInt ≤ 40) ∧ (∀ q : Nat, 0 ≤ ((u.2.2.2.2.2.2.2.2.1) q).toInt ∧ ((u.2.2.2.2.2.2.2.2.1) q).toInt ≤ 14) ∧ (∀ q : Nat, 0 ≤ ((u.2.2.2.2.2.2.2.2.2.1) q).toInt ∧ ((u.2.2.2.2.2.2.2.2.2.1) q).toInt ≤ 1) ∧ (TbO (u.2.2.2.2.2.1) (u.2.2.2.2.2.2.1) (u.2.2.2.2.2.2.2.1)) ∧ (0 ≤ r.toInt ∧ r.toInt ≤ 1) ∧ ((u.2.2.2.2.2.2.2.1).toInt ≤ 8) ∧ ((u.2.2.2.2.2.1).toInt ≤ 20)) (fun (u : (Nat → Int32) × (Nat → Int32) × (Nat → Int32) × (Nat → Int32) × (Nat → Int32) × (Int32) × (Int32) × (Int32) × (Nat → Int32) × (Nat → Int32) × (Nat → Nat → Int64)) t => va_P (dC, dI) vwCl (WO hO aO kO hM hQ hw iO_answered iO_searched iO_searchedRelaxed iO_counted fO_countedCase gO_goalNumber gO_goalScale (u.1) (u.2.1) fO_chosen ++ (WM hM aM kM iM_stands iM_variables iM_rows iM_goals iM_differents iM_cases fM_from fM_to fM_whole fM_ways iM_plainRows fM_plainRow fM_kept fM_goalOver fM_goalUnder fM_goalMax fM_different ++ (WQ hQ aQ kQ hw (u.2.2.1) (u.2.2.2.1) (u.2.2.2.2.1) (u.2.2.2.2.2.1) (u.2.2.2.2.2.2.1) (u.2.2.2.2.2.2.2.1) ++ (WW nW hw lw kw (u.2.2.2.2.2.2.2.2.1) (u.2.2.2.2.2.2.2.2.2.1) (u.2.2.2.2.2.2.2.2.2.2))))) t.heap ∧ va_D (va_A (WO hO aO kO hM hQ hw iO_answered iO_searched iO_searchedRelaxed iO_counted fO_countedCase gO_goalNumber gO_goalScale fO_start fO_column fO_chosen ++ (WM hM aM kM iM_stands iM_variables iM_rows iM_goals iM_differents iM_cases fM_from fM_to fM_whole fM_ways iM_plainRows fM_plainRow fM_kept fM_goalOver fM_goalUnder fM_goalMax fM_different ++ (WQ hQ aQ kQ hw fQ_inside fQ_outside fQ_shut iQ_rows iQ_allRows iQ_columns ++ (WW nW hw lw kw wl wb wG)))) sz) (WO hO aO kO hM hQ hw iO_answered iO_searched iO_searchedRelaxed iO_counted fO_countedCase gO_goalNumber gO_goalScale (u.1) (u.2.1) fO_chosen ++ (WM hM aM kM iM_stands iM_variables iM_rows iM_goals iM_differents iM_cases fM_from fM_to fM_whole fM_ways iM_plainRows fM_plainRow fM_kept fM_goalOver fM_goalUnder fM_goalMax fM_different ++ (WQ hQ aQ kQ hw (u.2.2.1) (u.2.2.2.1) (u.2.2.2.2.1) (u.2.2.2.2.2.1) (u.2.2.2.2.2.2.1) (u.2.2.2.2.2.2.2.1) ++ (WW nW hw lw kw (u.2.2.2.2.2.2.2.2.1) (u.2.2.2.2.2.2.2.2.2.1) (u.2.2.2.2.2.2.2.2.2.2)))))) (va_A (WO hO aO kO hM hQ hw iO_answered iO_searched iO_searchedRelaxed iO_counted fO_countedCase gO_goalNumber gO_goalScale fO_start fO_column fO_chosen ++ (WM hM aM kM iM_stands iM_variables iM_rows iM_goals iM_differents iM_cases fM_from fM_to fM_whole fM_ways iM_plainRows fM_plainRow fM_kept fM_goalOver fM_goalUnder fM_goalMax fM_different ++ (WQ hQ aQ kQ hw fQ_inside fQ_outside fQ_shut iQ_rows iQ_allRows iQ_columns ++ (WW nW hw lw kw wl wb wG)))) sz)) 0 0 (va_A (WO hO aO kO hM hQ hw iO_answered iO_searched iO_searchedRelaxed iO_counted fO_countedCase gO_goalNumber gO_goalScale fO_start fO_column fO_chosen ++ (WM hM aM kM iM_stands iM_variables iM_rows iM_goals iM_differents iM_cases fM_from fM_to fM_whole fM_ways iM_plainRows fM_plainRow fM_kept fM_goalOver fM_goalUnder fM_goalMax fM_different ++ (WQ hQ aQ kQ hw fQ_inside fQ_outside fQ_shut iQ_rows iQ_allRows iQ_columns ++ (WW nW hw lw kw wl wb wG)))) sz) := by
  refine Met.ofW (cc := cX5_lay) (maxL := 7) (ret := (some .boolean)) (by decide) rfl ?_
  intro p e s m args below meth c s₁ B hml hv
  obtain ⟨rfl, hsz, hP, hK, hD0⟩ := hv
  have hx := B.exec
  have hb := B.bytes
  have hr := B.returns
  have hts := atoms_spec (ws := wsMX5_lay) B.pre
  have hown : s.vm.findClass RX5 = some m.cls := findClass_of_methodNamed B.named
  have hlocks := B.notSynchronized
  subst hsz
  have hD := hD0.self (sz := s.heap.size)
  generalize hAe : va_A (WO hO aO kO hM hQ hw iO_answered iO_searched iO_searchedRelaxed iO_counted fO_countedCase gO_goalNumber gO_goalScale fO_start fO_column fO_chosen ++ (WM hM aM kM iM_stands iM_variables iM_rows iM_goals iM_differents iM_cases fM_from fM_to fM_whole fM_ways iM_plainRows fM_plainRow fM_kept fM_goalOver fM_goalUnder fM_goalMax fM_different ++ (WQ hQ aQ kQ hw fQ_inside fQ_outside fQ_shut iQ_rows iQ_allRows iQ_columns ++ (WW nW hw lw kw wl wb wG)))) s.heap.size = A at hD ⊢
  have hA : ∀ q : Nat, s.heap.size ≤ q → A q := fun q h => by rw [← hAe]; exact Or.inr h
  have hS : va_S A s.heap s.heap [] := va_S.rf
  have hl := lv_entry ([.ref (hO 0), .int p1, .int p2]) (n := 7) (Nat.le_of_ble_eq_true rfl)
  rw [lg_entry_eq]
  generalize (lg_sl ([.ref (hO 0), .int p1, .int p2]) ++ List.replicate (7 - (lg_sl ([.ref (hO 0), .int p1, .int p2])).length) Slot.unset).toArray = ls at hl ⊢
  have hl : lv_has ls 7 [(0, .ref (hO 0)), (1, .int p1), (2, .int p2)] := hl
  refine lv_iconst (v := 0) hx hb dX5_lay_0 (by decide) ?_
  refine lv_istore_n (lv' := [(3, .int 0), (0, .ref (hO 0)), (1, .int p1), (2, .int p2)]) hx hb dX5_lay_1 rfl hl (by decide) rfl (fun ls hl => ?_)
  refine lv_iconst (v := 0) hx hb dX5_lay_2 (by decide) ?_
  refine lv_istore (lv' := [(4, .int 0), (3, .int 0), (0, .ref (hO 0)), (1, .int p1), (2, .int p2)]) hx hb dX5_lay_3 hl (by decide) rfl (fun ls hl => ?_)
  have hl := lv_sub hl [0, 1, 2, 3, 4] (l' := [(4, .int 0), (3, .int 0), (0, .ref (hO 0)), (1, .int p1), (2, .int p2)]) rfl
  refine (fun (loop : ∀ (n9 : Nat) (fO_start_x5 : Nat → Int32) (fO_column_x5 : Nat → Int32) (l4_x5 : Int32) (l3_x5 : Int32) (H : Heap) (locs : List Loc) (ls : Array Slot), (∀ q : Nat, (-1) ≤ (fO_column_x5 q).toInt ∧ (fO_column_x5 q).toInt ≤ 8) → (0 ≤ l4_x5.toInt ∧ l4_x5.toInt ≤ 8) → (0 ≤ l3_x5.toInt ∧ l3_x5.toInt ≤ 8) → (l3_x5.toInt ≤ l4_x5.toInt) → (8 - l4_x5.toInt < ((n9 : Nat) : Int)) → va_P (dC, dI) vwCl (WO hO aO kO hM hQ hw iO_answered iO_searched iO_searchedRelaxed iO_counted fO_countedCase gO_goalNumber gO_goalScale fO_start_x5 fO_column_x5 fO_chosen ++ (WM hM aM kM iM_stands iM_variables iM_rows iM_goals iM_differents iM_cases fM_from fM_to fM_whole fM_ways iM_plainRows fM_plainRow fM_kept fM_goalOver fM_goalUnder fM_goalMax fM_different ++ (WQ hQ aQ kQ hw fQ_inside fQ_outside fQ_shut iQ_rows iQ_allRows iQ_columns ++ (WW nW hw lw kw wl wb wG)))) H → va_D A (WO hO aO kO hM hQ hw iO_answered iO_searched iO_searchedRelaxed iO_counted fO_countedCase gO_goalNumber gO_goalScale fO_start_x5 fO_column_x5 fO_chosen ++ (WM hM aM kM iM_stands iM_variables iM_rows iM_goals iM_differents iM_cases fM_from fM_to fM_whole fM_ways iM_plainRows fM_plainRow fM_kept fM_goalOver fM_goalUnder fM_goalMax fM_different ++ (WQ hQ aQ kQ hw fQ_inside fQ_outside fQ_shut iQ_rows iQ_allRows iQ_columns ++ (WW nW hw lw kw wl wb wG)))) → va_S A s.heap H locs → lv_has ls 7 [(4, .int l4_x5), (3, .int l3_x5), (0, .ref (hO 0)), (1, .int p1), (2, .int p2)] → W p l e _ s m _ below meth c H locs 0 0 _ (F0 m 5 ls [])) => loop (9) fO_start fO_column 0 0 _ _ _ b_fO_column (show 0 ≤ (0 : Int32).toInt ∧ (0 : Int32).toInt ≤ 8 from by decide) (show 0 ≤ (0 : Int32).toInt ∧ (0 : Int32).toInt ≤ 8 from by decide) (show (0 : Int32).toInt ≤ (0 : Int32).toInt from by decide) ((by have e9 : (0 : Int32).toInt = 0 := (by decide : (0 : Int32).toInt = 0); omega)) hP hD hS hl) ?_
  intro n9
  induction n9 with
  | zero => intro fO_start_x5 fO_column_x5 l4_x5 l3_x5 H locs ls b_fO_column_x5 b_l4_x5 b_l3_x5 hc1 hf9; exact False.elim (by omega)
  | succ n9 ihx5 =>
    intro fO_start_x5 fO_column_x5 l4_x5 l3_x5 H locs ls b_fO_column_x5 b_l4_x5 b_l3_x5 hc1 hfx5 hP hD hS hl
    refine lv_iload hx hb dX5_lay_5 (lv_at hl 0 rfl) ?_
    refine lv_aload_n hx hb dX5_lay_7 rfl (lv_at hl 2 rfl) ?_
    refine va_get (D := (dC, dI)) (ci := 5) (v := .ref (hM 0)) (C := RX5) (T := TX5) (N := 19) hx hb hts iwsMX5_lay_in5 hown hK hP 0 rfl rfl 0 (by decide) (hts (.fieldLink RX5 74 "OptimaWorks$Solver" "model" "LOptimaWorks$Model;") (by decide +kernel)) (fun _ h9 => h9) rfl dX5_lay_8 ?_
    refine va_get (D := (dC, dI)) (ci := 1) (v := .int iM_variables) (C := RX1) (T := TX1) (N := 17) hx hb hts iwsMX5_lay_in1 hown hK hP 11 rfl rfl 1 (by decide) (hts (.fieldLink RX5 112 "OptimaWorks$Model" "variables" "I") (by decide +kernel)) (fun _ h9 => h9) rfl dX5_lay_11 ?_
    refine lv_icmp_ge (tgt := 88) hx hb dX5_lay_14 (by decide) (fun c_14 => ?_) (fun c_14 => ?_)
    · have t_14 : l4_x5.toInt ≥ iM_variables.toInt := toI_ge c_14 rfl rfl
      refine lv_iload_n hx hb dX5_lay_88 rfl (lv_at hl 3 rfl) ?_
      refine W.cut (pc := 109) (fun H locs ls stk => ∃ (k0_j36 : Int32), (0 ≤ k0_j36.toInt ∧ k0_j36.toInt ≤ 12) ∧  stk = [.int k0_j36] ∧ va_P (dC, dI) vwCl (WO hO aO kO hM hQ hw iO_answered iO_searched iO_searchedRelaxed iO_counted fO_countedCase gO_goalNumber gO_goalScale fO_start_x5 fO_column_x5 fO_chosen ++ (WM hM aM kM iM_stands iM_variables iM_rows iM_goals iM_differents iM_cases fM_from fM_to fM_whole fM_ways iM_plainRows fM_plainRow fM_kept fM_goalOver fM_goalUnder fM_goalMax fM_different ++ (WQ hQ aQ kQ hw fQ_inside fQ_outside fQ_shut iQ_rows iQ_allRows iQ_columns ++ (WW nW hw lw kw wl wb wG)))) H ∧ va_D A (WO hO aO kO hM hQ hw iO_answered iO_searched iO_searchedRelaxed iO_counted fO_countedCase gO_goalNumber gO_goalScale fO_start_x5 fO_column_x5 fO_chosen ++ (WM hM aM kM iM_stands iM_variables iM_rows iM_goals iM_differents iM_cases fM_from fM_to fM_whole fM_ways iM_plainRows fM_plainRow fM_kept fM_goalOver fM_goalUnder fM_goalMax fM_different ++ (WQ hQ aQ kQ hw fQ_inside fQ_outside fQ_shut iQ_rows iQ_allRows iQ_columns ++ (WW nW hw lw kw wl wb wG)))) ∧ va_S A s.heap H locs ∧ lv_has ls 7 [(4, .int l4_x5), (3, .int l3_x5), (0, .ref (hO 0)), (1, .int p1), (2, .int p2)]) (fun join36 => ?_) ?_
      · refine lv_if_eq (tgt := 102) hx hb dX5_lay_89 (by decide) (fun c_89 => ?_) (fun c_89 => ?_)
        · have t_89 : p1.toInt = 0 := toI_eq c_89 rfl (by decide : (0 : Int32).toInt = 0)
          refine lv_aload_n hx hb dX5_lay_102 rfl (lv_at hl 2 rfl) ?_
          refine va_get (D := (dC, dI)) (ci := 5) (v := .ref (hM 0)) (C := RX5) (T := TX5) (N := 19) hx hb hts iwsMX5_lay_in5 hown hK hP 0 rfl rfl 0 (by decide) (hts (.fieldLink RX5 74 "OptimaWorks$Solver" "model" "LOptimaWorks$Model;") (by decide +kernel)) (fun _ h9 => h9) rfl dX5_lay_103 ?_
          refine va_get (D := (dC, dI)) (ci := 1) (v := .int iM_rows) (C := RX1) (T := TX1) (N := 17) hx hb hts iwsMX5_lay_in1 hown hK hP 11 rfl rfl 2 (by decide) (hts (.fieldLink RX5 131 "OptimaWorks$Model" "rows" "I") (by decide +kernel)) (fun _ h9 => h9) rfl dX5_lay_106 ?_
          have hl := lv_sub hl [0, 1, 2, 3, 4] (l' := [(4, .int l4_x5), (3, .int l3_x5), (0, .ref (hO 0)), (1, .int p1), (2, .int p2)]) rfl
          exact join36 _ _ _ _ ⟨iM_rows, (by first | assumption | exact ⟨by omega, by omega⟩), rfl, hP, hD, hS, hl⟩
        · have t_89 : ¬ p1.toInt = 0 := toI_neq c_89 rfl (by decide : (0 : Int32).toInt = 0)
          refine lv_aload_n hx hb dX5_lay_92 rfl (lv_at hl 2 rfl) ?_
          refine va_get (D := (dC, dI)) (ci := 5) (v := .ref (hM 0)) (C := RX5) (T := TX5) (N := 19) hx hb hts iwsMX5_lay_in5 hown hK hP 0 rfl rfl 0 (by decide) (hts (.fieldLink RX5 74 "OptimaWorks$Solver" "model" "LOptimaWorks$Model;") (by decide +kernel)) (fun _ h9 => h9) rfl dX5_lay_93 ?_
          refine va_get (D := (dC, dI)) (ci := 1) (v := .int iM_plainRows) (C := RX1) (T := TX1) (N := 17) hx hb hts iwsMX5_lay_in1 hown hK hP 11 rfl rfl 10 (by decide) (hts (.fieldLink RX5 166 "OptimaWorks$Model" "plainRows" "I") (by decide +kernel)) (fun _ h9 => h9) rfl dX5_lay_96 ?_
          refine lv_goto (tgt := 109) hx hb dX5_lay_99 (by decide) ?_
          have hl := lv_sub hl [0, 1, 2, 3, 4] (l' := [(4, .int l4_x5), (3, .int l3_x5), (0, .ref (hO 0)), (1, .int p1), (2, .int p2)]) rfl
          exact join36 _ _ _ _ ⟨iM_plainRows, (by first | assumption | exact ⟨by omega, by omega⟩), rfl, hP, hD, hS, hl⟩
      · rintro H locs ls stk ⟨k0_j36, b_k0_j36, rfl, hP, hD, hS, hl⟩
        refine lv_istore (lv' := [(4, .int k0_j36), (3, .int l3_x5), (0, .ref (hO 0)), (1, .int p1), (2, .int p2)]) hx hb dX5_lay_109 hl (by decide) rfl (fun ls hl => ?_)
        refine lv_aload_n hx hb dX5_lay_111 rfl (lv_at hl 2 rfl) ?_
        refine va_get (D := (dC, dI)) (ci := 5) (v := .ref (hQ 0)) (C := RX5) (T := TX5) (N := 19) hx hb hts iwsMX5_lay_in5 hown hK hP 0 rfl rfl 1 (by decide) (hts (.fieldLink RX5 12 "OptimaWorks$Solver" "tableau" "LOptimaWorks$Tableau;") (by decide +kernel)) (fun _ h9 => h9) rfl dX5_lay_112 ?_
        refine lv_iload hx hb dX5_lay_115 (lv_at hl 0 rfl) ?_
        refine lv_iload_n hx hb dX5_lay_117 rfl (lv_at hl 1 rfl) ?_
        refine lv_iadd hx hb dX5_lay_118 ?_
        refine lv_topi (fun y673 hy673 => ?_)
        obtain rfl : (iI (k0_j36.toInt + l3_x5.toInt)) = y673 := (hy673.trans (iI_add2 (iI_of _) (iI_of _))).symm
        refine lv_iload_n hx hb dX5_lay_119 rfl (lv_at hl 4 rfl) ?_
        refine lv_iload_n hx hb dX5_lay_120 rfl (lv_at hl 1 rfl) ?_
        have p9 : List.Perm (WO hO aO kO hM hQ hw iO_answered iO_searched iO_searchedRelaxed iO_counted fO_countedCase gO_goalNumber gO_goalScale fO_start_x5 fO_column_x5 fO_chosen ++ (WM hM aM kM iM_stands iM_variables iM_rows iM_goals iM_differents iM_cases fM_from fM_to fM_whole fM_ways iM_plainRows fM_plainRow fM_kept fM_goalOver fM_goalUnder fM_goalMax fM_different ++ (WQ hQ aQ kQ hw fQ_inside fQ_outside fQ_shut iQ_rows iQ_allRows iQ_columns ++ (WW nW hw lw kw wl wb wG)))) ((WQ hQ aQ kQ hw fQ_inside fQ_outside fQ_shut iQ_rows iQ_allRows iQ_columns ++ (WW nW hw lw kw wl wb wG)) ++ (WO hO aO kO hM hQ hw iO_answered iO_searched iO_searchedRelaxed iO_counted fO_countedCase gO_goalNumber gO_goalScale fO_start_x5 fO_column_x5 fO_chosen ++ (WM hM aM kM iM_stands iM_variables iM_rows iM_goals iM_differents iM_cases fM_from fM_to fM_whole fM_ways iM_plainRows fM_plainRow fM_kept fM_goalOver fM_goalUnder fM_goalMax fM_different))) := ((((List.Perm.append_left _ ((List.Perm.append_left _ (List.perm_append_comm)).trans (List.perm_append_comm_assoc _ _ _))).trans (List.perm_append_comm_assoc _ _ _)).trans ((List.Perm.append_left _ ((List.Perm.append_left _ (List.perm_append_comm)).trans (List.perm_append_comm_assoc _ _ _))).trans (List.perm_append_comm_assoc _ _ _))).trans (List.Perm.of_eq (by simp only [List.append_assoc])))
        have hPc := hP.mem (fun q h => p9.mem_iff.mpr (List.mem_append_left _ h))
        have hDc := (hD.perm p9).left
        have hKc := hK.sub (tys' := tQ kQ ++ (tW kw)) [20, 21, 22, 23, 24] rfl
        have hFc := freeG p9 hD hS hA
        refine va_callv (va_runV (As := [.int (iI (k0_j36.toInt + l3_x5.toInt)), .int p2, .int l3_x5]) (rest := []) ⟨hx, hb, hml, hown, hts⟩ (m_X6_begin l dC dI hQ aQ kQ hw fQ_inside fQ_outside fQ_shut iQ_rows iQ_allRows iQ_columns nW lw kw wl wb wG (iI (k0_j36.toInt + l3_x5.toInt)) p2 l3_x5 (by first | assumption | exact ⟨by omega, by omega⟩) (by first | assumption | exact ⟨by omega, by omega⟩) (by first | assumption | exact ⟨by omega, by omega⟩) (by first | assumption | omega) b_wl b_wb (iI_rng (by omega) (by omega) (by decide) (by decide)) (by first | assumption | exact ⟨by omega, by omega⟩) (by first | assumption | exact ⟨by omega, by omega⟩) (by omega) (by (try rw [iI_t (by omega) (by omega)]); omega) (mul40 (by rw [iI_t (by omega) (by omega)]; omega) (by rw [iI_t (by omega) (by omega)]; omega) (by omega) (by omega)) H.size) (cwV 3 hts gwsMX5_lay_0 rfl rfl rfl (by decide +kernel) ⟨by decide +kernel, by decide +kernel⟩) ⟨fun a U g mk q => by obtain ⟨q0, q1, qP, qK, qD⟩ := q; exact ⟨q0, q1, qP, va_K.moved (u := U) (U := U.calling g mk a) (Vm.Alike.refl U.vm) qK, qD⟩, va_recv hK hP (ci := 6) (q0 := 22) rfl rfl, fun U hU9 hW => ⟨rfl, by rw [hU9], by rw [hU9]; exact hPc, va_K.moved hW.alike hKc, hDc.weaken (fun _ _ _ _ => trivial)⟩⟩ rfl rfl hl.1 rfl (lv_room (Nat.le_of_ble_eq_true rfl)) dX5_lay_121 ⟨by decide +kernel, by decide +kernel⟩) hS (fun q _ h => hFc q h) hFc (fun u t9_ H1 locs ht hvm hw9 hB9 hz1 hk1 hS => ?_)
        obtain ⟨fQ_inside_674, fQ_outside_674, fQ_shut_674, iQ_rows_674, iQ_allRows_674, iQ_columns_674, wl_674, wb_674, wG_674⟩ := u
        try dsimp only at hw9 hB9
        obtain ⟨b_iQ_rows_674, b_iQ_allRows_674, b_iQ_columns_674, b_wl_674, b_wb_674, b_tb_674, f674_0, f674_1, f674_2⟩ := hw9
        obtain ⟨hP1, hD1⟩ := hB9
        rw [ht] at hP1
        have p8 : List.Perm (WO hO aO kO hM hQ hw iO_answered iO_searched iO_searchedRelaxed iO_counted fO_countedCase gO_goalNumber gO_goalScale fO_start_x5 fO_column_x5 fO_chosen ++ (WM hM aM kM iM_stands iM_variables iM_rows iM_goals iM_differents iM_cases fM_from fM_to fM_whole fM_ways iM_plainRows fM_plainRow fM_kept fM_goalOver fM_goalUnder fM_goalMax fM_different ++ (WQ hQ aQ kQ hw fQ_inside_674 fQ_outside_674 fQ_shut_674 iQ_rows_674 iQ_allRows_674 iQ_columns_674 ++ (WW nW hw lw kw wl_674 wb_674 wG_674)))) ((WQ hQ aQ kQ hw fQ_inside_674 fQ_outside_674 fQ_shut_674 iQ_rows_674 iQ_allRows_674 iQ_columns_674 ++ (WW nW hw lw kw wl_674 wb_674 wG_674)) ++ (WO hO aO kO hM hQ hw iO_answered iO_searched iO_searchedRelaxed iO_counted fO_countedCase gO_goalNumber gO_goalScale fO_start_x5 fO_column_x5 fO_chosen ++ (WM hM aM kM iM_stands iM_variables iM_rows iM_goals iM_differents iM_cases fM_from fM_to fM_whole fM_ways iM_plainRows fM_plainRow fM_kept fM_goalOver fM_goalUnder fM_goalMax fM_different))) := ((((List.Perm.append_left _ ((List.Perm.append_left _ (List.perm_append_comm)).trans (List.perm_append_comm_assoc _ _ _))).trans (List.perm_append_comm_assoc _ _ _)).trans ((List.Perm.append_left _ ((List.Perm.append_left _ (List.perm_append_comm)).trans (List.perm_append_comm_assoc _ _ _))).trans (List.perm_append_comm_assoc _ _ _))).trans (List.Perm.of_eq (by simp only [List.append_assoc])))
        obtain ⟨hP, hD⟩ := frameG p9 p8 hP hD hk1 hFc hP1 hD1
        generalize H1 = H at hP hS ⊢
        have hP : va_P (dC, dI) vwCl (WO hO aO kO hM hQ hw iO_answered iO_searched iO_searchedRelaxed iO_counted fO_countedCase gO_goalNumber gO_goalScale fO_start_x5 fO_column_x5 fO_chosen ++ (WM hM aM kM iM_stands iM_variables iM_rows iM_goals iM_differents iM_cases fM_from fM_to fM_whole fM_ways iM_plainRows fM_plainRow fM_kept fM_goalOver fM_goalUnder fM_goalMax fM_different ++ (WQ hQ aQ kQ hw fQ_inside_674 fQ_outside_674 fQ_shut_674 iQ_rows_674 iQ_allRows_674 iQ_columns_674 ++ (WW nW hw lw kw wl_674 wb_674 wG_674)))) H := hP
        have hD : va_D A (WO hO aO kO hM hQ hw iO_answered iO_searched iO_searchedRelaxed iO_counted fO_countedCase gO_goalNumber gO_goalScale fO_start_x5 fO_column_x5 fO_chosen ++ (WM hM aM kM iM_stands iM_variables iM_rows iM_goals iM_differents iM_cases fM_from fM_to fM_whole fM_ways iM_plainRows fM_plainRow fM_kept fM_goalOver fM_goalUnder fM_goalMax fM_different ++ (WQ hQ aQ kQ hw fQ_inside_674 fQ_outside_674 fQ_shut_674 iQ_rows_674 iQ_allRows_674 iQ_columns_674 ++ (WW nW hw lw kw wl_674 wb_674 wG_674)))) := hD
        have hb1 := f674_0
        have hb3 := f674_2
        rw [iI_t (by omega) (by omega)] at hb1
        refine lv_iconst (v := 0) hx hb dX5_lay_124 (by decide) ?_
        refine lv_istore (lv' := [(5, .int 0), (4, .int k0_j36), (3, .int l3_x5), (0, .ref (hO 0)), (1, .int p1), (2, .int p2)]) hx hb dX5_lay_125 hl (by decide) rfl (fun ls hl => ?_)
        refine lv_iconst (v := 0) hx hb dX5_lay_127 (by decide) ?_
        refine lv_istore (lv' := [(6, .int 0), (5, .int 0), (4, .int k0_j36), (3, .int l3_x5), (0, .ref (hO 0)), (1, .int p1), (2, .int p2)]) hx hb dX5_lay_128 hl (by decide) rfl (fun ls hl => ?_)
        have hl := lv_sub hl [0, 1, 2, 3, 4, 5, 6] (l' := [(6, .int 0), (5, .int 0), (4, .int k0_j36), (3, .int l3_x5), (0, .ref (hO 0)), (1, .int p1), (2, .int p2)]) rfl
        refine (fun (loop : ∀ (n9 : Nat) (wl_x130 : Nat → Int32) (wb_x130 : Nat → Int32) (wG_x130 : Nat → Nat → Int64) (l6_x130 : Int32) (l5_x130 : Int32) (H : Heap) (locs : List Loc) (ls : Array Slot), (∀ q : Nat, 0 ≤ (wl_x130 q).toInt ∧ (wl_x130 q).toInt ≤ 14) → (∀ q : Nat, 0 ≤ (wb_x130 q).toInt ∧ (wb_x130 q).toInt ≤ 1) → (0 ≤ l6_x130.toInt ∧ l6_x130.toInt ≤ 12) → (0 ≤ l5_x130.toInt ∧ l5_x130.toInt ≤ 20) → (l5_x130.toInt ≤ l6_x130.toInt) → (12 - l6_x130.toInt < ((n9 : Nat) : Int)) → va_P (dC, dI) vwCl (WO hO aO kO hM hQ hw iO_answered iO_searched iO_searchedRelaxed iO_counted fO_countedCase gO_goalNumber gO_goalScale fO_start_x5 fO_column_x5 fO_chosen ++ (WM hM aM kM iM_stands iM_variables iM_rows iM_goals iM_differents iM_cases fM_from fM_to fM_whole fM_ways iM_plainRows fM_plainRow fM_kept fM_goalOver fM_goalUnder fM_goalMax fM_different ++ (WQ hQ aQ kQ hw fQ_inside_674 fQ_outside_674 fQ_shut_674 iQ_rows_674 iQ_allRows_674 iQ_columns_674 ++ (WW nW hw lw kw wl_x130 wb_x130 wG_x130)))) H → va_D A (WO hO aO kO hM hQ hw iO_answered iO_searched iO_searchedRelaxed iO_counted fO_countedCase gO_goalNumber gO_goalScale fO_start_x5 fO_column_x5 fO_chosen ++ (WM hM aM kM iM_stands iM_variables iM_rows iM_goals iM_differents iM_cases fM_from fM_to fM_whole fM_ways iM_plainRows fM_plainRow fM_kept fM_goalOver fM_goalUnder fM_goalMax fM_different ++ (WQ hQ aQ kQ hw fQ_inside_674 fQ_outside_674 fQ_shut_674 iQ_rows_674 iQ_allRows_674 iQ_columns_674 ++ (WW nW hw lw kw wl_x130 wb_x130 wG_x130)))) → va_S A s.heap H locs → lv_has ls 7 [(6, .int l6_x130), (5, .int l5_x130), (4, .int k0_j36), (3, .int l3_x5), (0, .ref (hO 0)), (1, .int p1), (2, .int p2)] → W p l e _ s m _ below meth c H locs 0 0 _ (F0 m 130 ls [])) => loop (13) wl_674 wb_674 wG_674 0 0 _ _ _ b_wl_674 b_wb_674 (show 0 ≤ (0 : Int32).toInt ∧ (0 : Int32).toInt ≤ 12 from by decide) (show 0 ≤ (0 : Int32).toInt ∧ (0 : Int32).toInt ≤ 20 from by decide) (show (0 : Int32).toInt ≤ (0 : Int32).toInt from by decide) ((by have e9 : (0 : Int32).toInt = 0 := (by decide : (0 : Int32).toInt = 0); omega)) hP hD hS hl) ?_
        intro n9
        induction n9 with
        | zero => intro wl_x130 wb_x130 wG_x130 l6_x130 l5_x130 H locs ls b_wl_x130 b_wb_x130 b_l6_x130 b_l5_x130 hl1 hf9; exact False.elim (by omega)
        | succ n9 ihx130 =>
          intro wl_x130 wb_x130 wG_x130 l6_x130 l5_x130 H locs ls b_wl_x130 b_wb_x130 b_l6_x130 b_l5_x130 hl1 hfx130 hP hD hS hl
          refine lv_iload hx hb dX5_lay_130 (lv_at hl 0 rfl) ?_
          refine lv_aload_n hx hb dX5_lay_132 rfl (lv_at hl 4 rfl) ?_
          refine va_get (D := (dC, dI)) (ci := 5) (v := .ref (hM 0)) (C := RX5) (T := TX5) (N := 19) hx hb hts iwsMX5_lay_in5 hown hK hP 0 rfl rfl 0 (by decide) (hts (.fieldLink RX5 74 "OptimaWorks$Solver" "model" "LOptimaWorks$Model;") (by decide +kernel)) (fun _ h9 => h9) rfl dX5_lay_133 ?_
          refine va_get (D := (dC, dI)) (ci := 1) (v := .int iM_rows) (C := RX1) (T := TX1) (N := 17) hx hb hts iwsMX5_lay_in1 hown hK hP 11 rfl rfl 2 (by decide) (hts (.fieldLink RX5 131 "OptimaWorks$Model" "rows" "I") (by decide +kernel)) (fun _ h9 => h9) rfl dX5_lay_136 ?_
          refine lv_icmp_ge (tgt := 197) hx hb dX5_lay_139 (by decide) (fun c_139 => ?_) (fun c_139 => ?_)
          · have t_139 : l6_x130.toInt ≥ iM_rows.toInt := toI_ge c_139 rfl rfl
            refine lv_iconst (v := 0) hx hb dX5_lay_197 (by decide) ?_
            refine lv_istore (lv' := [(6, .int 0), (5, .int l5_x130), (4, .int k0_j36), (3, .int l3_x5), (0, .ref (hO 0)), (1, .int p1), (2, .int p2)]) hx hb dX5_lay_198 hl (by decide) rfl (fun ls hl => ?_)
            have hl := lv_sub hl [0, 1, 2, 3, 4, 5, 6] (l' := [(6, .int 0), (5, .int l5_x130), (4, .int k0_j36), (3, .int l3_x5), (0, .ref (hO 0)), (1, .int p1), (2, .int p2)]) rfl
            refine (fun (loop : ∀ (n9 : Nat) (wl_x200 : Nat → Int32) (wb_x200 : Nat → Int32) (wG_x200 : Nat → Nat → Int64) (l6_x200 : Int32) (l5_x200 : Int32) (H : Heap) (locs : List Loc) (ls : Array Slot), (∀ q : Nat, 0 ≤ (wl_x200 q).toInt ∧ (wl_x200 q).toInt ≤ 14) → (∀ q : Nat, 0 ≤ (wb_x200 q).toInt ∧ (wb_x200 q).toInt ≤ 1) → (0 ≤ l6_x200.toInt ∧ l6_x200.toInt ≤ 8) → (0 ≤ l5_x200.toInt ∧ l5_x200.toInt ≤ 20) → (l5_x200.toInt ≤ 12 + l6_x200.toInt) → (8 - l6_x200.toInt < ((n9 : Nat) : Int)) → va_P (dC, dI) vwCl (WO hO aO kO hM hQ hw iO_answered iO_searched iO_searchedRelaxed iO_counted fO_countedCase gO_goalNumber gO_goalScale fO_start_x5 fO_column_x5 fO_chosen ++ (WM hM aM kM iM_stands iM_variables iM_rows iM_goals iM_differents iM_cases fM_from fM_to fM_whole fM_ways iM_plainRows fM_plainRow fM_kept fM_goalOver fM_goalUnder fM_goalMax fM_different ++ (WQ hQ aQ kQ hw fQ_inside_674 fQ_outside_674 fQ_shut_674 iQ_rows_674 iQ_allRows_674 iQ_columns_674 ++ (WW nW hw lw kw wl_x200 wb_x200 wG_x200)))) H → va_D A (WO hO aO kO hM hQ hw iO_answered iO_searched iO_searchedRelaxed iO_counted fO_countedCase gO_goalNumber gO_goalScale fO_start_x5 fO_column_x5 fO_chosen ++ (WM hM aM kM iM_stands iM_variables iM_rows iM_goals iM_differents iM_cases fM_from fM_to fM_whole fM_ways iM_plainRows fM_plainRow fM_kept fM_goalOver fM_goalUnder fM_goalMax fM_different ++ (WQ hQ aQ kQ hw fQ_inside_674 fQ_outside_674 fQ_shut_674 iQ_rows_674 iQ_allRows_674 iQ_columns_674 ++ (WW nW hw lw kw wl_x200 wb_x200 wG_x200)))) → va_S A s.heap H locs → lv_has ls 7 [(6, .int l6_x200), (5, .int l5_x200), (4, .int k0_j36), (3, .int l3_x5), (0, .ref (hO 0)), (1, .int p1), (2, .int p2)] → W p l e _ s m _ below meth c H locs 0 0 _ (F0 m 200 ls [])) => loop (9) wl_x130 wb_x130 wG_x130 0 l5_x130 _ _ _ b_wl_x130 b_wb_x130 (show 0 ≤ (0 : Int32).toInt ∧ (0 : Int32).toInt ≤ 8 from by decide) (by first | assumption | exact ⟨by omega, by omega⟩) (show l5_x130.toInt ≤ 12 + (0 : Int32).toInt from by have h9 : (0 : Int32).toInt = 0 := (by decide); omega) ((by have e9 : (0 : Int32).toInt = 0 := (by decide : (0 : Int32).toInt = 0); omega)) hP hD hS hl) ?_
            intro n9
            induction n9 with
            | zero => intro wl_x200 wb_x200 wG_x200 l6_x200 l5_x200 H locs ls b_wl_x200 b_wb_x200 b_l6_x200 b_l5_x200 hl2 hf9; exact False.elim (by omega)
            | succ n9 ihx200 =>
              intro wl_x200 wb_x200 wG_x200 l6_x200 l5_x200 H locs ls b_wl_x200 b_wb_x200 b_l6_x200 b_l5_x200 hl2 hfx200 hP hD hS hl
              refine lv_iload hx hb dX5_lay_200 (lv_at hl 0 rfl) ?_
              refine lv_aload_n hx hb dX5_lay_202 rfl (lv_at hl 4 rfl) ?_
              refine va_get (D := (dC, dI)) (ci := 5) (v := .ref (hM 0)) (C := RX5) (T := TX5) (N := 19) hx hb hts iwsMX5_lay_in5 hown hK hP 0 rfl rfl 0 (by decide) (hts (.fieldLink RX5 74 "OptimaWorks$Solver" "model" "LOptimaWorks$Model;") (by decide +kernel)) (fun _ h9 => h9) rfl dX5_lay_203 ?_
              refine va_get (D := (dC, dI)) (ci := 1) (v := .int iM_variables) (C := RX1) (T := TX1) (N := 17) hx hb hts iwsMX5_lay_in1 hown hK hP 11 rfl rfl 1 (by decide) (hts (.fieldLink RX5 112 "OptimaWorks$Model" "variables" "I") (by decide +kernel)) (fun _ h9 => h9) rfl dX5_lay_206 ?_
              refine lv_icmp_ge (tgt := 289) hx hb dX5_lay_209 (by decide) (fun c_209 => ?_) (fun c_209 => ?_)
              · have t_209 : l6_x200.toInt ≥ iM_variables.toInt := toI_ge c_209 rfl rfl
                refine lv_iconst (v := 0) hx hb dX5_lay_289 (by decide) ?_
                refine lv_istore (lv' := [(6, .int 0), (5, .int l5_x200), (4, .int k0_j36), (3, .int l3_x5), (0, .ref (hO 0)), (1, .int p1), (2, .int p2)]) hx hb dX5_lay_290 hl (by decide) rfl (fun ls hl => ?_)
                have hl := lv_sub hl [0, 1, 2, 3, 4, 5, 6] (l' := [(6, .int 0), (5, .int l5_x200), (4, .int k0_j36), (3, .int l3_x5), (0, .ref (hO 0)), (1, .int p1), (2, .int p2)]) rfl
                refine (fun (loop : ∀ (n9 : Nat) (wl_x292 : Nat → Int32) (wb_x292 : Nat → Int32) (wG_x292 : Nat → Nat → Int64) (l6_x292 : Int32) (H : Heap) (locs : List Loc) (ls : Array Slot), (∀ q : Nat, 0 ≤ (wl_x292 q).toInt ∧ (wl_x292 q).toInt ≤ 14) → (∀ q : Nat, 0 ≤ (wb_x292 q).toInt ∧ (wb_x292 q).toInt ≤ 1) → (0 ≤ l6_x292.toInt ∧ l6_x292.toInt ≤ 3) → (3 - l6_x292.toInt < ((n9 : Nat) : Int)) → va_P (dC, dI) vwCl (WO hO aO kO hM hQ hw iO_answered iO_searched iO_searchedRelaxed iO_counted fO_countedCase gO_goalNumber gO_goalScale fO_start_x5 fO_column_x5 fO_chosen ++ (WM hM aM kM iM_stands iM_variables iM_rows iM_goals iM_differents iM_cases fM_from fM_to fM_whole fM_ways iM_plainRows fM_plainRow fM_kept fM_goalOver fM_goalUnder fM_goalMax fM_different ++ (WQ hQ aQ kQ hw fQ_inside_674 fQ_outside_674 fQ_shut_674 iQ_rows_674 iQ_allRows_674 iQ_columns_674 ++ (WW nW hw lw kw wl_x292 wb_x292 wG_x292)))) H → va_D A (WO hO aO kO hM hQ hw iO_answered iO_searched iO_searchedRelaxed iO_counted fO_countedCase gO_goalNumber gO_goalScale fO_start_x5 fO_column_x5 fO_chosen ++ (WM hM aM kM iM_stands iM_variables iM_rows iM_goals iM_differents iM_cases fM_from fM_to fM_whole fM_ways iM_plainRows fM_plainRow fM_kept fM_goalOver fM_goalUnder fM_goalMax fM_different ++ (WQ hQ aQ kQ hw fQ_inside_674 fQ_outside_674 fQ_shut_674 iQ_rows_674 iQ_allRows_674 iQ_columns_674 ++ (WW nW hw lw kw wl_x292 wb_x292 wG_x292)))) → va_S A s.heap H locs → lv_has ls 7 [(6, .int l6_x292), (5, .int l5_x200), (4, .int k0_j36), (3, .int l3_x5), (0, .ref (hO 0)), (1, .int p1), (2, .int p2)] → W p l e _ s m _ below meth c H locs 0 0 _ (F0 m 292 ls [])) => loop (4) wl_x200 wb_x200 wG_x200 0 _ _ _ b_wl_x200 b_wb_x200 (show 0 ≤ (0 : Int32).toInt ∧ (0 : Int32).toInt ≤ 3 from by decide) ((by have e9 : (0 : Int32).toInt = 0 := (by decide : (0 : Int32).toInt = 0); omega)) hP hD hS hl) ?_
                intro n9
                induction n9 with
                | zero => intro wl_x292 wb_x292 wG_x292 l6_x292 H locs ls b_wl_x292 b_wb_x292 b_l6_x292 hf9; exact False.elim (by omega)
                | succ n9 ihx292 =>
                  intro wl_x292 wb_x292 wG_x292 l6_x292 H locs ls b_wl_x292 b_wb_x292 b_l6_x292 hfx292 hP hD hS hl
                  refine lv_iload hx hb dX5_lay_292 (lv_at hl 0 rfl) ?_
                  refine lv_iload_n hx hb dX5_lay_294 rfl (lv_at hl 6 rfl) ?_
                  refine lv_icmp_ge (tgt := 315) hx hb dX5_lay_295 (by decide) (fun c_295 => ?_) (fun c_295 => ?_)
                  · have t_295 : l6_x292.toInt ≥ p2.toInt := toI_ge c_295 rfl rfl
                    refine lv_iconst (v := 1) hx hb dX5_lay_315 (by decide) ?_
                    refine W.widen (k := 0) (n := 0) (by decide +kernel) (by decide +kernel) ?_
                    exact W.zret (v := 1) hx hb hr rfl (fun t9_ ht hW => ⟨⟨(1 : Int32), (fO_start_x5, fO_column_x5, fQ_inside_674, fQ_outside_674, fQ_shut_674, iQ_rows_674, iQ_allRows_674, iQ_columns_674, wl_x292, wb_x292, wG_x292), rfl, ⟨b_fO_column_x5, (by (try dsimp only); exact (by first | assumption | exact ⟨by omega, by omega⟩)), (by (try dsimp only); exact (by first | assumption | exact ⟨by omega, by omega⟩)), (by (try dsimp only); exact (by first | assumption | exact ⟨by omega, by omega⟩)), b_wl_x292, b_wb_x292, (by (try dsimp only); exact (by first | assumption | omega)), (show 0 ≤ (1 : Int32).toInt ∧ (1 : Int32).toInt ≤ 1 from by decide), (by (try dsimp only); omega), (by (try dsimp only); omega)⟩, by rw [ht]; exact hP, hD⟩, hS.F ht⟩) hS.2.2 dX5_lay_316
                  · have t_295 : ¬ l6_x292.toInt ≥ p2.toInt := toI_nge c_295 rfl rfl
                    refine lv_aload_n hx hb dX5_lay_298 rfl (lv_at hl 4 rfl) ?_
                    refine lv_iload hx hb dX5_lay_299 (lv_at hl 1 rfl) ?_
                    refine lv_iload hx hb dX5_lay_301 (lv_at hl 0 rfl) ?_
                    refine lv_iadd hx hb dX5_lay_303 ?_
                    refine lv_topi (fun y965 hy965 => ?_)
                    obtain rfl : (iI (l5_x200.toInt + l6_x292.toInt)) = y965 := (hy965.trans (iI_add2 (iI_of _) (iI_of _))).symm
                    refine lv_iload hx hb dX5_lay_304 (lv_at hl 0 rfl) ?_
                    have hFc := allFree hD hS hA
                    refine va_callv (va_runV (As := [.int (iI (l5_x200.toInt + l6_x292.toInt)), .int l6_x292]) (rest := []) ⟨hx, hb, hml, hown, hts⟩ (m_X5_layGoal l dC dI hO aO kO hM hQ hw iO_answered iO_searched iO_searchedRelaxed iO_counted fO_countedCase gO_goalNumber gO_goalScale fO_start_x5 fO_column_x5 fO_chosen aM kM iM_stands iM_variables iM_rows iM_goals iM_differents iM_cases fM_from fM_to fM_whole fM_ways iM_plainRows fM_plainRow fM_kept fM_goalOver fM_goalUnder fM_goalMax fM_different aQ kQ fQ_inside_674 fQ_outside_674 fQ_shut_674 iQ_rows_674 iQ_allRows_674 iQ_columns_674 nW lw kw wl_x292 wb_x292 wG_x292 (iI (l5_x200.toInt + l6_x292.toInt)) l6_x292 (by first | assumption | exact ⟨by omega, by omega⟩) (by first | assumption | exact ⟨by omega, by omega⟩) (by first | assumption | exact ⟨by omega, by omega⟩) (by first | assumption | exact ⟨by omega, by omega⟩) b_fO_countedCase b_fO_column_x5 b_fO_chosen (by first | assumption | exact ⟨by omega, by omega⟩) (by first | assumption | exact ⟨by omega, by omega⟩) (by first | assumption | exact ⟨by omega, by omega⟩) (by first | assumption | exact ⟨by omega, by omega⟩) (by first | assumption | exact ⟨by omega, by omega⟩) (by first | assumption | exact ⟨by omega, by omega⟩) b_fM_ways (by first | assumption | exact ⟨by omega, by omega⟩) b_fM_plainRow (by first | assumption | omega) (by first | assumption | exact ⟨by omega, by omega⟩) (by first | assumption | exact ⟨by omega, by omega⟩) (by first | assumption | exact ⟨by omega, by omega⟩) (by first | assumption | omega) b_wl_x292 b_wb_x292 (iI_rng (by omega) (by omega) (by decide) (by decide)) (by first | assumption | exact ⟨by omega, by omega⟩) (by omega) (by omega) H.size) (cwV 2 hts gwsMX5_lay_3 rfl rfl rfl (by decide +kernel) ⟨by decide +kernel, by decide +kernel⟩) ⟨fun a U g mk q => by obtain ⟨q0, q1, qP, qK, qD⟩ := q; exact ⟨q0, q1, qP, va_K.moved (u := U) (U := U.calling g mk a) (Vm.Alike.refl U.vm) qK, qD⟩, va_recv hK hP (ci := 5) (q0 := 0) rfl rfl, fun U hU9 hW => ⟨rfl, by rw [hU9], by rw [hU9]; exact hP, va_K.moved hW.alike hK, hD.weaken (fun _ _ _ _ => trivial)⟩⟩ rfl rfl hl.1 rfl (lv_room (Nat.le_of_ble_eq_true rfl)) dX5_lay_306 ⟨by decide +kernel, by decide +kernel⟩) hS (fun q _ h => hFc q h) hFc (fun u t9_ H1 locs ht hvm hw9 hB9 hz1 hk1 hS => ?_)
                    obtain ⟨wl_966, wb_966, wG_966⟩ := u
                    try dsimp only at hw9 hB9
                    obtain ⟨b_wl_966, b_wb_966⟩ := hw9
                    obtain ⟨hP1, hD1⟩ := hB9
                    rw [ht] at hP1
                    have hP := hP1
                    have hD := hD1.weaken (fun _ q _ h => hFc q.1 h)
                    generalize H1 = H at hP hS ⊢
                    have hP : va_P (dC, dI) vwCl (WO hO aO kO hM hQ hw iO_answered iO_searched iO_searchedRelaxed iO_counted fO_countedCase gO_goalNumber gO_goalScale fO_start_x5 fO_column_x5 fO_chosen ++ (WM hM aM kM iM_stands iM_variables iM_rows iM_goals iM_differents iM_cases fM_from fM_to fM_whole fM_ways iM_plainRows fM_plainRow fM_kept fM_goalOver fM_goalUnder fM_goalMax fM_different ++ (WQ hQ aQ kQ hw fQ_inside_674 fQ_outside_674 fQ_shut_674 iQ_rows_674 iQ_allRows_674 iQ_columns_674 ++ (WW nW hw lw kw wl_966 wb_966 wG_966)))) H := hP
                    have hD : va_D A (WO hO aO kO hM hQ hw iO_answered iO_searched iO_searchedRelaxed iO_counted fO_countedCase gO_goalNumber gO_goalScale fO_start_x5 fO_column_x5 fO_chosen ++ (WM hM aM kM iM_stands iM_variables iM_rows iM_goals iM_differents iM_cases fM_from fM_to fM_whole fM_ways iM_plainRows fM_plainRow fM_kept fM_goalOver fM_goalUnder fM_goalMax fM_different ++ (WQ hQ aQ kQ hw fQ_inside_674 fQ_outside_674 fQ_shut_674 iQ_rows_674 iQ_allRows_674 iQ_columns_674 ++ (WW nW hw lw kw wl_966 wb_966 wG_966)))) := hD
                    refine lv_iinc (v := (iI (l6_x292.toInt + 1))) (lv' := [(6, .int (iI (l6_x292.toInt + 1))), (5, .int l5_x200), (4, .int k0_j36), (3, .int l3_x5), (0, .ref (hO 0)), (1, .int p1), (2, .int p2)]) hx hb dX5_lay_309 hl (k := 0) rfl (iI_add2 (iI_of _) (by decide : (1 : Int32) = iI 1)) (by decide) rfl (fun ls hl => ?_)
                    refine lv_goto (tgt := 292) hx hb dX5_lay_312 (by decide) ?_
                    have hl := lv_sub hl [0, 1, 2, 3, 4, 5, 6] (l' := [(6, .int (iI (l6_x292.toInt + 1))), (5, .int l5_x200), (4, .int k0_j36), (3, .int l3_x5), (0, .ref (hO 0)), (1, .int p1), (2, .int p2)]) rfl
                    exact ihx292 wl_966 wb_966 wG_966 (iI (l6_x292.toInt + 1)) _ _ _ b_wl_966 b_wb_966 (iI_rng (by omega) (by omega) (by decide) (by decide)) (by have e9 : ((iI (l6_x292.toInt + 1))).toInt = (l6_x292.toInt + 1) := (iI_t (by omega) (by omega)); omega) hP hD hS hl
              · have t_209 : ¬ l6_x200.toInt ≥ iM_variables.toInt := toI_nge c_209 rfl rfl
                refine lv_aload_n hx hb dX5_lay_212 rfl (lv_at hl 4 rfl) ?_
                refine va_get (D := (dC, dI)) (ci := 5) (v := .ref (aO 4)) (C := RX5) (T := TX5) (N := 19) hx hb hts iwsMX5_lay_in5 hown hK hP 0 rfl rfl 10 (by decide) (hts (.fieldLink RX5 38 "OptimaWorks$Solver" "column" "[I") (by decide +kernel)) (fun _ h9 => h9) rfl dX5_lay_213 ?_
                refine lv_iload hx hb dX5_lay_216 (lv_at hl 0 rfl) ?_
                refine va_iald (cA := kO 4) (n := 8) (f := fO_column_x5) hx hb hK hP 5 4 rfl rfl (vp_in_iff.mpr ⟨by omega, by omega⟩) dX5_lay_218 ?_
                refine lv_topi (fun v967 hv967 => ?_)
                have b_v967 : (-1) ≤ v967.toInt ∧ v967.toInt ≤ 8 := by rw [hv967]; exact b_fO_column_x5 _
                have b1_v967 : v967 = fO_column_x5 (l6_x200).toNatClampNeg := hv967
                clear hv967
                refine lv_iconst (v := (-1)) hx hb dX5_lay_219 (by decide) ?_
                refine lv_icmp_eq (tgt := 283) hx hb dX5_lay_220 (by decide) (fun c_220 => ?_) (fun c_220 => ?_)
                · have t_220 : v967.toInt = (-1) := toI_eq c_220 rfl (by decide : ((-1) : Int32).toInt = (-1))
                  refine lv_iinc (v := (iI (l6_x200.toInt + 1))) (lv' := [(6, .int (iI (l6_x200.toInt + 1))), (5, .int l5_x200), (4, .int k0_j36), (3, .int l3_x5), (0, .ref (hO 0)), (1, .int p1), (2, .int p2)]) hx hb dX5_lay_283 hl (k := 0) rfl (iI_add2 (iI_of _) (by decide : (1 : Int32) = iI 1)) (by decide) rfl (fun ls hl => ?_)
                  refine lv_goto (tgt := 200) hx hb dX5_lay_286 (by decide) ?_
                  have hl := lv_sub hl [0, 1, 2, 3, 4, 5, 6] (l' := [(6, .int (iI (l6_x200.toInt + 1))), (5, .int l5_x200), (4, .int k0_j36), (3, .int l3_x5), (0, .ref (hO 0)), (1, .int p1), (2, .int p2)]) rfl
                  exact ihx200 wl_x200 wb_x200 wG_x200 (iI (l6_x200.toInt + 1)) l5_x200 _ _ _ b_wl_x200 b_wb_x200 (iI_rng (by omega) (by omega) (by decide) (by decide)) (by first | assumption | exact ⟨by omega, by omega⟩) (show l5_x200.toInt ≤ 12 + (iI (l6_x200.toInt + 1)).toInt from by (try rw [iI_t (E := l3_x5.toInt + 1) (by omega) (by omega)]); (try rw [iI_t (E := l4_x5.toInt + 1) (by omega) (by omega)]); (try rw [iI_t (E := l5_x130.toInt + 1) (by omega) (by omega)]); (try rw [iI_t (E := l6_x130.toInt + 1) (by omega) (by omega)]); (try rw [iI_t (E := l5_x200.toInt + 1) (by omega) (by omega)]); (try rw [iI_t (E := l6_x200.toInt + 1) (by omega) (by omega)]); omega) (by have e9 : ((iI (l6_x200.toInt + 1))).toInt = (l6_x200.toInt + 1) := (iI_t (by omega) (by omega)); omega) hP hD hS hl
                · have t_220 : ¬ v967.toInt = (-1) := toI_neq c_220 rfl (by decide : ((-1) : Int32).toInt = (-1))
                  refine lv_aload_n hx hb dX5_lay_223 rfl (lv_at hl 4 rfl) ?_
                  refine va_get (D := (dC, dI)) (ci := 5) (v := .ref (hQ 0)) (C := RX5) (T := TX5) (N := 19) hx hb hts iwsMX5_lay_in5 hown hK hP 0 rfl rfl 1 (by decide) (hts (.fieldLink RX5 12 "OptimaWorks$Solver" "tableau" "LOptimaWorks$Tableau;") (by decide +kernel)) (fun _ h9 => h9) rfl dX5_lay_224 ?_
                  refine lv_iload hx hb dX5_lay_227 (lv_at hl 1 rfl) ?_
                  refine lv_iconst (v := 0) hx hb dX5_lay_229 (by decide) ?_
                  have p9 : List.Perm (WO hO aO kO hM hQ hw iO_answered iO_searched iO_searchedRelaxed iO_counted fO_countedCase gO_goalNumber gO_goalScale fO_start_x5 fO_column_x5 fO_chosen ++ (WM hM aM kM iM_stands iM_variables iM_rows iM_goals iM_differents iM_cases fM_from fM_to fM_whole fM_ways iM_plainRows fM_plainRow fM_kept fM_goalOver fM_goalUnder fM_goalMax fM_different ++ (WQ hQ aQ kQ hw fQ_inside_674 fQ_outside_674 fQ_shut_674 iQ_rows_674 iQ_allRows_674 iQ_columns_674 ++ (WW nW hw lw kw wl_x200 wb_x200 wG_x200)))) ((WQ hQ aQ kQ hw fQ_inside_674 fQ_outside_674 fQ_shut_674 iQ_rows_674 iQ_allRows_674 iQ_columns_674 ++ (WW nW hw lw kw wl_x200 wb_x200 wG_x200)) ++ (WO hO aO kO hM hQ hw iO_answered iO_searched iO_searchedRelaxed iO_counted fO_countedCase gO_goalNumber gO_goalScale fO_start_x5 fO_column_x5 fO_chosen ++ (WM hM aM kM iM_stands iM_variables iM_rows iM_goals iM_differents iM_cases fM_from fM_to fM_whole fM_ways iM_plainRows fM_plainRow fM_kept fM_goalOver fM_goalUnder fM_goalMax fM_different))) := ((((List.Perm.append_left _ ((List.Perm.append_left _ (List.perm_append_comm)).trans (List.perm_append_comm_assoc _ _ _))).trans (List.perm_append_comm_assoc _ _ _)).trans ((List.Perm.append_left _ ((List.Perm.append_left _ (List.perm_append_comm)).trans (List.perm_append_comm_assoc _ _ _))).trans (List.perm_append_comm_assoc _ _ _))).trans (List.Perm.of_eq (by simp only [List.append_assoc])))
                  have hPc := hP.mem (fun q h => p9.mem_iff.mpr (List.mem_append_left _ h))
                  have hDc := (hD.perm p9).left
                  have hKc := hK.sub (tys' := tQ kQ ++ (tW kw)) [20, 21, 22, 23, 24] rfl
                  have hFc := freeG p9 hD hS hA
                  refine va_callr (va_runV (As := [.int l5_x200, .int 0]) (rest := []) ⟨hx, hb, hml, hown, hts⟩ (m_X6_cellAt l dC dI hQ aQ kQ hw fQ_inside_674 fQ_outside_674 fQ_shut_674 iQ_rows_674 iQ_allRows_674 iQ_columns_674 nW lw kw wl_x200 wb_x200 wG_x200 l5_x200 0 (by first | assumption | exact ⟨by omega, by omega⟩) (by first | assumption | exact ⟨by omega, by omega⟩) (by first | assumption | exact ⟨by omega, by omega⟩) (by first | assumption | omega) b_wl_x200 b_wb_x200 (by first | assumption | exact ⟨by omega, by omega⟩) (show 0 ≤ (0 : Int32).toInt ∧ (0 : Int32).toInt ≤ 40 from by decide) (by omega) ((by have h9 := ix_small (i := l5_x200.toInt) (j := 0) (c := iQ_columns_674.toInt) (by omega) (by omega) (by omega) (by omega) (by omega) (by omega); have h8 : (0 : Int32).toInt = 0 := (by decide); rw [h8]; exact h9)) H.size) (cwV 2 hts gwsMX5_lay_1 rfl rfl rfl (by decide +kernel) ⟨by decide +kernel, by decide +kernel⟩) ⟨fun a U g mk q => by obtain ⟨q0, q1, qP, qK, qD⟩ := q; exact ⟨q0, q1, qP, va_K.moved (u := U) (U := U.calling g mk a) (Vm.Alike.refl U.vm) qK, qD⟩, va_recv hK hP (ci := 6) (q0 := 22) rfl rfl, fun U hU9 hW => ⟨rfl, by rw [hU9], by rw [hU9]; exact hPc, va_K.moved hW.alike hKc, hDc.weaken (fun _ _ _ _ => trivial)⟩⟩ rfl rfl hl.1 rfl (lv_room (Nat.le_of_ble_eq_true rfl)) dX5_lay_230 ⟨by decide +kernel, by decide +kernel⟩) hS (fun q _ h => hFc q h) hFc (fun u ra968 t9_ H1 locs ht hvm hw9 hB9 hz1 hk1 hS => ?_)
                  obtain ⟨kR_968, hwit968⟩ : ∃ w9, w9 = u := ⟨u, rfl⟩
                  subst hwit968
                  obtain ⟨hra, hB9⟩ := hB9
                  subst hra
                  have f968_0 := hw9
                  try dsimp only at f968_0
                  obtain ⟨hP1, hD1⟩ := hB9
                  rw [ht] at hP1
                  have p8 : List.Perm (WO hO aO kO hM hQ hw iO_answered iO_searched iO_searchedRelaxed iO_counted fO_countedCase gO_goalNumber gO_goalScale fO_start_x5 fO_column_x5 fO_chosen ++ (WM hM aM kM iM_stands iM_variables iM_rows iM_goals iM_differents iM_cases fM_from fM_to fM_whole fM_ways iM_plainRows fM_plainRow fM_kept fM_goalOver fM_goalUnder fM_goalMax fM_different ++ (WQ hQ aQ kQ hw fQ_inside_674 fQ_outside_674 fQ_shut_674 iQ_rows_674 iQ_allRows_674 iQ_columns_674 ++ (WW nW hw lw kw wl_x200 wb_x200 wG_x200)))) ((WQ hQ aQ kQ hw fQ_inside_674 fQ_outside_674 fQ_shut_674 iQ_rows_674 iQ_allRows_674 iQ_columns_674 ++ (WW nW hw lw kw wl_x200 wb_x200 wG_x200)) ++ (WO hO aO kO hM hQ hw iO_answered iO_searched iO_searchedRelaxed iO_counted fO_countedCase gO_goalNumber gO_goalScale fO_start_x5 fO_column_x5 fO_chosen ++ (WM hM aM kM iM_stands iM_variables iM_rows iM_goals iM_differents iM_cases fM_from fM_to fM_whole fM_ways iM_plainRows fM_plainRow fM_kept fM_goalOver fM_goalUnder fM_goalMax fM_different))) := ((((List.Perm.append_left _ ((List.Perm.append_left _ (List.perm_append_comm)).trans (List.perm_append_comm_assoc _ _ _))).trans (List.perm_append_comm_assoc _ _ _)).trans ((List.Perm.append_left _ ((List.Perm.append_left _ (List.perm_append_comm)).trans (List.perm_append_comm_assoc _ _ _))).trans (List.perm_append_comm_assoc _ _ _))).trans (List.Perm.of_eq (by simp only [List.append_assoc])))
                  obtain ⟨hP, hD⟩ := frameG p9 p8 hP hD hk1 hFc hP1 hD1
                  generalize H1 = H at hP hS ⊢
                  have hP : va_P (dC, dI) vwCl (WO hO aO kO hM hQ hw iO_answered iO_searched iO_searchedRelaxed iO_counted fO_countedCase gO_goalNumber gO_goalScale fO_start_x5 fO_column_x5 fO_chosen ++ (WM hM aM kM iM_stands iM_variables iM_rows iM_goals iM_differents iM_cases fM_from fM_to fM_whole fM_ways iM_plainRows fM_plainRow fM_kept fM_goalOver fM_goalUnder fM_goalMax fM_different ++ (WQ hQ aQ kQ hw fQ_inside_674 fQ_outside_674 fQ_shut_674 iQ_rows_674 iQ_allRows_674 iQ_columns_674 ++ (WW nW hw lw kw wl_x200 wb_x200 wG_x200)))) H := hP
                  have hD : va_D A (WO hO aO kO hM hQ hw iO_answered iO_searched iO_searchedRelaxed iO_counted fO_countedCase gO_goalNumber gO_goalScale fO_start_x5 fO_column_x5 fO_chosen ++ (WM hM aM kM iM_stands iM_variables iM_rows iM_goals iM_differents iM_cases fM_from fM_to fM_whole fM_ways iM_plainRows fM_plainRow fM_kept fM_goalOver fM_goalUnder fM_goalMax fM_different ++ (WQ hQ aQ kQ hw fQ_inside_674 fQ_outside_674 fQ_shut_674 iQ_rows_674 iQ_allRows_674 iQ_columns_674 ++ (WW nW hw lw kw wl_x200 wb_x200 wG_x200)))) := hD
                  refine lv_aload_n hx hb dX5_lay_233 rfl (lv_at hl 4 rfl) ?_
                  refine va_get (D := (dC, dI)) (ci := 5) (v := .ref (hM 0)) (C := RX5) (T := TX5) (N := 19) hx hb hts iwsMX5_lay_in5 hown hK hP 0 rfl rfl 0 (by decide) (hts (.fieldLink RX5 74 "OptimaWorks$Solver" "model" "LOptimaWorks$Model;") (by decide +kernel)) (fun _ h9 => h9) rfl dX5_lay_234 ?_
                  refine va_get (D := (dC, dI)) (ci := 1) (v := .ref (aM 1)) (C := RX1) (T := TX1) (N := 17) hx hb hts iwsMX5_lay_in1 hown hK hP 11 rfl rfl 7 (by decide) (hts (.fieldLink RX5 181 "OptimaWorks$Model" "to" "[I") (by decide +kernel)) (fun _ h9 => h9) rfl dX5_lay_237 ?_
                  refine lv_iload hx hb dX5_lay_240 (lv_at hl 0 rfl) ?_
                  refine va_iald (cA := kM 1) (n := 8) (f := fM_to) hx hb hK hP 13 11 rfl rfl (vp_in_iff.mpr ⟨by omega, by omega⟩) dX5_lay_242 ?_
                  refine lv_topi (fun v969 hv969 => ?_)
                  clear hv969
                  refine lv_aload_n hx hb dX5_lay_243 rfl (lv_at hl 4 rfl) ?_
                  refine va_get (D := (dC, dI)) (ci := 5) (v := .ref (hM 0)) (C := RX5) (T := TX5) (N := 19) hx hb hts iwsMX5_lay_in5 hown hK hP 0 rfl rfl 0 (by decide) (hts (.fieldLink RX5 74 "OptimaWorks$Solver" "model" "LOptimaWorks$Model;") (by decide +kernel)) (fun _ h9 => h9) rfl dX5_lay_244 ?_
                  refine va_get (D := (dC, dI)) (ci := 1) (v := .ref (aM 0)) (C := RX1) (T := TX1) (N := 17) hx hb hts iwsMX5_lay_in1 hown hK hP 11 rfl rfl 6 (by decide) (hts (.fieldLink RX5 150 "OptimaWorks$Model" "from" "[I") (by decide +kernel)) (fun _ h9 => h9) rfl dX5_lay_247 ?_
                  refine lv_iload hx hb dX5_lay_250 (lv_at hl 0 rfl) ?_
                  refine va_iald (cA := kM 0) (n := 8) (f := fM_from) hx hb hK hP 12 10 rfl rfl (vp_in_iff.mpr ⟨by omega, by omega⟩) dX5_lay_252 ?_
                  refine lv_topi (fun v970 hv970 => ?_)
                  clear hv970
                  refine lv_isub hx hb dX5_lay_253 ?_
                  refine lv_topi (fun y971 hy971 => ?_)
                  obtain rfl : (iI (v969.toInt - v970.toInt)) = y971 := (hy971.trans (iI_sub2 (iI_of _) (iI_of _))).symm
                  refine lv_i2l hx hb dX5_lay_254 rfl ?_
                  refine lv_topl (fun v972 hv972 => ?_)
                  clear hv972
                  have p9 : List.Perm (WO hO aO kO hM hQ hw iO_answered iO_searched iO_searchedRelaxed iO_counted fO_countedCase gO_goalNumber gO_goalScale fO_start_x5 fO_column_x5 fO_chosen ++ (WM hM aM kM iM_stands iM_variables iM_rows iM_goals iM_differents iM_cases fM_from fM_to fM_whole fM_ways iM_plainRows fM_plainRow fM_kept fM_goalOver fM_goalUnder fM_goalMax fM_different ++ (WQ hQ aQ kQ hw fQ_inside_674 fQ_outside_674 fQ_shut_674 iQ_rows_674 iQ_allRows_674 iQ_columns_674 ++ (WW nW hw lw kw wl_x200 wb_x200 wG_x200)))) ((WW nW hw lw kw wl_x200 wb_x200 wG_x200) ++ (WO hO aO kO hM hQ hw iO_answered iO_searched iO_searchedRelaxed iO_counted fO_countedCase gO_goalNumber gO_goalScale fO_start_x5 fO_column_x5 fO_chosen ++ (WM hM aM kM iM_stands iM_variables iM_rows iM_goals iM_differents iM_cases fM_from fM_to fM_whole fM_ways iM_plainRows fM_plainRow fM_kept fM_goalOver fM_goalUnder fM_goalMax fM_different ++ (WQ hQ aQ kQ hw fQ_inside_674 fQ_outside_674 fQ_shut_674 iQ_rows_674 iQ_allRows_674 iQ_columns_674)))) := ((List.Perm.append_left _ ((List.Perm.append_left _ (List.perm_append_comm)).trans (List.perm_append_comm_assoc _ _ _))).trans (List.perm_append_comm_assoc _ _ _))
                  have hPc := hP.mem (fun q h => p9.mem_iff.mpr (List.mem_append_left _ h))
                  have hDc := (hD.perm p9).left
                  have hKc := hK.sub (tys' := tW kw) [24] rfl
                  have hFc := freeG p9 hD hS hA
                  refine va_callv (va_runV (As := [.long v972]) (rest := []) ⟨hx, hb, hml, hown, hts⟩ (m_X8_setLong l dC dI nW hw lw kw wl_x200 wb_x200 wG_x200 kR_968 v972 b_wl_x200 b_wb_x200 (by first | assumption | omega | (rw [iI_t (by omega) (by omega)]; omega) | decide) H.size) (cwV 1 hts gwsMX5_lay_2 rfl rfl rfl (by decide +kernel) ⟨by decide +kernel, by decide +kernel⟩) ⟨fun a U g mk q => by obtain ⟨q0, q1, qP, qK, qD⟩ := q; exact ⟨q0, q1, qP, va_K.moved (u := U) (U := U.calling g mk a) (Vm.Alike.refl U.vm) qK, qD⟩, va_recv hK hP (ci := 8) (q0 := 11 + (11 + (5 + (kR_968)))) rfl (apR rfl (apR rfl (apR rfl (WW_o (by omega))))), fun U hU9 hW => ⟨rfl, by rw [hU9], by rw [hU9]; exact hPc, va_K.moved hW.alike hKc, hDc.weaken (fun _ _ _ _ => trivial)⟩⟩ rfl rfl hl.1 rfl (lv_room (Nat.le_of_ble_eq_true rfl)) dX5_lay_255 ⟨by decide +kernel, by decide +kernel⟩) hS (fun q _ h => hFc q h) hFc (fun u t9_ H1 locs ht hvm hw9 hB9 hz1 hk1 hS => ?_)
                  obtain ⟨wl_973, wb_973, wG_973⟩ := u
                  try dsimp only at hw9 hB9
                  obtain ⟨b_wl_973, b_wb_973⟩ := hw9
                  obtain ⟨hP1, hD1⟩ := hB9
                  rw [ht] at hP1
                  have p8 : List.Perm (WO hO aO kO hM hQ hw iO_answered iO_searched iO_searchedRelaxed iO_counted fO_countedCase gO_goalNumber gO_goalScale fO_start_x5 fO_column_x5 fO_chosen ++ (WM hM aM kM iM_stands iM_variables iM_rows iM_goals iM_differents iM_cases fM_from fM_to fM_whole fM_ways iM_plainRows fM_plainRow fM_kept fM_goalOver fM_goalUnder fM_goalMax fM_different ++ (WQ hQ aQ kQ hw fQ_inside_674 fQ_outside_674 fQ_shut_674 iQ_rows_674 iQ_allRows_674 iQ_columns_674 ++ (WW nW hw lw kw wl_973 wb_973 wG_973)))) ((WW nW hw lw kw wl_973 wb_973 wG_973) ++ (WO hO aO kO hM hQ hw iO_answered iO_searched iO_searchedRelaxed iO_counted fO_countedCase gO_goalNumber gO_goalScale fO_start_x5 fO_column_x5 fO_chosen ++ (WM hM aM kM iM_stands iM_variables iM_rows iM_goals iM_differents iM_cases fM_from fM_to fM_whole fM_ways iM_plainRows fM_plainRow fM_kept fM_goalOver fM_goalUnder fM_goalMax fM_different ++ (WQ hQ aQ kQ hw fQ_inside_674 fQ_outside_674 fQ_shut_674 iQ_rows_674 iQ_allRows_674 iQ_columns_674)))) := ((List.Perm.append_left _ ((List.Perm.append_left _ (List.perm_append_comm)).trans (List.perm_append_comm_assoc _ _ _))).trans (List.perm_append_comm_assoc _ _ _))
                  obtain ⟨hP, hD⟩ := frameG p9 p8 hP hD hk1 hFc hP1 hD1
                  generalize H1 = H at hP hS ⊢
                  have hP : va_P (dC, dI) vwCl (WO hO aO kO hM hQ hw iO_answered iO_searched iO_searchedRelaxed iO_counted fO_countedCase gO_goalNumber gO_goalScale fO_start_x5 fO_column_x5 fO_chosen ++ (WM hM aM kM iM_stands iM_variables iM_rows iM_goals iM_differents iM_cases fM_from fM_to fM_whole fM_ways iM_plainRows fM_plainRow fM_kept fM_goalOver fM_goalUnder fM_goalMax fM_different ++ (WQ hQ aQ kQ hw fQ_inside_674 fQ_outside_674 fQ_shut_674 iQ_rows_674 iQ_allRows_674 iQ_columns_674 ++ (WW nW hw lw kw wl_973 wb_973 wG_973)))) H := hP
                  have hD : va_D A (WO hO aO kO hM hQ hw iO_answered iO_searched iO_searchedRelaxed iO_counted fO_countedCase gO_goalNumber gO_goalScale fO_start_x5 fO_column_x5 fO_chosen ++ (WM hM aM kM iM_stands iM_variables iM_rows iM_goals iM_differents iM_cases fM_from fM_to fM_whole fM_ways iM_plainRows fM_plainRow fM_kept fM_goalOver fM_goalUnder fM_goalMax fM_different ++ (WQ hQ aQ kQ hw fQ_inside_674 fQ_outside_674 fQ_shut_674 iQ_rows_674 iQ_allRows_674 iQ_columns_674 ++ (WW nW hw lw kw wl_973 wb_973 wG_973)))) := hD
                  refine lv_aload_n hx hb dX5_lay_258 rfl (lv_at hl 4 rfl) ?_
                  refine va_get (D := (dC, dI)) (ci := 5) (v := .ref (hQ 0)) (C := RX5) (T := TX5) (N := 19) hx hb hts iwsMX5_lay_in5 hown hK hP 0 rfl rfl 1 (by decide) (hts (.fieldLink RX5 12 "OptimaWorks$Solver" "tableau" "LOptimaWorks$Tableau;") (by decide +kernel)) (fun _ h9 => h9) rfl dX5_lay_259 ?_
                  refine lv_iload hx hb dX5_lay_262 (lv_at hl 1 rfl) ?_
                  refine lv_aload_n hx hb dX5_lay_264 rfl (lv_at hl 4 rfl) ?_
                  refine va_get (D := (dC, dI)) (ci := 5) (v := .ref (aO 4)) (C := RX5) (T := TX5) (N := 19) hx hb hts iwsMX5_lay_in5 hown hK hP 0 rfl rfl 10 (by decide) (hts (.fieldLink RX5 38 "OptimaWorks$Solver" "column" "[I") (by decide +kernel)) (fun _ h9 => h9) rfl dX5_lay_265 ?_
                  refine lv_iload hx hb dX5_lay_268 (lv_at hl 0 rfl) ?_
                  refine va_iald (cA := kO 4) (n := 8) (f := fO_column_x5) hx hb hK hP 5 4 rfl rfl (vp_in_iff.mpr ⟨by omega, by omega⟩) dX5_lay_270 ?_
                  refine lv_topi (fun v974 hv974 => ?_)
                  have b_v974 : (-1) ≤ v974.toInt ∧ v974.toInt ≤ 8 := by rw [hv974]; exact b_fO_column_x5 _
                  have b1_v974 : v974 = fO_column_x5 (l6_x200).toNatClampNeg := hv974
                  have b2_v974 : v974.toInt = v967.toInt := by rw [hv974]; exact (congrArg Int32.toInt b1_v967).symm
                  clear hv974
                  have p9 : List.Perm (WO hO aO kO hM hQ hw iO_answered iO_searched iO_searchedRelaxed iO_counted fO_countedCase gO_goalNumber gO_goalScale fO_start_x5 fO_column_x5 fO_chosen ++ (WM hM aM kM iM_stands iM_variables iM_rows iM_goals iM_differents iM_cases fM_from fM_to fM_whole fM_ways iM_plainRows fM_plainRow fM_kept fM_goalOver fM_goalUnder fM_goalMax fM_different ++ (WQ hQ aQ kQ hw fQ_inside_674 fQ_outside_674 fQ_shut_674 iQ_rows_674 iQ_allRows_674 iQ_columns_674 ++ (WW nW hw lw kw wl_973 wb_973 wG_973)))) ((WQ hQ aQ kQ hw fQ_inside_674 fQ_outside_674 fQ_shut_674 iQ_rows_674 iQ_allRows_674 iQ_columns_674 ++ (WW nW hw lw kw wl_973 wb_973 wG_973)) ++ (WO hO aO kO hM hQ hw iO_answered iO_searched iO_searchedRelaxed iO_counted fO_countedCase gO_goalNumber gO_goalScale fO_start_x5 fO_column_x5 fO_chosen ++ (WM hM aM kM iM_stands iM_variables iM_rows iM_goals iM_differents iM_cases fM_from fM_to fM_whole fM_ways iM_plainRows fM_plainRow fM_kept fM_goalOver fM_goalUnder fM_goalMax fM_different))) := ((((List.Perm.append_left _ ((List.Perm.append_left _ (List.perm_append_comm)).trans (List.perm_append_comm_assoc _ _ _))).trans (List.perm_append_comm_assoc _ _ _)).trans ((List.Perm.append_left _ ((List.Perm.append_left _ (List.perm_append_comm)).trans (List.perm_append_comm_assoc _ _ _))).trans (List.perm_append_comm_assoc _ _ _))).trans (List.Perm.of_eq (by simp only [List.append_assoc])))
                  have hPc := hP.mem (fun q h => p9.mem_iff.mpr (List.mem_append_left _ h))
                  have hDc := (hD.perm p9).left
                  have hKc := hK.sub (tys' := tQ kQ ++ (tW kw)) [20, 21, 22, 23, 24] rfl
                  have hFc := freeG p9 hD hS hA
                  refine va_callr (va_runV (As := [.int l5_x200, .int v974]) (rest := []) ⟨hx, hb, hml, hown, hts⟩ (m_X6_cellAt l dC dI hQ aQ kQ hw fQ_inside_674 fQ_outside_674 fQ_shut_674 iQ_rows_674 iQ_allRows_674 iQ_columns_674 nW lw kw wl_973 wb_973 wG_973 l5_x200 v974 (by first | assumption | exact ⟨by omega, by omega⟩) (by first | assumption | exact ⟨by omega, by omega⟩) (by first | assumption | exact ⟨by omega, by omega⟩) (by first | assumption | omega) b_wl_973 b_wb_973 (by first | assumption | exact ⟨by omega, by omega⟩) (by first | assumption | exact ⟨by omega, by omega⟩) (by omega) ((by have h9 := ix_small (i := l5_x200.toInt) (j := v974.toInt) (c := iQ_columns_674.toInt) (by omega) (by omega) (by omega) (by omega) (by omega) (by omega); exact h9)) H.size) (cwV 2 hts gwsMX5_lay_1 rfl rfl rfl (by decide +kernel) ⟨by decide +kernel, by decide +kernel⟩) ⟨fun a U g mk q => by obtain ⟨q0, q1, qP, qK, qD⟩ := q; exact ⟨q0, q1, qP, va_K.moved (u := U) (U := U.calling g mk a) (Vm.Alike.refl U.vm) qK, qD⟩, va_recv hK hP (ci := 6) (q0 := 22) rfl rfl, fun U hU9 hW => ⟨rfl, by rw [hU9], by rw [hU9]; exact hPc, va_K.moved hW.alike hKc, hDc.weaken (fun _ _ _ _ => trivial)⟩⟩ rfl rfl hl.1 rfl (lv_room (Nat.le_of_ble_eq_true rfl)) dX5_lay_271 ⟨by decide +kernel, by decide +kernel⟩) hS (fun q _ h => hFc q h) hFc (fun u ra975 t9_ H1 locs ht hvm hw9 hB9 hz1 hk1 hS => ?_)
                  obtain ⟨kR_975, hwit975⟩ : ∃ w9, w9 = u := ⟨u, rfl⟩
                  subst hwit975
                  obtain ⟨hra, hB9⟩ := hB9
                  subst hra
                  have f975_0 := hw9
                  try dsimp only at f975_0
                  obtain ⟨hP1, hD1⟩ := hB9
                  rw [ht] at hP1
                  have p8 : List.Perm (WO hO aO kO hM hQ hw iO_answered iO_searched iO_searchedRelaxed iO_counted fO_countedCase gO_goalNumber gO_goalScale fO_start_x5 fO_column_x5 fO_chosen ++ (WM hM aM kM iM_stands iM_variables iM_rows iM_goals iM_differents iM_cases fM_from fM_to fM_whole fM_ways iM_plainRows fM_plainRow fM_kept fM_goalOver fM_goalUnder fM_goalMax fM_different ++ (WQ hQ aQ kQ hw fQ_inside_674 fQ_outside_674 fQ_shut_674 iQ_rows_674 iQ_allRows_674 iQ_columns_674 ++ (WW nW hw lw kw wl_973 wb_973 wG_973)))) ((WQ hQ aQ kQ hw fQ_inside_674 fQ_outside_674 fQ_shut_674 iQ_rows_674 iQ_allRows_674 iQ_columns_674 ++ (WW nW hw lw kw wl_973 wb_973 wG_973)) ++ (WO hO aO kO hM hQ hw iO_answered iO_searched iO_searchedRelaxed iO_counted fO_countedCase gO_goalNumber gO_goalScale fO_start_x5 fO_column_x5 fO_chosen ++ (WM hM aM kM iM_stands iM_variables iM_rows iM_goals iM_differents iM_cases fM_from fM_to fM_whole fM_ways iM_plainRows fM_plainRow fM_kept fM_goalOver fM_goalUnder fM_goalMax fM_different))) := ((((List.Perm.append_left _ ((List.Perm.append_left _ (List.perm_append_comm)).trans (List.perm_append_comm_assoc _ _ _))).trans (List.perm_append_comm_assoc _ _ _)).trans ((List.Perm.append_left _ ((List.Perm.append_left _ (List.perm_append_comm)).trans (List.perm_append_comm_assoc _ _ _))).trans (List.perm_append_comm_assoc _ _ _))).trans (List.Perm.of_eq (by simp only [List.append_assoc])))
                  obtain ⟨hP, hD⟩ := frameG p9 p8 hP hD hk1 hFc hP1 hD1
                  generalize H1 = H at hP hS ⊢
                  have hP : va_P (dC, dI) vwCl (WO hO aO kO hM hQ hw iO_answered iO_searched iO_searchedRelaxed iO_counted fO_countedCase gO_goalNumber gO_goalScale fO_start_x5 fO_column_x5 fO_chosen ++ (WM hM aM kM iM_stands iM_variables iM_rows iM_goals iM_differents iM_cases fM_from fM_to fM_whole fM_ways iM_plainRows fM_plainRow fM_kept fM_goalOver fM_goalUnder fM_goalMax fM_different ++ (WQ hQ aQ kQ hw fQ_inside_674 fQ_outside_674 fQ_shut_674 iQ_rows_674 iQ_allRows_674 iQ_columns_674 ++ (WW nW hw lw kw wl_973 wb_973 wG_973)))) H := hP
                  have hD : va_D A (WO hO aO kO hM hQ hw iO_answered iO_searched iO_searchedRelaxed iO_counted fO_countedCase gO_goalNumber gO_goalScale fO_start_x5 fO_column_x5 fO_chosen ++ (WM hM aM kM iM_stands iM_variables iM_rows iM_goals iM_differents iM_cases fM_from fM_to fM_whole fM_ways iM_plainRows fM_plainRow fM_kept fM_goalOver fM_goalUnder fM_goalMax fM_different ++ (WQ hQ aQ kQ hw fQ_inside_674 fQ_outside_674 fQ_shut_674 iQ_rows_674 iQ_allRows_674 iQ_columns_674 ++ (WW nW hw lw kw wl_973 wb_973 wG_973)))) := hD
                  refine lv_ldc2 (v := (-1)) hx hb hown (hts (.constantLong RX5 188 (-1)) (by decide +kernel)) dX5_lay_274 ?_
                  have p9 : List.Perm (WO hO aO kO hM hQ hw iO_answered iO_searched iO_searchedRelaxed iO_counted fO_countedCase gO_goalNumber gO_goalScale fO_start_x5 fO_column_x5 fO_chosen ++ (WM hM aM kM iM_stands iM_variables iM_rows iM_goals iM_differents iM_cases fM_from fM_to fM_whole fM_ways iM_plainRows fM_plainRow fM_kept fM_goalOver fM_goalUnder fM_goalMax fM_different ++ (WQ hQ aQ kQ hw fQ_inside_674 fQ_outside_674 fQ_shut_674 iQ_rows_674 iQ_allRows_674 iQ_columns_674 ++ (WW nW hw lw kw wl_973 wb_973 wG_973)))) ((WW nW hw lw kw wl_973 wb_973 wG_973) ++ (WO hO aO kO hM hQ hw iO_answered iO_searched iO_searchedRelaxed iO_counted fO_countedCase gO_goalNumber gO_goalScale fO_start_x5 fO_column_x5 fO_chosen ++ (WM hM aM kM iM_stands iM_variables iM_rows iM_goals iM_differents iM_cases fM_from fM_to fM_whole fM_ways iM_plainRows fM_plainRow fM_kept fM_goalOver fM_goalUnder fM_goalMax fM_different ++ (WQ hQ aQ kQ hw fQ_inside_674 fQ_outside_674 fQ_shut_674 iQ_rows_674 iQ_allRows_674 iQ_columns_674)))) := ((List.Perm.append_left _ ((List.Perm.append_left _ (List.perm_append_comm)).trans (List.perm_append_comm_assoc _ _ _))).trans (List.perm_append_comm_assoc _ _ _))
                  have hPc := hP.mem (fun q h => p9.mem_iff.mpr (List.mem_append_left _ h))
                  have hDc := (hD.perm p9).left
                  have hKc := hK.sub (tys' := tW kw) [24] rfl
                  have hFc := freeG p9 hD hS hA
                  refine va_callv (va_runV (As := [.long (-1)]) (rest := []) ⟨hx, hb, hml, hown, hts⟩ (m_X8_setLong l dC dI nW hw lw kw wl_973 wb_973 wG_973 kR_975 (-1) b_wl_973 b_wb_973 (by first | assumption | omega | (rw [iI_t (by omega) (by omega)]; omega) | decide) H.size) (cwV 1 hts gwsMX5_lay_2 rfl rfl rfl (by decide +kernel) ⟨by decide +kernel, by decide +kernel⟩) ⟨fun a U g mk q => by obtain ⟨q0, q1, qP, qK, qD⟩ := q; exact ⟨q0, q1, qP, va_K.moved (u := U) (U := U.calling g mk a) (Vm.Alike.refl U.vm) qK, qD⟩, va_recv hK hP (ci := 8) (q0 := 11 + (11 + (5 + (kR_975)))) rfl (apR rfl (apR rfl (apR rfl (WW_o (by omega))))), fun U hU9 hW => ⟨rfl, by rw [hU9], by rw [hU9]; exact hPc, va_K.moved hW.alike hKc, hDc.weaken (fun _ _ _ _ => trivial)⟩⟩ rfl rfl hl.1 rfl (lv_room (Nat.le_of_ble_eq_true rfl)) dX5_lay_277 ⟨by decide +kernel, by decide +kernel⟩) hS (fun q _ h => hFc q h) hFc (fun u t9_ H1 locs ht hvm hw9 hB9 hz1 hk1 hS => ?_)
                  obtain ⟨wl_976, wb_976, wG_976⟩ := u
                  try dsimp only at hw9 hB9
                  obtain ⟨b_wl_976, b_wb_976⟩ := hw9
                  obtain ⟨hP1, hD1⟩ := hB9
                  rw [ht] at hP1
                  have p8 : List.Perm (WO hO aO kO hM hQ hw iO_answered iO_searched iO_searchedRelaxed iO_counted fO_countedCase gO_goalNumber gO_goalScale fO_start_x5 fO_column_x5 fO_chosen ++ (WM hM aM kM iM_stands iM_variables iM_rows iM_goals iM_differents iM_cases fM_from fM_to fM_whole fM_ways iM_plainRows fM_plainRow fM_kept fM_goalOver fM_goalUnder fM_goalMax fM_different ++ (WQ hQ aQ kQ hw fQ_inside_674 fQ_outside_674 fQ_shut_674 iQ_rows_674 iQ_allRows_674 iQ_columns_674 ++ (WW nW hw lw kw wl_976 wb_976 wG_976)))) ((WW nW hw lw kw wl_976 wb_976 wG_976) ++ (WO hO aO kO hM hQ hw iO_answered iO_searched iO_searchedRelaxed iO_counted fO_countedCase gO_goalNumber gO_goalScale fO_start_x5 fO_column_x5 fO_chosen ++ (WM hM aM kM iM_stands iM_variables iM_rows iM_goals iM_differents iM_cases fM_from fM_to fM_whole fM_ways iM_plainRows fM_plainRow fM_kept fM_goalOver fM_goalUnder fM_goalMax fM_different ++ (WQ hQ aQ kQ hw fQ_inside_674 fQ_outside_674 fQ_shut_674 iQ_rows_674 iQ_allRows_674 iQ_columns_674)))) := ((List.Perm.append_left _ ((List.Perm.append_left _ (List.perm_append_comm)).trans (List.perm_append_comm_assoc _ _ _))).trans (List.perm_append_comm_assoc _ _ _))
                  obtain ⟨hP, hD⟩ := frameG p9 p8 hP hD hk1 hFc hP1 hD1
                  generalize H1 = H at hP hS ⊢
                  have hP : va_P (dC, dI) vwCl (WO hO aO kO hM hQ hw iO_answered iO_searched iO_searchedRelaxed iO_counted fO_countedCase gO_goalNumber gO_goalScale fO_start_x5 fO_column_x5 fO_chosen ++ (WM hM aM kM iM_stands iM_variables iM_rows iM_goals iM_differents iM_cases fM_from fM_to fM_whole fM_ways iM_plainRows fM_plainRow fM_kept fM_goalOver fM_goalUnder fM_goalMax fM_different ++ (WQ hQ aQ kQ hw fQ_inside_674 fQ_outside_674 fQ_shut_674 iQ_rows_674 iQ_allRows_674 iQ_columns_674 ++ (WW nW hw lw kw wl_976 wb_976 wG_976)))) H := hP
                  have hD : va_D A (WO hO aO kO hM hQ hw iO_answered iO_searched iO_searchedRelaxed iO_counted fO_countedCase gO_goalNumber gO_goalScale fO_start_x5 fO_column_x5 fO_chosen ++ (WM hM aM kM iM_stands iM_variables iM_rows iM_goals iM_differents iM_cases fM_from fM_to fM_whole fM_ways iM_plainRows fM_plainRow fM_kept fM_goalOver fM_goalUnder fM_goalMax fM_different ++ (WQ hQ aQ kQ hw fQ_inside_674 fQ_outside_674 fQ_shut_674 iQ_rows_674 iQ_allRows_674 iQ_columns_674 ++ (WW nW hw lw kw wl_976 wb_976 wG_976)))) := hD
                  refine lv_iinc (v := (iI (l5_x200.toInt + 1))) (lv' := [(5, .int (iI (l5_x200.toInt + 1))), (6, .int l6_x200), (4, .int k0_j36), (3, .int l3_x5), (0, .ref (hO 0)), (1, .int p1), (2, .int p2)]) hx hb dX5_lay_280 hl (k := 1) rfl (iI_add2 (iI_of _) (by decide : (1 : Int32) = iI 1)) (by decide) rfl (fun ls hl => ?_)
                  refine lv_iinc (v := (iI (l6_x200.toInt + 1))) (lv' := [(6, .int (iI (l6_x200.toInt + 1))), (5, .int (iI (l5_x200.toInt + 1))), (4, .int k0_j36), (3, .int l3_x5), (0, .ref (hO 0)), (1, .int p1), (2, .int p2)]) hx hb dX5_lay_283 hl (k := 1) rfl (iI_add2 (iI_of _) (by decide : (1 : Int32) = iI 1)) (by decide) rfl (fun ls hl => ?_)
                  refine lv_goto (tgt := 200) hx hb dX5_lay_286 (by decide) ?_
                  have hl := lv_sub hl [0, 1, 2, 3, 4, 5, 6] (l' := [(6, .int (iI (l6_x200.toInt + 1))), (5, .int (iI (l5_x200.toInt + 1))), (4, .int k0_j36), (3, .int l3_x5), (0, .ref (hO 0)), (1, .int p1), (2, .int p2)]) rfl
                  exact ihx200 wl_976 wb_976 wG_976 (iI (l6_x200.toInt + 1)) (iI (l5_x200.toInt + 1)) _ _ _ b_wl_976 b_wb_976 (iI_rng (by omega) (by omega) (by decide) (by decide)) (iI_rng (by omega) (by omega) (by decide) (by decide)) (show (iI (l5_x200.toInt + 1)).toInt ≤ 12 + (iI (l6_x200.toInt + 1)).toInt from by (try rw [iI_t (E := l3_x5.toInt + 1) (by omega) (by omega)]); (try rw [iI_t (E := l4_x5.toInt + 1) (by omega) (by omega)]); (try rw [iI_t (E := l5_x130.toInt + 1) (by omega) (by omega)]); (try rw [iI_t (E := l6_x130.toInt + 1) (by omega) (by omega)]); (try rw [iI_t (E := l5_x200.toInt + 1) (by omega) (by omega)]); (try rw [iI_t (E := l6_x200.toInt + 1) (by omega) (by omega)]); omega) (by have e9 : ((iI (l6_x200.toInt + 1))).toInt = (l6_x200.toInt + 1) := (iI_t (by omega) (by omega)); omega) hP hD hS hl
          · have t_139 : ¬ l6_x130.toInt ≥ iM_rows.toInt := toI_nge c_139 rfl rfl
            refine lv_iload_n hx hb dX5_lay_142 rfl (lv_at hl 5 rfl) ?_
            refine lv_if_eq (tgt := 160) hx hb dX5_lay_143 (by decide) (fun c_143 => ?_) (fun c_143 => ?_)
            · have t_143 : p1.toInt = 0 := toI_eq c_143 rfl (by decide : (0 : Int32).toInt = 0)
              refine lv_aload_n hx hb dX5_lay_160 rfl (lv_at hl 4 rfl) ?_
              refine lv_iload hx hb dX5_lay_161 (lv_at hl 1 rfl) ?_
              refine lv_iload hx hb dX5_lay_163 (lv_at hl 0 rfl) ?_
              refine lv_iload_n hx hb dX5_lay_165 rfl (lv_at hl 5 rfl) ?_
              refine W.cut (pc := 180) (fun H locs ls stk => ∃ (k0_j41 : Int32), (0 ≤ k0_j41.toInt ∧ k0_j41.toInt ≤ 2) ∧  stk = [.int k0_j41, .int l6_x130, .int l5_x130, .ref (hO 0)] ∧ va_P (dC, dI) vwCl (WO hO aO kO hM hQ hw iO_answered iO_searched iO_searchedRelaxed iO_counted fO_countedCase gO_goalNumber gO_goalScale fO_start_x5 fO_column_x5 fO_chosen ++ (WM hM aM kM iM_stands iM_variables iM_rows iM_goals iM_differents iM_cases fM_from fM_to fM_whole fM_ways iM_plainRows fM_plainRow fM_kept fM_goalOver fM_goalUnder fM_goalMax fM_different ++ (WQ hQ aQ kQ hw fQ_inside_674 fQ_outside_674 fQ_shut_674 iQ_rows_674 iQ_allRows_674 iQ_columns_674 ++ (WW nW hw lw kw wl_x130 wb_x130 wG_x130)))) H ∧ va_D A (WO hO aO kO hM hQ hw iO_answered iO_searched iO_searchedRelaxed iO_counted fO_countedCase gO_goalNumber gO_goalScale fO_start_x5 fO_column_x5 fO_chosen ++ (WM hM aM kM iM_stands iM_variables iM_rows iM_goals iM_differents iM_cases fM_from fM_to fM_whole fM_ways iM_plainRows fM_plainRow fM_kept fM_goalOver fM_goalUnder fM_goalMax fM_different ++ (WQ hQ aQ kQ hw fQ_inside_674 fQ_outside_674 fQ_shut_674 iQ_rows_674 iQ_allRows_674 iQ_columns_674 ++ (WW nW hw lw kw wl_x130 wb_x130 wG_x130)))) ∧ va_S A s.heap H locs ∧ lv_has ls 7 [(6, .int l6_x130), (5, .int l5_x130), (4, .int k0_j36), (3, .int l3_x5), (0, .ref (hO 0)), (1, .int p1), (2, .int p2)]) (fun join41 => ?_) ?_
              · refine lv_if_eq (tgt := 173) hx hb dX5_lay_166 (by decide) (fun c_166 => ?_) (fun c_166 => ?_)
                · have t_166 : p1.toInt = 0 := toI_eq c_166 rfl (by decide : (0 : Int32).toInt = 0)
                  refine lv_aload_n hx hb dX5_lay_173 rfl (lv_at hl 4 rfl) ?_
                  refine va_get (D := (dC, dI)) (ci := 5) (v := .ref (aO 5)) (C := RX5) (T := TX5) (N := 19) hx hb hts iwsMX5_lay_in5 hown hK hP 0 rfl rfl 11 (by decide) (hts (.fieldLink RX5 41 "OptimaWorks$Solver" "chosen" "[I") (by decide +kernel)) (fun _ h9 => h9) rfl dX5_lay_174 ?_
                  refine lv_iload hx hb dX5_lay_177 (lv_at hl 0 rfl) ?_
                  refine va_iald (cA := kO 5) (n := 12) (f := fO_chosen) hx hb hK hP 6 5 rfl rfl (vp_in_iff.mpr ⟨by omega, by omega⟩) dX5_lay_179 ?_
                  refine lv_topi (fun v978 hv978 => ?_)
                  have b_v978 : 0 ≤ v978.toInt ∧ v978.toInt ≤ 2 := by rw [hv978]; exact b_fO_chosen _
                  clear hv978
                  have hl := lv_sub hl [0, 1, 2, 3, 4, 5, 6] (l' := [(6, .int l6_x130), (5, .int l5_x130), (4, .int k0_j36), (3, .int l3_x5), (0, .ref (hO 0)), (1, .int p1), (2, .int p2)]) rfl
                  exact join41 _ _ _ _ ⟨v978, (by first | assumption | exact ⟨by omega, by omega⟩), rfl, hP, hD, hS, hl⟩
                · have t_166 : ¬ p1.toInt = 0 := toI_neq c_166 rfl (by decide : (0 : Int32).toInt = 0)
                  refine lv_iconst (v := 0) hx hb dX5_lay_169 (by decide) ?_
                  refine lv_goto (tgt := 180) hx hb dX5_lay_170 (by decide) ?_
                  have hl := lv_sub hl [0, 1, 2, 3, 4, 5, 6] (l' := [(6, .int l6_x130), (5, .int l5_x130), (4, .int k0_j36), (3, .int l3_x5), (0, .ref (hO 0)), (1, .int p1), (2, .int p2)]) rfl
                  exact join41 _ _ _ _ ⟨0, (show 0 ≤ (0 : Int32).toInt ∧ (0 : Int32).toInt ≤ 2 from by decide), rfl, hP, hD, hS, hl⟩
              · rintro H locs ls stk ⟨k0_j41, b_k0_j41, rfl, hP, hD, hS, hl⟩
                have hFc := allFree hD hS hA
                refine va_calli (va_runV (As := [.int l5_x130, .int l6_x130, .int k0_j41]) (rest := []) ⟨hx, hb, hml, hown, hts⟩ (m_X5_layWay l dC dI hO aO kO hM hQ hw iO_answered iO_searched iO_searchedRelaxed iO_counted fO_countedCase gO_goalNumber gO_goalScale fO_start_x5 fO_column_x5 fO_chosen aM kM iM_stands iM_variables iM_rows iM_goals iM_differents iM_cases fM_from fM_to fM_whole fM_ways iM_plainRows fM_plainRow fM_kept fM_goalOver fM_goalUnder fM_goalMax fM_different aQ kQ fQ_inside_674 fQ_outside_674 fQ_shut_674 iQ_rows_674 iQ_allRows_674 iQ_columns_674 nW lw kw wl_x130 wb_x130 wG_x130 l5_x130 l6_x130 k0_j41 (by first | assumption | exact ⟨by omega, by omega⟩) (by first | assumption | exact ⟨by omega, by omega⟩) (by first | assumption | exact ⟨by omega, by omega⟩) (by first | assumption | exact ⟨by omega, by omega⟩) b_fO_countedCase b_fO_column_x5 b_fO_chosen (by first | assumption | exact ⟨by omega, by omega⟩) (by first | assumption | exact ⟨by omega, by omega⟩) (by first | assumption | exact ⟨by omega, by omega⟩) (by first | assumption | exact ⟨by omega, by omega⟩) (by first | assumption | exact ⟨by omega, by omega⟩) (by first | assumption | exact ⟨by omega, by omega⟩) b_fM_ways (by first | assumption | exact ⟨by omega, by omega⟩) b_fM_plainRow (by first | assumption | omega) (by first | assumption | exact ⟨by omega, by omega⟩) (by first | assumption | exact ⟨by omega, by omega⟩) (by first | assumption | exact ⟨by omega, by omega⟩) (by first | assumption | omega) b_wl_x130 b_wb_x130 (by first | assumption | exact ⟨by omega, by omega⟩) (by first | assumption | exact ⟨by omega, by omega⟩) (by first | assumption | exact ⟨by omega, by omega⟩) (by omega) (by omega) H.size) (cwV 3 hts gwsMX5_lay_4 rfl rfl rfl (by decide +kernel) ⟨by decide +kernel, by decide +kernel⟩) ⟨fun a U g mk q => by obtain ⟨q0, q1, qP, qK, qD⟩ := q; exact ⟨q0, q1, qP, va_K.moved (u := U) (U := U.calling g mk a) (Vm.Alike.refl U.vm) qK, qD⟩, va_recv hK hP (ci := 5) (q0 := 0) rfl rfl, fun U hU9 hW => ⟨rfl, by rw [hU9], by rw [hU9]; exact hP, va_K.moved hW.alike hK, hD.weaken (fun _ _ _ _ => trivial)⟩⟩ rfl rfl hl.1 rfl (lv_room (Nat.le_of_ble_eq_true rfl)) dX5_lay_180 ⟨by decide +kernel, by decide +kernel⟩) hS (fun q _ h => hFc q h) hFc (fun r979 u t9_ H1 locs ht hvm hw9 hB9 hz1 hk1 hS => ?_)
                obtain ⟨wl_979, wb_979, wG_979⟩ := u
                try dsimp only at hw9 hB9
                obtain ⟨b_wl_979, b_wb_979, b_r979⟩ := hw9
                obtain ⟨hP1, hD1⟩ := hB9
                rw [ht] at hP1
                have hP := hP1
                have hD := hD1.weaken (fun _ q _ h => hFc q.1 h)
                generalize H1 = H at hP hS ⊢
                have hP : va_P (dC, dI) vwCl (WO hO aO kO hM hQ hw iO_answered iO_searched iO_searchedRelaxed iO_counted fO_countedCase gO_goalNumber gO_goalScale fO_start_x5 fO_column_x5 fO_chosen ++ (WM hM aM kM iM_stands iM_variables iM_rows iM_goals iM_differents iM_cases fM_from fM_to fM_whole fM_ways iM_plainRows fM_plainRow fM_kept fM_goalOver fM_goalUnder fM_goalMax fM_different ++ (WQ hQ aQ kQ hw fQ_inside_674 fQ_outside_674 fQ_shut_674 iQ_rows_674 iQ_allRows_674 iQ_columns_674 ++ (WW nW hw lw kw wl_979 wb_979 wG_979)))) H := hP
                have hD : va_D A (WO hO aO kO hM hQ hw iO_answered iO_searched iO_searchedRelaxed iO_counted fO_countedCase gO_goalNumber gO_goalScale fO_start_x5 fO_column_x5 fO_chosen ++ (WM hM aM kM iM_stands iM_variables iM_rows iM_goals iM_differents iM_cases fM_from fM_to fM_whole fM_ways iM_plainRows fM_plainRow fM_kept fM_goalOver fM_goalUnder fM_goalMax fM_different ++ (WQ hQ aQ kQ hw fQ_inside_674 fQ_outside_674 fQ_shut_674 iQ_rows_674 iQ_allRows_674 iQ_columns_674 ++ (WW nW hw lw kw wl_979 wb_979 wG_979)))) := hD
                refine lv_if_ne (tgt := 188) hx hb dX5_lay_183 (by decide) (fun c_183 => ?_) (fun c_183 => ?_)
                · have t_183 : r979.toInt ≠ 0 := toI_ne c_183 rfl (by decide : (0 : Int32).toInt = 0)
                  refine lv_iinc (v := (iI (l5_x130.toInt + 1))) (lv' := [(5, .int (iI (l5_x130.toInt + 1))), (6, .int l6_x130), (4, .int k0_j36), (3, .int l3_x5), (0, .ref (hO 0)), (1, .int p1), (2, .int p2)]) hx hb dX5_lay_188 hl (k := 1) rfl (iI_add2 (iI_of _) (by decide : (1 : Int32) = iI 1)) (by decide) rfl (fun ls hl => ?_)
                  refine lv_iinc (v := (iI (l6_x130.toInt + 1))) (lv' := [(6, .int (iI (l6_x130.toInt + 1))), (5, .int (iI (l5_x130.toInt + 1))), (4, .int k0_j36), (3, .int l3_x5), (0, .ref (hO 0)), (1, .int p1), (2, .int p2)]) hx hb dX5_lay_191 hl (k := 1) rfl (iI_add2 (iI_of _) (by decide : (1 : Int32) = iI 1)) (by decide) rfl (fun ls hl => ?_)
                  refine lv_goto (tgt := 130) hx hb dX5_lay_194 (by decide) ?_
                  have hl := lv_sub hl [0, 1, 2, 3, 4, 5, 6] (l' := [(6, .int (iI (l6_x130.toInt + 1))), (5, .int (iI (l5_x130.toInt + 1))), (4, .int k0_j36), (3, .int l3_x5), (0, .ref (hO 0)), (1, .int p1), (2, .int p2)]) rfl
                  exact ihx130 wl_979 wb_979 wG_979 (iI (l6_x130.toInt + 1)) (iI (l5_x130.toInt + 1)) _ _ _ b_wl_979 b_wb_979 (iI_rng (by omega) (by omega) (by decide) (by decide)) (iI_rng (by omega) (by omega) (by decide) (by decide)) (show (iI (l5_x130.toInt + 1)).toInt ≤ (iI (l6_x130.toInt + 1)).toInt from by (try rw [iI_t (E := l3_x5.toInt + 1) (by omega) (by omega)]); (try rw [iI_t (E := l4_x5.toInt + 1) (by omega) (by omega)]); (try rw [iI_t (E := l5_x130.toInt + 1) (by omega) (by omega)]); (try rw [iI_t (E := l6_x130.toInt + 1) (by omega) (by omega)]); (try rw [iI_t (E := l5_x200.toInt + 1) (by omega) (by omega)]); (try rw [iI_t (E := l6_x200.toInt + 1) (by omega) (by omega)]); omega) (by have e9 : ((iI (l6_x130.toInt + 1))).toInt = (l6_x130.toInt + 1) := (iI_t (by omega) (by omega)); omega) hP hD hS hl
                · have t_183 : r979.toInt = 0 := toI_nne c_183 rfl (by decide : (0 : Int32).toInt = 0)
                  refine lv_iconst (v := 0) hx hb dX5_lay_186 (by decide) ?_
                  refine W.widen (k := 0) (n := 0) (by decide +kernel) (by decide +kernel) ?_
                  exact W.zret (v := 0) hx hb hr rfl (fun t9_ ht hW => ⟨⟨(0 : Int32), (fO_start_x5, fO_column_x5, fQ_inside_674, fQ_outside_674, fQ_shut_674, iQ_rows_674, iQ_allRows_674, iQ_columns_674, wl_979, wb_979, wG_979), rfl, ⟨b_fO_column_x5, (by (try dsimp only); exact (by first | assumption | exact ⟨by omega, by omega⟩)), (by (try dsimp only); exact (by first | assumption | exact ⟨by omega, by omega⟩)), (by (try dsimp only); exact (by first | assumption | exact ⟨by omega, by omega⟩)), b_wl_979, b_wb_979, (by (try dsimp only); exact (by first | assumption | omega)), (show 0 ≤ (0 : Int32).toInt ∧ (0 : Int32).toInt ≤ 1 from by decide), (by (try dsimp only); omega), (by (try dsimp only); omega)⟩, by rw [ht]; exact hP, hD⟩, hS.F ht⟩) hS.2.2 dX5_lay_187
            · have t_143 : ¬ p1.toInt = 0 := toI_neq c_143 rfl (by decide : (0 : Int32).toInt = 0)
              refine lv_aload_n hx hb dX5_lay_146 rfl (lv_at hl 4 rfl) ?_
              refine va_get (D := (dC, dI)) (ci := 5) (v := .ref (hM 0)) (C := RX5) (T := TX5) (N := 19) hx hb hts iwsMX5_lay_in5 hown hK hP 0 rfl rfl 0 (by decide) (hts (.fieldLink RX5 74 "OptimaWorks$Solver" "model" "LOptimaWorks$Model;") (by decide +kernel)) (fun _ h9 => h9) rfl dX5_lay_147 ?_
              refine va_get (D := (dC, dI)) (ci := 1) (v := .ref (aM 3)) (C := RX1) (T := TX1) (N := 17) hx hb hts iwsMX5_lay_in1 hown hK hP 11 rfl rfl 9 (by decide) (hts (.fieldLink RX5 134 "OptimaWorks$Model" "ways" "[I") (by decide +kernel)) (fun _ h9 => h9) rfl dX5_lay_150 ?_
              refine lv_iload hx hb dX5_lay_153 (lv_at hl 0 rfl) ?_
              refine va_iald (cA := kM 3) (n := 12) (f := fM_ways) hx hb hK hP 15 13 rfl rfl (vp_in_iff.mpr ⟨by omega, by omega⟩) dX5_lay_155 ?_
              refine lv_topi (fun v980 hv980 => ?_)
              have b_v980 : 0 ≤ v980.toInt ∧ v980.toInt ≤ 3 := by rw [hv980]; exact b_fM_ways _
              clear hv980
              refine lv_iconst (v := 1) hx hb dX5_lay_156 (by decide) ?_
              refine lv_icmp_ne (tgt := 191) hx hb dX5_lay_157 (by decide) (fun c_157 => ?_) (fun c_157 => ?_)
              · have t_157 : v980.toInt ≠ 1 := toI_ne c_157 rfl (by decide : (1 : Int32).toInt = 1)
                refine lv_iinc (v := (iI (l6_x130.toInt + 1))) (lv' := [(6, .int (iI (l6_x130.toInt + 1))), (5, .int l5_x130), (4, .int k0_j36), (3, .int l3_x5), (0, .ref (hO 0)), (1, .int p1), (2, .int p2)]) hx hb dX5_lay_191 hl (k := 0) rfl (iI_add2 (iI_of _) (by decide : (1 : Int32) = iI 1)) (by decide) rfl (fun ls hl => ?_)
                refine lv_goto (tgt := 130) hx hb dX5_lay_194 (by decide) ?_
                have hl := lv_sub hl [0, 1, 2, 3, 4, 5, 6] (l' := [(6, .int (iI (l6_x130.toInt + 1))), (5, .int l5_x130), (4, .int k0_j36), (3, .int l3_x5), (0, .ref (hO 0)), (1, .int p1), (2, .int p2)]) rfl
                exact ihx130 wl_x130 wb_x130 wG_x130 (iI (l6_x130.toInt + 1)) l5_x130 _ _ _ b_wl_x130 b_wb_x130 (iI_rng (by omega) (by omega) (by decide) (by decide)) (by first | assumption | exact ⟨by omega, by omega⟩) (show l5_x130.toInt ≤ (iI (l6_x130.toInt + 1)).toInt from by (try rw [iI_t (E := l3_x5.toInt + 1) (by omega) (by omega)]); (try rw [iI_t (E := l4_x5.toInt + 1) (by omega) (by omega)]); (try rw [iI_t (E := l5_x130.toInt + 1) (by omega) (by omega)]); (try rw [iI_t (E := l6_x130.toInt + 1) (by omega) (by omega)]); (try rw [iI_t (E := l5_x200.toInt + 1) (by omega) (by omega)]); (try rw [iI_t (E := l6_x200.toInt + 1) (by omega) (by omega)]); omega) (by have e9 : ((iI (l6_x130.toInt + 1))).toInt = (l6_x130.toInt + 1) := (iI_t (by omega) (by omega)); omega) hP hD hS hl
              · have t_157 : v980.toInt = 1 := toI_nne c_157 rfl (by decide : (1 : Int32).toInt = 1)
                refine lv_aload_n hx hb dX5_lay_160 rfl (lv_at hl 4 rfl) ?_
                refine lv_iload hx hb dX5_lay_161 (lv_at hl 1 rfl) ?_
                refine lv_iload hx hb dX5_lay_163 (lv_at hl 0 rfl) ?_
                refine lv_iload_n hx hb dX5_lay_165 rfl (lv_at hl 5 rfl) ?_
                refine W.cut (pc := 180) (fun H locs ls stk => ∃ (k0_j42 : Int32), (0 ≤ k0_j42.toInt ∧ k0_j42.toInt ≤ 2) ∧  stk = [.int k0_j42, .int l6_x130, .int l5_x130, .ref (hO 0)] ∧ va_P (dC, dI) vwCl (WO hO aO kO hM hQ hw iO_answered iO_searched iO_searchedRelaxed iO_counted fO_countedCase gO_goalNumber gO_goalScale fO_start_x5 fO_column_x5 fO_chosen ++ (WM hM aM kM iM_stands iM_variables iM_rows iM_goals iM_differents iM_cases fM_from fM_to fM_whole fM_ways iM_plainRows fM_plainRow fM_kept fM_goalOver fM_goalUnder fM_goalMax fM_different ++ (WQ hQ aQ kQ hw fQ_inside_674 fQ_outside_674 fQ_shut_674 iQ_rows_674 iQ_allRows_674 iQ_columns_674 ++ (WW nW hw lw kw wl_x130 wb_x130 wG_x130)))) H ∧ va_D A (WO hO aO kO hM hQ hw iO_answered iO_searched iO_searchedRelaxed iO_counted fO_countedCase gO_goalNumber gO_goalScale fO_start_x5 fO_column_x5 fO_chosen ++ (WM hM aM kM iM_stands iM_variables iM_rows iM_goals iM_differents iM_cases fM_from fM_to fM_whole fM_ways iM_plainRows fM_plainRow fM_kept fM_goalOver fM_goalUnder fM_goalMax fM_different ++ (WQ hQ aQ kQ hw fQ_inside_674 fQ_outside_674 fQ_shut_674 iQ_rows_674 iQ_allRows_674 iQ_columns_674 ++ (WW nW hw lw kw wl_x130 wb_x130 wG_x130)))) ∧ va_S A s.heap H locs ∧ lv_has ls 7 [(6, .int l6_x130), (5, .int l5_x130), (4, .int k0_j36), (3, .int l3_x5), (0, .ref (hO 0)), (1, .int p1), (2, .int p2)]) (fun join42 => ?_) ?_
                · refine lv_if_eq (tgt := 173) hx hb dX5_lay_166 (by decide) (fun c_166 => ?_) (fun c_166 => ?_)
                  · have t_166 : p1.toInt = 0 := toI_eq c_166 rfl (by decide : (0 : Int32).toInt = 0)
                    refine lv_aload_n hx hb dX5_lay_173 rfl (lv_at hl 4 rfl) ?_
                    refine va_get (D := (dC, dI)) (ci := 5) (v := .ref (aO 5)) (C := RX5) (T := TX5) (N := 19) hx hb hts iwsMX5_lay_in5 hown hK hP 0 rfl rfl 11 (by decide) (hts (.fieldLink RX5 41 "OptimaWorks$Solver" "chosen" "[I") (by decide +kernel)) (fun _ h9 => h9) rfl dX5_lay_174 ?_
                    refine lv_iload hx hb dX5_lay_177 (lv_at hl 0 rfl) ?_
                    refine va_iald (cA := kO 5) (n := 12) (f := fO_chosen) hx hb hK hP 6 5 rfl rfl (vp_in_iff.mpr ⟨by omega, by omega⟩) dX5_lay_179 ?_
                    refine lv_topi (fun v982 hv982 => ?_)
                    have b_v982 : 0 ≤ v982.toInt ∧ v982.toInt ≤ 2 := by rw [hv982]; exact b_fO_chosen _
                    clear hv982
                    have hl := lv_sub hl [0, 1, 2, 3, 4, 5, 6] (l' := [(6, .int l6_x130), (5, .int l5_x130), (4, .int k0_j36), (3, .int l3_x5), (0, .ref (hO 0)), (1, .int p1), (2, .int p2)]) rfl
                    exact join42 _ _ _ _ ⟨v982, (by first | assumption | exact ⟨by omega, by omega⟩), rfl, hP, hD, hS, hl⟩
                  · have t_166 : ¬ p1.toInt = 0 := toI_neq c_166 rfl (by decide : (0 : Int32).toInt = 0)
                    refine lv_iconst (v := 0) hx hb dX5_lay_169 (by decide) ?_
                    refine lv_goto (tgt := 180) hx hb dX5_lay_170 (by decide) ?_
                    have hl := lv_sub hl [0, 1, 2, 3, 4, 5, 6] (l' := [(6, .int l6_x130), (5, .int l5_x130), (4, .int k0_j36), (3, .int l3_x5), (0, .ref (hO 0)), (1, .int p1), (2, .int p2)]) rfl
                    exact join42 _ _ _ _ ⟨0, (show 0 ≤ (0 : Int32).toInt ∧ (0 : Int32).toInt ≤ 2 from by decide), rfl, hP, hD, hS, hl⟩
                · rintro H locs ls stk ⟨k0_j42, b_k0_j42, rfl, hP, hD, hS, hl⟩
                  have hFc := allFree hD hS hA
                  refine va_calli (va_runV (As := [.int l5_x130, .int l6_x130, .int k0_j42]) (rest := []) ⟨hx, hb, hml, hown, hts⟩ (m_X5_layWay l dC dI hO aO kO hM hQ hw iO_answered iO_searched iO_searchedRelaxed iO_counted fO_countedCase gO_goalNumber gO_goalScale fO_start_x5 fO_column_x5 fO_chosen aM kM iM_stands iM_variables iM_rows iM_goals iM_differents iM_cases fM_from fM_to fM_whole fM_ways iM_plainRows fM_plainRow fM_kept fM_goalOver fM_goalUnder fM_goalMax fM_different aQ kQ fQ_inside_674 fQ_outside_674 fQ_shut_674 iQ_rows_674 iQ_allRows_674 iQ_columns_674 nW lw kw wl_x130 wb_x130 wG_x130 l5_x130 l6_x130 k0_j42 (by first | assumption | exact ⟨by omega, by omega⟩) (by first | assumption | exact ⟨by omega, by omega⟩) (by first | assumption | exact ⟨by omega, by omega⟩) (by first | assumption | exact ⟨by omega, by omega⟩) b_fO_countedCase b_fO_column_x5 b_fO_chosen (by first | assumption | exact ⟨by omega, by omega⟩) (by first | assumption | exact ⟨by omega, by omega⟩) (by first | assumption | exact ⟨by omega, by omega⟩) (by first | assumption | exact ⟨by omega, by omega⟩) (by first | assumption | exact ⟨by omega, by omega⟩) (by first | assumption | exact ⟨by omega, by omega⟩) b_fM_ways (by first | assumption | exact ⟨by omega, by omega⟩) b_fM_plainRow (by first | assumption | omega) (by first | assumption | exact ⟨by omega, by omega⟩) (by first | assumption | exact ⟨by omega, by omega⟩) (by first | assumption | exact ⟨by omega, by omega⟩) (by first | assumption | omega) b_wl_x130 b_wb_x130 (by first | assumption | exact ⟨by omega, by omega⟩) (by first | assumption | exact ⟨by omega, by omega⟩) (by first | assumption | exact ⟨by omega, by omega⟩) (by omega) (by omega) H.size) (cwV 3 hts gwsMX5_lay_4 rfl rfl rfl (by decide +kernel) ⟨by decide +kernel, by decide +kernel⟩) ⟨fun a U g mk q => by obtain ⟨q0, q1, qP, qK, qD⟩ := q; exact ⟨q0, q1, qP, va_K.moved (u := U) (U := U.calling g mk a) (Vm.Alike.refl U.vm) qK, qD⟩, va_recv hK hP (ci := 5) (q0 := 0) rfl rfl, fun U hU9 hW => ⟨rfl, by rw [hU9], by rw [hU9]; exact hP, va_K.moved hW.alike hK, hD.weaken (fun _ _ _ _ => trivial)⟩⟩ rfl rfl hl.1 rfl (lv_room (Nat.le_of_ble_eq_true rfl)) dX5_lay_180 ⟨by decide +kernel, by decide +kernel⟩) hS (fun q _ h => hFc q h) hFc (fun r983 u t9_ H1 locs ht hvm hw9 hB9 hz1 hk1 hS => ?_)
                  obtain ⟨wl_983, wb_983, wG_983⟩ := u
                  try dsimp only at hw9 hB9
                  obtain ⟨b_wl_983, b_wb_983, b_r983⟩ := hw9
                  obtain ⟨hP1, hD1⟩ := hB9
                  rw [ht] at hP1
                  have hP := hP1
                  have hD := hD1.weaken (fun _ q _ h => hFc q.1 h)
                  generalize H1 = H at hP hS ⊢
                  have hP : va_P (dC, dI) vwCl (WO hO aO kO hM hQ hw iO_answered iO_searched iO_searchedRelaxed iO_counted fO_countedCase gO_goalNumber gO_goalScale fO_start_x5 fO_column_x5 fO_chosen ++ (WM hM aM kM iM_stands iM_variables iM_rows iM_goals iM_differents iM_cases fM_from fM_to fM_whole fM_ways iM_plainRows fM_plainRow fM_kept fM_goalOver fM_goalUnder fM_goalMax fM_different ++ (WQ hQ aQ kQ hw fQ_inside_674 fQ_outside_674 fQ_shut_674 iQ_rows_674 iQ_allRows_674 iQ_columns_674 ++ (WW nW hw lw kw wl_983 wb_983 wG_983)))) H := hP
                  have hD : va_D A (WO hO aO kO hM hQ hw iO_answered iO_searched iO_searchedRelaxed iO_counted fO_countedCase gO_goalNumber gO_goalScale fO_start_x5 fO_column_x5 fO_chosen ++ (WM hM aM kM iM_stands iM_variables iM_rows iM_goals iM_differents iM_cases fM_from fM_to fM_whole fM_ways iM_plainRows fM_plainRow fM_kept fM_goalOver fM_goalUnder fM_goalMax fM_different ++ (WQ hQ aQ kQ hw fQ_inside_674 fQ_outside_674 fQ_shut_674 iQ_rows_674 iQ_allRows_674 iQ_columns_674 ++ (WW nW hw lw kw wl_983 wb_983 wG_983)))) := hD
                  refine lv_if_ne (tgt := 188) hx hb dX5_lay_183 (by decide) (fun c_183 => ?_) (fun c_183 => ?_)
                  · have t_183 : r983.toInt ≠ 0 := toI_ne c_183 rfl (by decide : (0 : Int32).toInt = 0)
                    refine lv_iinc (v := (iI (l5_x130.toInt + 1))) (lv' := [(5, .int (iI (l5_x130.toInt + 1))), (6, .int l6_x130), (4, .int k0_j36), (3, .int l3_x5), (0, .ref (hO 0)), (1, .int p1), (2, .int p2)]) hx hb dX5_lay_188 hl (k := 1) rfl (iI_add2 (iI_of _) (by decide : (1 : Int32) = iI 1)) (by decide) rfl (fun ls hl => ?_)
                    refine lv_iinc (v := (iI (l6_x130.toInt + 1))) (lv' := [(6, .int (iI (l6_x130.toInt + 1))), (5, .int (iI (l5_x130.toInt + 1))), (4, .int k0_j36), (3, .int l3_x5), (0, .ref (hO 0)), (1, .int p1), (2, .int p2)]) hx hb dX5_lay_191 hl (k := 1) rfl (iI_add2 (iI_of _) (by decide : (1 : Int32) = iI 1)) (by decide) rfl (fun ls hl => ?_)
                    refine lv_goto (tgt := 130) hx hb dX5_lay_194 (by decide) ?_
                    have hl := lv_sub hl [0, 1, 2, 3, 4, 5, 6] (l' := [(6, .int (iI (l6_x130.toInt + 1))), (5, .int (iI (l5_x130.toInt + 1))), (4, .int k0_j36), (3, .int l3_x5), (0, .ref (hO 0)), (1, .int p1), (2, .int p2)]) rfl
                    exact ihx130 wl_983 wb_983 wG_983 (iI (l6_x130.toInt + 1)) (iI (l5_x130.toInt + 1)) _ _ _ b_wl_983 b_wb_983 (iI_rng (by omega) (by omega) (by decide) (by decide)) (iI_rng (by omega) (by omega) (by decide) (by decide)) (show (iI (l5_x130.toInt + 1)).toInt ≤ (iI (l6_x130.toInt + 1)).toInt from by (try rw [iI_t (E := l3_x5.toInt + 1) (by omega) (by omega)]); (try rw [iI_t (E := l4_x5.toInt + 1) (by omega) (by omega)]); (try rw [iI_t (E := l5_x130.toInt + 1) (by omega) (by omega)]); (try rw [iI_t (E := l6_x130.toInt + 1) (by omega) (by omega)]); (try rw [iI_t (E := l5_x200.toInt + 1) (by omega) (by omega)]); (try rw [iI_t (E := l6_x200.toInt + 1) (by omega) (by omega)]); omega) (by have e9 : ((iI (l6_x130.toInt + 1))).toInt = (l6_x130.toInt + 1) := (iI_t (by omega) (by omega)); omega) hP hD hS hl
                  · have t_183 : r983.toInt = 0 := toI_nne c_183 rfl (by decide : (0 : Int32).toInt = 0)
                    refine lv_iconst (v := 0) hx hb dX5_lay_186 (by decide) ?_
                    refine W.widen (k := 0) (n := 0) (by decide +kernel) (by decide +kernel) ?_
                    exact W.zret (v := 0) hx hb hr rfl (fun t9_ ht hW => ⟨⟨(0 : Int32), (fO_start_x5, fO_column_x5, fQ_inside_674, fQ_outside_674, fQ_shut_674, iQ_rows_674, iQ_allRows_674, iQ_columns_674, wl_983, wb_983, wG_983), rfl, ⟨b_fO_column_x5, (by (try dsimp only); exact (by first | assumption | exact ⟨by omega, by omega⟩)), (by (try dsimp only); exact (by first | assumption | exact ⟨by omega, by omega⟩)), (by (try dsimp only); exact (by first | assumption | exact ⟨by omega, by omega⟩)), b_wl_983, b_wb_983, (by (try dsimp only); exact (by first | assumption | omega)), (show 0 ≤ (0 : Int32).toInt ∧ (0 : Int32).toInt ≤ 1 from by decide), (by (try dsimp only); omega), (by (try dsimp only); omega)⟩, by rw [ht]; exact hP, hD⟩, hS.F ht⟩) hS.2.2 dX5_lay_187
    · have t_14 : ¬ l4_x5.toInt ≥ iM_variables.toInt := toI_nge c_14 rfl rfl
      refine lv_iload_n hx hb dX5_lay_17 rfl (lv_at hl 3 rfl) ?_
      refine lv_if_ne (tgt := 34) hx hb dX5_lay_18 (by decide) (fun c_18 => ?_) (fun c_18 => ?_)
      · have t_18 : p1.toInt ≠ 0 := toI_ne c_18 rfl (by decide : (0 : Int32).toInt = 0)
        refine lv_iconst (v := 1) hx hb dX5_lay_34 (by decide) ?_
        refine lv_goto (tgt := 39) hx hb dX5_lay_35 (by decide) ?_
        refine lv_istore (lv' := [(5, .int 1), (4, .int l4_x5), (3, .int l3_x5), (0, .ref (hO 0)), (1, .int p1), (2, .int p2)]) hx hb dX5_lay_39 hl (by decide) rfl (fun ls hl => ?_)
        refine lv_aload_n hx hb dX5_lay_41 rfl (lv_at hl 3 rfl) ?_
        refine va_get (D := (dC, dI)) (ci := 5) (v := .ref (aO 4)) (C := RX5) (T := TX5) (N := 19) hx hb hts iwsMX5_lay_in5 hown hK hP 0 rfl rfl 10 (by decide) (hts (.fieldLink RX5 38 "OptimaWorks$Solver" "column" "[I") (by decide +kernel)) (fun _ h9 => h9) rfl dX5_lay_42 ?_
        refine lv_iload hx hb dX5_lay_45 (lv_at hl 1 rfl) ?_
        refine lv_iload hx hb dX5_lay_47 (lv_at hl 0 rfl) ?_
        refine lv_if_eq (tgt := 59) hx hb dX5_lay_49 (by decide) (fun c9 => absurd c9 (by decide)) (fun _ => ?_)
        refine lv_iinc (v := (iI (l3_x5.toInt + 1))) (lv' := [(3, .int (iI (l3_x5.toInt + 1))), (5, .int 1), (4, .int l4_x5), (0, .ref (hO 0)), (1, .int p1), (2, .int p2)]) hx hb dX5_lay_52 hl (k := 2) rfl (iI_add2 (iI_of _) (by decide : (1 : Int32) = iI 1)) (by decide) rfl (fun ls hl => ?_)
        refine lv_iload_n hx hb dX5_lay_55 rfl (lv_at hl 0 rfl) ?_
        refine lv_goto (tgt := 60) hx hb dX5_lay_56 (by decide) ?_
        refine va_iast (cA := kO 4) (n := 8) (f := fO_column_x5) hx hb hK hP hD hS 5 4 rfl rfl (vp_in_iff.mpr ⟨by omega, by omega⟩) dX5_lay_60 (fun H locs hP hD hS => ?_)
        obtain ⟨u984, hu984⟩ : ∃ f9, f9 = upd fO_column_x5 (l4_x5).toNatClampNeg (iI (l3_x5.toInt + 1)) := ⟨_, rfl⟩
        have hP : va_P (dC, dI) vwCl (WO hO aO kO hM hQ hw iO_answered iO_searched iO_searchedRelaxed iO_counted fO_countedCase gO_goalNumber gO_goalScale fO_start_x5 u984 fO_chosen ++ (WM hM aM kM iM_stands iM_variables iM_rows iM_goals iM_differents iM_cases fM_from fM_to fM_whole fM_ways iM_plainRows fM_plainRow fM_kept fM_goalOver fM_goalUnder fM_goalMax fM_different ++ (WQ hQ aQ kQ hw fQ_inside fQ_outside fQ_shut iQ_rows iQ_allRows iQ_columns ++ (WW nW hw lw kw wl wb wG)))) H := by rw [hu984]; exact hP
        have hD : va_D A (WO hO aO kO hM hQ hw iO_answered iO_searched iO_searchedRelaxed iO_counted fO_countedCase gO_goalNumber gO_goalScale fO_start_x5 u984 fO_chosen ++ (WM hM aM kM iM_stands iM_variables iM_rows iM_goals iM_differents iM_cases fM_from fM_to fM_whole fM_ways iM_plainRows fM_plainRow fM_kept fM_goalOver fM_goalUnder fM_goalMax fM_different ++ (WQ hQ aQ kQ hw fQ_inside fQ_outside fQ_shut iQ_rows iQ_allRows iQ_columns ++ (WW nW hw lw kw wl wb wG)))) := by rw [hu984]; exact hD
        have b_u984 : ∀ q : Nat, (-1) ≤ (u984 q).toInt ∧ (u984 q).toInt ≤ 8 := by rw [hu984]; exact upd_r b_fO_column_x5 (iI_rng (by omega) (by omega) (by decide) (by decide))
        clear hu984
        refine lv_iload_n hx hb dX5_lay_61 rfl (lv_at hl 4 rfl) ?_
        refine lv_if_eq (tgt := 82) hx hb dX5_lay_62 (by decide) (fun c_62 => ?_) (fun c_62 => ?_)
        · have t_62 : p1.toInt = 0 := toI_eq c_62 rfl (by decide : (0 : Int32).toInt = 0)
          refine lv_iinc (v := (iI (l4_x5.toInt + 1))) (lv' := [(4, .int (iI (l4_x5.toInt + 1))), (3, .int (iI (l3_x5.toInt + 1))), (5, .int 1), (0, .ref (hO 0)), (1, .int p1), (2, .int p2)]) hx hb dX5_lay_82 hl (k := 2) rfl (iI_add2 (iI_of _) (by decide : (1 : Int32) = iI 1)) (by decide) rfl (fun ls hl => ?_)
          refine lv_goto (tgt := 5) hx hb dX5_lay_85 (by decide) ?_
          have hl := lv_sub hl [0, 1, 3, 4, 5] (l' := [(4, .int (iI (l4_x5.toInt + 1))), (3, .int (iI (l3_x5.toInt + 1))), (0, .ref (hO 0)), (1, .int p1), (2, .int p2)]) rfl
          exact ihx5 fO_start_x5 u984 (iI (l4_x5.toInt + 1)) (iI (l3_x5.toInt + 1)) _ _ _ b_u984 (iI_rng (by omega) (by omega) (by decide) (by decide)) (iI_rng (by omega) (by omega) (by decide) (by decide)) (show (iI (l3_x5.toInt + 1)).toInt ≤ (iI (l4_x5.toInt + 1)).toInt from by (try rw [iI_t (E := l3_x5.toInt + 1) (by omega) (by omega)]); (try rw [iI_t (E := l4_x5.toInt + 1) (by omega) (by omega)]); (try rw [iI_t (E := l5_x130.toInt + 1) (by omega) (by omega)]); (try rw [iI_t (E := l6_x130.toInt + 1) (by omega) (by omega)]); (try rw [iI_t (E := l5_x200.toInt + 1) (by omega) (by omega)]); (try rw [iI_t (E := l6_x200.toInt + 1) (by omega) (by omega)]); omega) (by have e9 : ((iI (l4_x5.toInt + 1))).toInt = (l4_x5.toInt + 1) := (iI_t (by omega) (by omega)); omega) hP hD hS hl
        · have t_62 : ¬ p1.toInt = 0 := toI_neq c_62 rfl (by decide : (0 : Int32).toInt = 0)
          refine lv_aload_n hx hb dX5_lay_65 rfl (lv_at hl 3 rfl) ?_
          refine va_get (D := (dC, dI)) (ci := 5) (v := .ref (aO 3)) (C := RX5) (T := TX5) (N := 19) hx hb hts iwsMX5_lay_in5 hown hK hP 0 rfl rfl 9 (by decide) (hts (.fieldLink RX5 35 "OptimaWorks$Solver" "start" "[I") (by decide +kernel)) (fun _ h9 => h9) rfl dX5_lay_66 ?_
          refine lv_iload hx hb dX5_lay_69 (lv_at hl 2 rfl) ?_
          refine lv_aload_n hx hb dX5_lay_71 rfl (lv_at hl 3 rfl) ?_
          refine va_get (D := (dC, dI)) (ci := 5) (v := .ref (hM 0)) (C := RX5) (T := TX5) (N := 19) hx hb hts iwsMX5_lay_in5 hown hK hP 0 rfl rfl 0 (by decide) (hts (.fieldLink RX5 74 "OptimaWorks$Solver" "model" "LOptimaWorks$Model;") (by decide +kernel)) (fun _ h9 => h9) rfl dX5_lay_72 ?_
          refine va_get (D := (dC, dI)) (ci := 1) (v := .ref (aM 0)) (C := RX1) (T := TX1) (N := 17) hx hb hts iwsMX5_lay_in1 hown hK hP 11 rfl rfl 6 (by decide) (hts (.fieldLink RX5 150 "OptimaWorks$Model" "from" "[I") (by decide +kernel)) (fun _ h9 => h9) rfl dX5_lay_75 ?_
          refine lv_iload hx hb dX5_lay_78 (lv_at hl 2 rfl) ?_
          refine va_iald (cA := kM 0) (n := 8) (f := fM_from) hx hb hK hP 12 10 rfl rfl (vp_in_iff.mpr ⟨by omega, by omega⟩) dX5_lay_80 ?_
          refine lv_topi (fun v985 hv985 => ?_)
          clear hv985
          refine va_iast (cA := kO 3) (n := 8) (f := fO_start_x5) hx hb hK hP hD hS 4 3 rfl rfl (vp_in_iff.mpr ⟨by omega, by omega⟩) dX5_lay_81 (fun H locs hP hD hS => ?_)
          obtain ⟨u986, hu986⟩ : ∃ f9, f9 = upd fO_start_x5 (l4_x5).toNatClampNeg v985 := ⟨_, rfl⟩
          have hP : va_P (dC, dI) vwCl (WO hO aO kO hM hQ hw iO_answered iO_searched iO_searchedRelaxed iO_counted fO_countedCase gO_goalNumber gO_goalScale u986 u984 fO_chosen ++ (WM hM aM kM iM_stands iM_variables iM_rows iM_goals iM_differents iM_cases fM_from fM_to fM_whole fM_ways iM_plainRows fM_plainRow fM_kept fM_goalOver fM_goalUnder fM_goalMax fM_different ++ (WQ hQ aQ kQ hw fQ_inside fQ_outside fQ_shut iQ_rows iQ_allRows iQ_columns ++ (WW nW hw lw kw wl wb wG)))) H := by rw [hu986]; exact hP
          have hD : va_D A (WO hO aO kO hM hQ hw iO_answered iO_searched iO_searchedRelaxed iO_counted fO_countedCase gO_goalNumber gO_goalScale u986 u984 fO_chosen ++ (WM hM aM kM iM_stands iM_variables iM_rows iM_goals iM_differents iM_cases fM_from fM_to fM_whole fM_ways iM_plainRows fM_plainRow fM_kept fM_goalOver fM_goalUnder fM_goalMax fM_different ++ (WQ hQ aQ kQ hw fQ_inside fQ_outside fQ_shut iQ_rows iQ_allRows iQ_columns ++ (WW nW hw lw kw wl wb wG)))) := by rw [hu986]; exact hD
          clear hu986
          refine lv_iinc (v := (iI (l4_x5.toInt + 1))) (lv' := [(4, .int (iI (l4_x5.toInt + 1))), (3, .int (iI (l3_x5.toInt + 1))), (5, .int 1), (0, .ref (hO 0)), (1, .int p1), (2, .int p2)]) hx hb dX5_lay_82 hl (k := 2) rfl (iI_add2 (iI_of _) (by decide : (1 : Int32) = iI 1)) (by decide) rfl (fun ls hl => ?_)
          refine lv_goto (tgt := 5) hx hb dX5_lay_85 (by decide) ?_
          have hl := lv_sub hl [0, 1, 3, 4, 5] (l' := [(4, .int (iI (l4_x5.toInt + 1))), (3, .int (iI (l3_x5.toInt + 1))), (0, .ref (hO 0)), (1, .int p1), (2, .int p2)]) rfl
          exact ihx5 u986 u984 (iI (l4_x5.toInt + 1)) (iI (l3_x5.toInt + 1)) _ _ _ b_u984 (iI_rng (by omega) (by omega) (by decide) (by decide)) (iI_rng (by omega) (by omega) (by decide) (by decide)) (show (iI (l3_x5.toInt + 1)).toInt ≤ (iI (l4_x5.toInt + 1)).toInt from by (try rw [iI_t (E := l3_x5.toInt + 1) (by omega) (by omega)]); (try rw [iI_t (E := l4_x5.toInt + 1) (by omega) (by omega)]); (try rw [iI_t (E := l5_x130.toInt + 1) (by omega) (by omega)]); (try rw [iI_t (E := l6_x130.toInt + 1) (by omega) (by omega)]); (try rw [iI_t (E := l5_x200.toInt + 1) (by omega) (by omega)]); (try rw [iI_t (E := l6_x200.toInt + 1) (by omega) (by omega)]); omega) (by have e9 : ((iI (l4_x5.toInt + 1))).toInt = (l4_x5.toInt + 1) := (iI_t (by omega) (by omega)); omega) hP hD hS hl
      · have t_18 : p1.toInt = 0 := toI_nne c_18 rfl (by decide : (0 : Int32).toInt = 0)
        refine lv_aload_n hx hb dX5_lay_21 rfl (lv_at hl 2 rfl) ?_
        refine va_get (D := (dC, dI)) (ci := 5) (v := .ref (hM 0)) (C := RX5) (T := TX5) (N := 19) hx hb hts iwsMX5_lay_in5 hown hK hP 0 rfl rfl 0 (by decide) (hts (.fieldLink RX5 74 "OptimaWorks$Solver" "model" "LOptimaWorks$Model;") (by decide +kernel)) (fun _ h9 => h9) rfl dX5_lay_22 ?_
        refine va_get (D := (dC, dI)) (ci := 1) (v := .ref (aM 2)) (C := RX1) (T := TX1) (N := 17) hx hb hts iwsMX5_lay_in1 hown hK hP 11 rfl rfl 8 (by decide) (hts (.fieldLink RX5 143 "OptimaWorks$Model" "whole" "[Z") (by decide +kernel)) (fun _ h9 => h9) rfl dX5_lay_25 ?_
        refine lv_iload hx hb dX5_lay_28 (lv_at hl 0 rfl) ?_
        refine va_zald (cA := kM 2) (n := 8) (f := fM_whole) hx hb hK hP 14 12 rfl rfl (vp_in_iff.mpr ⟨by omega, by omega⟩) dX5_lay_30 ?_
        refine lv_topi (fun v987 hv987 => ?_)
        clear hv987
        refine lv_if_ne (tgt := 38) hx hb dX5_lay_31 (by decide) (fun c_31 => ?_) (fun c_31 => ?_)
        · have t_31 : v987.toInt ≠ 0 := toI_ne c_31 rfl (by decide : (0 : Int32).toInt = 0)
          refine lv_iconst (v := 0) hx hb dX5_lay_38 (by decide) ?_
          refine lv_istore (lv' := [(5, .int 0), (4, .int l4_x5), (3, .int l3_x5), (0, .ref (hO 0)), (1, .int p1), (2, .int p2)]) hx hb dX5_lay_39 hl (by decide) rfl (fun ls hl => ?_)
          refine lv_aload_n hx hb dX5_lay_41 rfl (lv_at hl 3 rfl) ?_
          refine va_get (D := (dC, dI)) (ci := 5) (v := .ref (aO 4)) (C := RX5) (T := TX5) (N := 19) hx hb hts iwsMX5_lay_in5 hown hK hP 0 rfl rfl 10 (by decide) (hts (.fieldLink RX5 38 "OptimaWorks$Solver" "column" "[I") (by decide +kernel)) (fun _ h9 => h9) rfl dX5_lay_42 ?_
          refine lv_iload hx hb dX5_lay_45 (lv_at hl 1 rfl) ?_
          refine lv_iload hx hb dX5_lay_47 (lv_at hl 0 rfl) ?_
          refine lv_if_eq (tgt := 59) hx hb dX5_lay_49 (by decide) (fun _ => ?_) (fun c9 => absurd (by decide) c9)
          refine lv_iconst (v := (-1)) hx hb dX5_lay_59 (by decide) ?_
          refine va_iast (cA := kO 4) (n := 8) (f := fO_column_x5) hx hb hK hP hD hS 5 4 rfl rfl (vp_in_iff.mpr ⟨by omega, by omega⟩) dX5_lay_60 (fun H locs hP hD hS => ?_)
          obtain ⟨u988, hu988⟩ : ∃ f9, f9 = upd fO_column_x5 (l4_x5).toNatClampNeg ((-1) : Int32) := ⟨_, rfl⟩
          have hP : va_P (dC, dI) vwCl (WO hO aO kO hM hQ hw iO_answered iO_searched iO_searchedRelaxed iO_counted fO_countedCase gO_goalNumber gO_goalScale fO_start_x5 u988 fO_chosen ++ (WM hM aM kM iM_stands iM_variables iM_rows iM_goals iM_differents iM_cases fM_from fM_to fM_whole fM_ways iM_plainRows fM_plainRow fM_kept fM_goalOver fM_goalUnder fM_goalMax fM_different ++ (WQ hQ aQ kQ hw fQ_inside fQ_outside fQ_shut iQ_rows iQ_allRows iQ_columns ++ (WW nW hw lw kw wl wb wG)))) H := by rw [hu988]; exact hP
          have hD : va_D A (WO hO aO kO hM hQ hw iO_answered iO_searched iO_searchedRelaxed iO_counted fO_countedCase gO_goalNumber gO_goalScale fO_start_x5 u988 fO_chosen ++ (WM hM aM kM iM_stands iM_variables iM_rows iM_goals iM_differents iM_cases fM_from fM_to fM_whole fM_ways iM_plainRows fM_plainRow fM_kept fM_goalOver fM_goalUnder fM_goalMax fM_different ++ (WQ hQ aQ kQ hw fQ_inside fQ_outside fQ_shut iQ_rows iQ_allRows iQ_columns ++ (WW nW hw lw kw wl wb wG)))) := by rw [hu988]; exact hD
          have b_u988 : ∀ q : Nat, (-1) ≤ (u988 q).toInt ∧ (u988 q).toInt ≤ 8 := by rw [hu988]; exact upd_r b_fO_column_x5 (show (-1) ≤ ((-1) : Int32).toInt ∧ ((-1) : Int32).toInt ≤ 8 from by decide)
          clear hu988
          refine lv_iload_n hx hb dX5_lay_61 rfl (lv_at hl 4 rfl) ?_
          refine lv_if_eq (tgt := 82) hx hb dX5_lay_62 (by decide) (fun c_62 => ?_) (fun c_62 => ?_)
          · have t_62 : p1.toInt = 0 := toI_eq c_62 rfl (by decide : (0 : Int32).toInt = 0)
            refine lv_iinc (v := (iI (l4_x5.toInt + 1))) (lv' := [(4, .int (iI (l4_x5.toInt + 1))), (5, .int 0), (3, .int l3_x5), (0, .ref (hO 0)), (1, .int p1), (2, .int p2)]) hx hb dX5_lay_82 hl (k := 1) rfl (iI_add2 (iI_of _) (by decide : (1 : Int32) = iI 1)) (by decide) rfl (fun ls hl => ?_)
            refine lv_goto (tgt := 5) hx hb dX5_lay_85 (by decide) ?_
            have hl := lv_sub hl [0, 2, 3, 4, 5] (l' := [(4, .int (iI (l4_x5.toInt + 1))), (3, .int l3_x5), (0, .ref (hO 0)), (1, .int p1), (2, .int p2)]) rfl
            exact ihx5 fO_start_x5 u988 (iI (l4_x5.toInt + 1)) l3_x5 _ _ _ b_u988 (iI_rng (by omega) (by omega) (by decide) (by decide)) (by first | assumption | exact ⟨by omega, by omega⟩) (show l3_x5.toInt ≤ (iI (l4_x5.toInt + 1)).toInt from by (try rw [iI_t (E := l3_x5.toInt + 1) (by omega) (by omega)]); (try rw [iI_t (E := l4_x5.toInt + 1) (by omega) (by omega)]); (try rw [iI_t (E := l5_x130.toInt + 1) (by omega) (by omega)]); (try rw [iI_t (E := l6_x130.toInt + 1) (by omega) (by omega)]); (try rw [iI_t (E := l5_x200.toInt + 1) (by omega) (by omega)]); (try rw [iI_t (E := l6_x200.toInt + 1) (by omega) (by omega)]); omega) (by have e9 : ((iI (l4_x5.toInt + 1))).toInt = (l4_x5.toInt + 1) := (iI_t (by omega) (by omega)); omega) hP hD hS hl
          · have t_62 : ¬ p1.toInt = 0 := toI_neq c_62 rfl (by decide : (0 : Int32).toInt = 0)
            refine lv_aload_n hx hb dX5_lay_65 rfl (lv_at hl 3 rfl) ?_
            refine va_get (D := (dC, dI)) (ci := 5) (v := .ref (aO 3)) (C := RX5) (T := TX5) (N := 19) hx hb hts iwsMX5_lay_in5 hown hK hP 0 rfl rfl 9 (by decide) (hts (.fieldLink RX5 35 "OptimaWorks$Solver" "start" "[I") (by decide +kernel)) (fun _ h9 => h9) rfl dX5_lay_66 ?_
            refine lv_iload hx hb dX5_lay_69 (lv_at hl 1 rfl) ?_
            refine lv_aload_n hx hb dX5_lay_71 rfl (lv_at hl 3 rfl) ?_
            refine va_get (D := (dC, dI)) (ci := 5) (v := .ref (hM 0)) (C := RX5) (T := TX5) (N := 19) hx hb hts iwsMX5_lay_in5 hown hK hP 0 rfl rfl 0 (by decide) (hts (.fieldLink RX5 74 "OptimaWorks$Solver" "model" "LOptimaWorks$Model;") (by decide +kernel)) (fun _ h9 => h9) rfl dX5_lay_72 ?_
            refine va_get (D := (dC, dI)) (ci := 1) (v := .ref (aM 0)) (C := RX1) (T := TX1) (N := 17) hx hb hts iwsMX5_lay_in1 hown hK hP 11 rfl rfl 6 (by decide) (hts (.fieldLink RX5 150 "OptimaWorks$Model" "from" "[I") (by decide +kernel)) (fun _ h9 => h9) rfl dX5_lay_75 ?_
            refine lv_iload hx hb dX5_lay_78 (lv_at hl 1 rfl) ?_
            refine va_iald (cA := kM 0) (n := 8) (f := fM_from) hx hb hK hP 12 10 rfl rfl (vp_in_iff.mpr ⟨by omega, by omega⟩) dX5_lay_80 ?_
            refine lv_topi (fun v989 hv989 => ?_)
            clear hv989
            refine va_iast (cA := kO 3) (n := 8) (f := fO_start_x5) hx hb hK hP hD hS 4 3 rfl rfl (vp_in_iff.mpr ⟨by omega, by omega⟩) dX5_lay_81 (fun H locs hP hD hS => ?_)
            obtain ⟨u990, hu990⟩ : ∃ f9, f9 = upd fO_start_x5 (l4_x5).toNatClampNeg v989 := ⟨_, rfl⟩
            have hP : va_P (dC, dI) vwCl (WO hO aO kO hM hQ hw iO_answered iO_searched iO_searchedRelaxed iO_counted fO_countedCase gO_goalNumber gO_goalScale u990 u988 fO_chosen ++ (WM hM aM kM iM_stands iM_variables iM_rows iM_goals iM_differents iM_cases fM_from fM_to fM_whole fM_ways iM_plainRows fM_plainRow fM_kept fM_goalOver fM_goalUnder fM_goalMax fM_different ++ (WQ hQ aQ kQ hw fQ_inside fQ_outside fQ_shut iQ_rows iQ_allRows iQ_columns ++ (WW nW hw lw kw wl wb wG)))) H := by rw [hu990]; exact hP
            have hD : va_D A (WO hO aO kO hM hQ hw iO_answered iO_searched iO_searchedRelaxed iO_counted fO_countedCase gO_goalNumber gO_goalScale u990 u988 fO_chosen ++ (WM hM aM kM iM_stands iM_variables iM_rows iM_goals iM_differents iM_cases fM_from fM_to fM_whole fM_ways iM_plainRows fM_plainRow fM_kept fM_goalOver fM_goalUnder fM_goalMax fM_different ++ (WQ hQ aQ kQ hw fQ_inside fQ_outside fQ_shut iQ_rows iQ_allRows iQ_columns ++ (WW nW hw lw kw wl wb wG)))) := by rw [hu990]; exact hD
            clear hu990
            refine lv_iinc (v := (iI (l4_x5.toInt + 1))) (lv' := [(4, .int (iI (l4_x5.toInt + 1))), (5, .int 0), (3, .int l3_x5), (0, .ref (hO 0)), (1, .int p1), (2, .int p2)]) hx hb dX5_lay_82 hl (k := 1) rfl (iI_add2 (iI_of _) (by decide : (1 : Int32) = iI 1)) (by decide) rfl (fun ls hl => ?_)
            refine lv_goto (tgt := 5) hx hb dX5_lay_85 (by decide) ?_
            have hl := lv_sub hl [0, 2, 3, 4, 5] (l' := [(4, .int (iI (l4_x5.toInt + 1))), (3, .int l3_x5), (0, .ref (hO 0)), (1, .int p1), (2, .int p2)]) rfl
            exact ihx5 u990 u988 (iI (l4_x5.toInt + 1)) l3_x5 _ _ _ b_u988 (iI_rng (by omega) (by omega) (by decide) (by decide)) (by first | assumption | exact ⟨by omega, by omega⟩) (show l3_x5.toInt ≤ (iI (l4_x5.toInt + 1)).toInt from by (try rw [iI_t (E := l3_x5.toInt + 1) (by omega) (by omega)]); (try rw [iI_t (E := l4_x5.toInt + 1) (by omega) (by omega)]); (try rw [iI_t (E := l5_x130.toInt + 1) (by omega) (by omega)]); (try rw [iI_t (E := l6_x130.toInt + 1) (by omega) (by omega)]); (try rw [iI_t (E := l5_x200.toInt + 1) (by omega) (by omega)]); (try rw [iI_t (E := l6_x200.toInt + 1) (by omega) (by omega)]); omega) (by have e9 : ((iI (l4_x5.toInt + 1))).toInt = (l4_x5.toInt + 1) := (iI_t (by omega) (by omega)); omega) hP hD hS hl
        · have t_31 : v987.toInt = 0 := toI_nne c_31 rfl (by decide : (0 : Int32).toInt = 0)
          refine lv_iconst (v := 1) hx hb dX5_lay_34 (by decide) ?_
          refine lv_goto (tgt := 39) hx hb dX5_lay_35 (by decide) ?_
          refine lv_istore (lv' := [(5, .int 1), (4, .int l4_x5), (3, .int l3_x5), (0, .ref (hO 0)), (1, .int p1), (2, .int p2)]) hx hb dX5_lay_39 hl (by decide) rfl (fun ls hl => ?_)
          refine lv_aload_n hx hb dX5_lay_41 rfl (lv_at hl 3 rfl) ?_
          refine va_get (D := (dC, dI)) (ci := 5) (v := .ref (aO 4)) (C := RX5) (T := TX5) (N := 19) hx hb hts iwsMX5_lay_in5 hown hK hP 0 rfl rfl 10 (by decide) (hts (.fieldLink RX5 38 "OptimaWorks$Solver" "column" "[I") (by decide +kernel)) (fun _ h9 => h9) rfl dX5_lay_42 ?_
          refine lv_iload hx hb dX5_lay_45 (lv_at hl 1 rfl) ?_
          refine lv_iload hx hb dX5_lay_47 (lv_at hl 0 rfl) ?_
          refine lv_if_eq (tgt := 59) hx hb dX5_lay_49 (by decide) (fun c9 => absurd c9 (by decide)) (fun _ => ?_)
          refine lv_iinc (v := (iI (l3_x5.toInt + 1))) (lv' := [(3, .int (iI (l3_x5.toInt + 1))), (5, .int 1), (4, .int l4_x5), (0, .ref (hO 0)), (1, .int p1), (2, .int p2)]) hx hb dX5_lay_52 hl (k := 2) rfl (iI_add2 (iI_of _) (by decide : (1 : Int32) = iI 1)) (by decide) rfl (fun ls hl => ?_)
          refine lv_iload_n hx hb dX5_lay_55 rfl (lv_at hl 0 rfl) ?_
          refine lv_goto (tgt := 60) hx hb dX5_lay_56 (by decide) ?_
          refine va_iast (cA := kO 4) (n := 8) (f := fO_column_x5) hx hb hK hP hD hS 5 4 rfl rfl (vp_in_iff.mpr ⟨by omega, by omega⟩) dX5_lay_60 (fun H locs hP hD hS => ?_)
          obtain ⟨u991, hu991⟩ : ∃ f9, f9 = upd fO_column_x5 (l4_x5).toNatClampNeg (iI (l3_x5.toInt + 1)) := ⟨_, rfl⟩
          have hP : va_P (dC, dI) vwCl (WO hO aO kO hM hQ hw iO_answered iO_searched iO_searchedRelaxed iO_counted fO_countedCase gO_goalNumber gO_goalScale fO_start_x5 u991 fO_chosen ++ (WM hM aM kM iM_stands iM_variables iM_rows iM_goals iM_differents iM_cases fM_from fM_to fM_whole fM_ways iM_plainRows fM_plainRow fM_kept fM_goalOver fM_goalUnder fM_goalMax fM_different ++ (WQ hQ aQ kQ hw fQ_inside fQ_outside fQ_shut iQ_rows iQ_allRows iQ_columns ++ (WW nW hw lw kw wl wb wG)))) H := by rw [hu991]; exact hP
          have hD : va_D A (WO hO aO kO hM hQ hw iO_answered iO_searched iO_searchedRelaxed iO_counted fO_countedCase gO_goalNumber gO_goalScale fO_start_x5 u991 fO_chosen ++ (WM hM aM kM iM_stands iM_variables iM_rows iM_goals iM_differents iM_cases fM_from fM_to fM_whole fM_ways iM_plainRows fM_plainRow fM_kept fM_goalOver fM_goalUnder fM_goalMax fM_different ++ (WQ hQ aQ kQ hw fQ_inside fQ_outside fQ_shut iQ_rows iQ_allRows iQ_columns ++ (WW nW hw lw kw wl wb wG)))) := by rw [hu991]; exact hD
          have b_u991 : ∀ q : Nat, (-1) ≤ (u991 q).toInt ∧ (u991 q).toInt ≤ 8 := by rw [hu991]; exact upd_r b_fO_column_x5 (iI_rng (by omega) (by omega) (by decide) (by decide))
          clear hu991
          refine lv_iload_n hx hb dX5_lay_61 rfl (lv_at hl 4 rfl) ?_
          refine lv_if_eq (tgt := 82) hx hb dX5_lay_62 (by decide) (fun c_62 => ?_) (fun c_62 => ?_)
          · have t_62 : p1.toInt = 0 := toI_eq c_62 rfl (by decide : (0 : Int32).toInt = 0)
            refine lv_iinc (v := (iI (l4_x5.toInt + 1))) (lv' := [(4, .int (iI (l4_x5.toInt + 1))), (3, .int (iI (l3_x5.toInt + 1))), (5, .int 1), (0, .ref (hO 0)), (1, .int p1), (2, .int p2)]) hx hb dX5_lay_82 hl (k := 2) rfl (iI_add2 (iI_of _) (by decide : (1 : Int32) = iI 1)) (by decide) rfl (fun ls hl => ?_)
            refine lv_goto (tgt := 5) hx hb dX5_lay_85 (by decide) ?_
            have hl := lv_sub hl [0, 1, 3, 4, 5] (l' := [(4, .int (iI (l4_x5.toInt + 1))), (3, .int (iI (l3_x5.toInt + 1))), (0, .ref (hO 0)), (1, .int p1), (2, .int p2)]) rfl
            exact ihx5 fO_start_x5 u991 (iI (l4_x5.toInt + 1)) (iI (l3_x5.toInt + 1)) _ _ _ b_u991 (iI_rng (by omega) (by omega) (by decide) (by decide)) (iI_rng (by omega) (by omega) (by decide) (by decide)) (show (iI (l3_x5.toInt + 1)).toInt ≤ (iI (l4_x5.toInt + 1)).toInt from by (try rw [iI_t (E := l3_x5.toInt + 1) (by omega) (by omega)]); (try rw [iI_t (E := l4_x5.toInt + 1) (by omega) (by omega)]); (try rw [iI_t (E := l5_x130.toInt + 1) (by omega) (by omega)]); (try rw [iI_t (E := l6_x130.toInt + 1) (by omega) (by omega)]); (try rw [iI_t (E := l5_x200.toInt + 1) (by omega) (by omega)]); (try rw [iI_t (E := l6_x200.toInt + 1) (by omega) (by omega)]); omega) (by have e9 : ((iI (l4_x5.toInt + 1))).toInt = (l4_x5.toInt + 1) := (iI_t (by omega) (by omega)); omega) hP hD hS hl
          · have t_62 : ¬ p1.toInt = 0 := toI_neq c_62 rfl (by decide : (0 : Int32).toInt = 0)
            refine lv_aload_n hx hb dX5_lay_65 rfl (lv_at hl 3 rfl) ?_
            refine va_get (D := (dC, dI)) (ci := 5) (v := .ref (aO 3)) (C := RX5) (T := TX5) (N := 19) hx hb hts iwsMX5_lay_in5 hown hK hP 0 rfl rfl 9 (by decide) (hts (.fieldLink RX5 35 "OptimaWorks$Solver" "start" "[I") (by decide +kernel)) (fun _ h9 => h9) rfl dX5_lay_66 ?_
            refine lv_iload hx hb dX5_lay_69 (lv_at hl 2 rfl) ?_
            refine lv_aload_n hx hb dX5_lay_71 rfl (lv_at hl 3 rfl) ?_
            refine va_get (D := (dC, dI)) (ci := 5) (v := .ref (hM 0)) (C := RX5) (T := TX5) (N := 19) hx hb hts iwsMX5_lay_in5 hown hK hP 0 rfl rfl 0 (by decide) (hts (.fieldLink RX5 74 "OptimaWorks$Solver" "model" "LOptimaWorks$Model;") (by decide +kernel)) (fun _ h9 => h9) rfl dX5_lay_72 ?_
            refine va_get (D := (dC, dI)) (ci := 1) (v := .ref (aM 0)) (C := RX1) (T := TX1) (N := 17) hx hb hts iwsMX5_lay_in1 hown hK hP 11 rfl rfl 6 (by decide) (hts (.fieldLink RX5 150 "OptimaWorks$Model" "from" "[I") (by decide +kernel)) (fun _ h9 => h9) rfl dX5_lay_75 ?_
            refine lv_iload hx hb dX5_lay_78 (lv_at hl 2 rfl) ?_
            refine va_iald (cA := kM 0) (n := 8) (f := fM_from) hx hb hK hP 12 10 rfl rfl (vp_in_iff.mpr ⟨by omega, by omega⟩) dX5_lay_80 ?_
            refine lv_topi (fun v992 hv992 => ?_)
            clear hv992
            refine va_iast (cA := kO 3) (n := 8) (f := fO_start_x5) hx hb hK hP hD hS 4 3 rfl rfl (vp_in_iff.mpr ⟨by omega, by omega⟩) dX5_lay_81 (fun H locs hP hD hS => ?_)
            obtain ⟨u993, hu993⟩ : ∃ f9, f9 = upd fO_start_x5 (l4_x5).toNatClampNeg v992 := ⟨_, rfl⟩
            have hP : va_P (dC, dI) vwCl (WO hO aO kO hM hQ hw iO_answered iO_searched iO_searchedRelaxed iO_counted fO_countedCase gO_goalNumber gO_goalScale u993 u991 fO_chosen ++ (WM hM aM kM iM_stands iM_variables iM_rows iM_goals iM_differents iM_cases fM_from fM_to fM_whole fM_ways iM_plainRows fM_plainRow fM_kept fM_goalOver fM_goalUnder fM_goalMax fM_different ++ (WQ hQ aQ kQ hw fQ_inside fQ_outside fQ_shut iQ_rows iQ_allRows iQ_columns ++ (WW nW hw lw kw wl wb wG)))) H := by rw [hu993]; exact hP
            have hD : va_D A (WO hO aO kO hM hQ hw iO_answered iO_searched iO_searchedRelaxed iO_counted fO_countedCase gO_goalNumber gO_goalScale u993 u991 fO_chosen ++ (WM hM aM kM iM_stands iM_variables iM_rows iM_goals iM_differents iM_cases fM_from fM_to fM_whole fM_ways iM_plainRows fM_plainRow fM_kept fM_goalOver fM_goalUnder fM_goalMax fM_different ++ (WQ hQ aQ kQ hw fQ_inside fQ_outside fQ_shut iQ_rows iQ_allRows iQ_columns ++ (WW nW hw lw kw wl wb wG)))) := by rw [hu993]; exact hD
            clear hu993
            refine lv_iinc (v := (iI (l4_x5.toInt + 1))) (lv' := [(4, .int (iI (l4_x5.toInt + 1))), (3, .int (iI (l3_x5.toInt + 1))), (5, .int 1), (0, .ref (hO 0)), (1, .int p1), (2, .int p2)]) hx hb dX5_lay_82 hl (k := 2) rfl (iI_add2 (iI_of _) (by decide : (1 : Int32) = iI 1)) (by decide) rfl (fun ls hl => ?_)
            refine lv_goto (tgt := 5) hx hb dX5_lay_85 (by decide) ?_
            have hl := lv_sub hl [0, 1, 3, 4, 5] (l' := [(4, .int (iI (l4_x5.toInt + 1))), (3, .int (iI (l3_x5.toInt + 1))), (0, .ref (hO 0)), (1, .int p1), (2, .int p2)]) rfl
            exact ihx5 u993 u991 (iI (l4_x5.toInt + 1)) (iI (l3_x5.toInt + 1)) _ _ _ b_u991 (iI_rng (by omega) (by omega) (by decide) (by decide)) (iI_rng (by omega) (by omega) (by decide) (by decide)) (show (iI (l3_x5.toInt + 1)).toInt ≤ (iI (l4_x5.toInt + 1)).toInt from by (try rw [iI_t (E := l3_x5.toInt + 1) (by omega) (by omega)]); (try rw [iI_t (E := l4_x5.toInt + 1) (by omega) (by omega)]); (try rw [iI_t (E := l5_x130.toInt + 1) (by omega) (by omega)]); (try rw [iI_t (E := l6_x130.toInt + 1) (by omega) (by omega)]); (try rw [iI_t (E := l5_x200.toInt + 1) (by omega) (by omega)]); (try rw [iI_t (E := l6_x200.toInt + 1) (by omega) (by omega)]); omega) (by have e9 : ((iI (l4_x5.toInt + 1))).toInt = (l4_x5.toInt + 1) := (iI_t (by omega) (by omega)); omega) hP hD hS hl

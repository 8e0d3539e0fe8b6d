section
theorem hd_yX5_scaledNumber_RX5 : yX5_scaledNumber.cls = RX5 ∧ yX5_scaledNumber.cls ≠ "java/lang/invoke/MethodHandle" ∧ yX5_scaledNumber.cls ≠ "java/lang/invoke/VarHandle" ∧ (parseMethodDescriptor yX5_scaledNumber.desc).map (fun d => d.parameters.length) = some 2 := by decide +kernel
theorem hd_yX5_addTimes_RX5 : yX5_addTimes.cls = RX5 ∧ yX5_addTimes.cls ≠ "java/lang/invoke/MethodHandle" ∧ yX5_addTimes.cls ≠ "java/lang/invoke/VarHandle" ∧ (parseMethodDescriptor yX5_addTimes.desc).map (fun d => d.parameters.length) = some 3 := by decide +kernel
theorem dX5_layWay_0 : decode cX5_layWay 0 = .ok (.aload_n 0, 1) := dk_42 (by decide +kernel)
theorem dX5_layWay_1 : decode cX5_layWay 1 = .ok (.getfield 74, 3) := dk_180 (by decide +kernel)
theorem dX5_layWay_4 : decode cX5_layWay 4 = .ok (.iload_n 2, 1) := dk_28 (by decide +kernel)
theorem dX5_layWay_5 : decode cX5_layWay 5 = .ok (.iload_n 3, 1) := dk_29 (by decide +kernel)
theorem dX5_layWay_6 : decode cX5_layWay 6 = .ok (.invokevirtual 194, 3) := dk_182 (by decide +kernel)
theorem dX5_layWay_9 : decode cX5_layWay 9 = .ok (.istore 4, 2) := dk_54 (by decide +kernel)
theorem dX5_layWay_11 : decode cX5_layWay 11 = .ok (.iload 4, 2) := dk_21 (by decide +kernel)
theorem dX5_layWay_13 : decode cX5_layWay 13 = .ok (.ifCond .ne 7, 3) := dk_154 (by decide +kernel)
theorem dX5_layWay_16 : decode cX5_layWay 16 = .ok (.iconst (-1), 1) := dk_2 (by decide +kernel)
theorem dX5_layWay_17 : decode cX5_layWay 17 = .ok (.goto 4, 3) := dk_167 (by decide +kernel)
theorem dX5_layWay_20 : decode cX5_layWay 20 = .ok (.iconst 1, 1) := dk_4 (by decide +kernel)
theorem dX5_layWay_21 : decode cX5_layWay 21 = .ok (.istore 5, 2) := dk_54 (by decide +kernel)
theorem dX5_layWay_23 : decode cX5_layWay 23 = .ok (.iload 5, 2) := dk_21 (by decide +kernel)
theorem dX5_layWay_25 : decode cX5_layWay 25 = .ok (.ineg, 1) := dk_116 (by decide +kernel)
theorem dX5_layWay_26 : decode cX5_layWay 26 = .ok (.aload_n 0, 1) := dk_42 (by decide +kernel)
theorem dX5_layWay_27 : decode cX5_layWay 27 = .ok (.getfield 74, 3) := dk_180 (by decide +kernel)
theorem dX5_layWay_30 : decode cX5_layWay 30 = .ok (.iload_n 2, 1) := dk_28 (by decide +kernel)
theorem dX5_layWay_31 : decode cX5_layWay 31 = .ok (.iload_n 3, 1) := dk_29 (by decide +kernel)
theorem dX5_layWay_32 : decode cX5_layWay 32 = .ok (.invokevirtual 197, 3) := dk_182 (by decide +kernel)
theorem dX5_layWay_35 : decode cX5_layWay 35 = .ok (.imul, 1) := dk_104 (by decide +kernel)
theorem dX5_layWay_36 : decode cX5_layWay 36 = .ok (.istore 6, 2) := dk_54 (by decide +kernel)
theorem dX5_layWay_38 : decode cX5_layWay 38 = .ok (.iconst 0, 1) := dk_3 (by decide +kernel)
theorem dX5_layWay_39 : decode cX5_layWay 39 = .ok (.istore 7, 2) := dk_54 (by decide +kernel)
theorem dX5_layWay_41 : decode cX5_layWay 41 = .ok (.iconst 0, 1) := dk_3 (by decide +kernel)
theorem dX5_layWay_42 : decode cX5_layWay 42 = .ok (.istore 8, 2) := dk_54 (by decide +kernel)
theorem dX5_layWay_44 : decode cX5_layWay 44 = .ok (.iconst 0, 1) := dk_3 (by decide +kernel)
theorem dX5_layWay_45 : decode cX5_layWay 45 = .ok (.istore 9, 2) := dk_54 (by decide +kernel)
theorem dX5_layWay_47 : decode cX5_layWay 47 = .ok (.iload 9, 2) := dk_21 (by decide +kernel)
theorem dX5_layWay_49 : decode cX5_layWay 49 = .ok (.aload_n 0, 1) := dk_42 (by decide +kernel)
theorem dX5_layWay_50 : decode cX5_layWay 50 = .ok (.getfield 74, 3) := dk_180 (by decide +kernel)
theorem dX5_layWay_53 : decode cX5_layWay 53 = .ok (.getfield 112, 3) := dk_180 (by decide +kernel)
theorem dX5_layWay_56 : decode cX5_layWay 56 = .ok (.if_icmp .ge 125, 3) := dk_162 (by decide +kernel)
theorem dX5_layWay_59 : decode cX5_layWay 59 = .ok (.iload 5, 2) := dk_21 (by decide +kernel)
theorem dX5_layWay_61 : decode cX5_layWay 61 = .ok (.aload_n 0, 1) := dk_42 (by decide +kernel)
theorem dX5_layWay_62 : decode cX5_layWay 62 = .ok (.getfield 74, 3) := dk_180 (by decide +kernel)
theorem dX5_layWay_65 : decode cX5_layWay 65 = .ok (.iload_n 2, 1) := dk_28 (by decide +kernel)
theorem dX5_layWay_66 : decode cX5_layWay 66 = .ok (.iload_n 3, 1) := dk_29 (by decide +kernel)
theorem dX5_layWay_67 : decode cX5_layWay 67 = .ok (.iload 9, 2) := dk_21 (by decide +kernel)
theorem dX5_layWay_69 : decode cX5_layWay 69 = .ok (.invokevirtual 200, 3) := dk_182 (by decide +kernel)
theorem dX5_layWay_72 : decode cX5_layWay 72 = .ok (.imul, 1) := dk_104 (by decide +kernel)
theorem dX5_layWay_73 : decode cX5_layWay 73 = .ok (.istore 10, 2) := dk_54 (by decide +kernel)
theorem dX5_layWay_75 : decode cX5_layWay 75 = .ok (.iload 6, 2) := dk_21 (by decide +kernel)
theorem dX5_layWay_77 : decode cX5_layWay 77 = .ok (.iload 10, 2) := dk_21 (by decide +kernel)
theorem dX5_layWay_79 : decode cX5_layWay 79 = .ok (.aload_n 0, 1) := dk_42 (by decide +kernel)
theorem dX5_layWay_80 : decode cX5_layWay 80 = .ok (.getfield 35, 3) := dk_180 (by decide +kernel)
theorem dX5_layWay_83 : decode cX5_layWay 83 = .ok (.iload 9, 2) := dk_21 (by decide +kernel)
theorem dX5_layWay_85 : decode cX5_layWay 85 = .ok (.iaload, 1) := dk_46 (by decide +kernel)
theorem dX5_layWay_86 : decode cX5_layWay 86 = .ok (.imul, 1) := dk_104 (by decide +kernel)
theorem dX5_layWay_87 : decode cX5_layWay 87 = .ok (.iadd, 1) := dk_96 (by decide +kernel)
theorem dX5_layWay_88 : decode cX5_layWay 88 = .ok (.istore 6, 2) := dk_54 (by decide +kernel)
theorem dX5_layWay_90 : decode cX5_layWay 90 = .ok (.iload 10, 2) := dk_21 (by decide +kernel)
theorem dX5_layWay_92 : decode cX5_layWay 92 = .ok (.ifCond .eq 83, 3) := dk_153 (by decide +kernel)
theorem dX5_layWay_95 : decode cX5_layWay 95 = .ok (.aload_n 0, 1) := dk_42 (by decide +kernel)
theorem dX5_layWay_96 : decode cX5_layWay 96 = .ok (.getfield 38, 3) := dk_180 (by decide +kernel)
theorem dX5_layWay_99 : decode cX5_layWay 99 = .ok (.iload 9, 2) := dk_21 (by decide +kernel)
theorem dX5_layWay_101 : decode cX5_layWay 101 = .ok (.iaload, 1) := dk_46 (by decide +kernel)
theorem dX5_layWay_102 : decode cX5_layWay 102 = .ok (.iconst (-1), 1) := dk_2 (by decide +kernel)
theorem dX5_layWay_103 : decode cX5_layWay 103 = .ok (.if_icmp .eq 72, 3) := dk_159 (by decide +kernel)
theorem dX5_layWay_106 : decode cX5_layWay 106 = .ok (.aload_n 0, 1) := dk_42 (by decide +kernel)
theorem dX5_layWay_107 : decode cX5_layWay 107 = .ok (.getfield 12, 3) := dk_180 (by decide +kernel)
theorem dX5_layWay_110 : decode cX5_layWay 110 = .ok (.iload_n 1, 1) := dk_27 (by decide +kernel)
theorem dX5_layWay_111 : decode cX5_layWay 111 = .ok (.aload_n 0, 1) := dk_42 (by decide +kernel)
theorem dX5_layWay_112 : decode cX5_layWay 112 = .ok (.getfield 38, 3) := dk_180 (by decide +kernel)
theorem dX5_layWay_115 : decode cX5_layWay 115 = .ok (.iload 9, 2) := dk_21 (by decide +kernel)
theorem dX5_layWay_117 : decode cX5_layWay 117 = .ok (.iaload, 1) := dk_46 (by decide +kernel)
theorem dX5_layWay_118 : decode cX5_layWay 118 = .ok (.invokevirtual 177, 3) := dk_182 (by decide +kernel)
theorem dX5_layWay_121 : decode cX5_layWay 121 = .ok (.iload 10, 2) := dk_21 (by decide +kernel)
theorem dX5_layWay_123 : decode cX5_layWay 123 = .ok (.i2l, 1) := dk_133 (by decide +kernel)
theorem dX5_layWay_124 : decode cX5_layWay 124 = .ok (.invokevirtual 184, 3) := dk_182 (by decide +kernel)
theorem dX5_layWay_127 : decode cX5_layWay 127 = .ok (.iload 10, 2) := dk_21 (by decide +kernel)
theorem dX5_layWay_129 : decode cX5_layWay 129 = .ok (.aload_n 0, 1) := dk_42 (by decide +kernel)
theorem dX5_layWay_130 : decode cX5_layWay 130 = .ok (.getfield 74, 3) := dk_180 (by decide +kernel)
theorem dX5_layWay_133 : decode cX5_layWay 133 = .ok (.getfield 181, 3) := dk_180 (by decide +kernel)
theorem dX5_layWay_136 : decode cX5_layWay 136 = .ok (.iload 9, 2) := dk_21 (by decide +kernel)
theorem dX5_layWay_138 : decode cX5_layWay 138 = .ok (.iaload, 1) := dk_46 (by decide +kernel)
theorem dX5_layWay_139 : decode cX5_layWay 139 = .ok (.aload_n 0, 1) := dk_42 (by decide +kernel)
theorem dX5_layWay_140 : decode cX5_layWay 140 = .ok (.getfield 74, 3) := dk_180 (by decide +kernel)
theorem dX5_layWay_143 : decode cX5_layWay 143 = .ok (.getfield 150, 3) := dk_180 (by decide +kernel)
theorem dX5_layWay_146 : decode cX5_layWay 146 = .ok (.iload 9, 2) := dk_21 (by decide +kernel)
theorem dX5_layWay_148 : decode cX5_layWay 148 = .ok (.iaload, 1) := dk_46 (by decide +kernel)
theorem dX5_layWay_149 : decode cX5_layWay 149 = .ok (.isub, 1) := dk_100 (by decide +kernel)
theorem dX5_layWay_150 : decode cX5_layWay 150 = .ok (.imul, 1) := dk_104 (by decide +kernel)
theorem dX5_layWay_151 : decode cX5_layWay 151 = .ok (.istore 11, 2) := dk_54 (by decide +kernel)
theorem dX5_layWay_153 : decode cX5_layWay 153 = .ok (.iload 7, 2) := dk_21 (by decide +kernel)
theorem dX5_layWay_155 : decode cX5_layWay 155 = .ok (.iload 11, 2) := dk_21 (by decide +kernel)
theorem dX5_layWay_157 : decode cX5_layWay 157 = .ok (.iconst 0, 1) := dk_3 (by decide +kernel)
theorem dX5_layWay_158 : decode cX5_layWay 158 = .ok (.invokestatic 204, 3) := dk_184 (by decide +kernel)
theorem dX5_layWay_161 : decode cX5_layWay 161 = .ok (.iadd, 1) := dk_96 (by decide +kernel)
theorem dX5_layWay_162 : decode cX5_layWay 162 = .ok (.istore 7, 2) := dk_54 (by decide +kernel)
theorem dX5_layWay_164 : decode cX5_layWay 164 = .ok (.iload 8, 2) := dk_21 (by decide +kernel)
theorem dX5_layWay_166 : decode cX5_layWay 166 = .ok (.iload 11, 2) := dk_21 (by decide +kernel)
theorem dX5_layWay_168 : decode cX5_layWay 168 = .ok (.iconst 0, 1) := dk_3 (by decide +kernel)
theorem dX5_layWay_169 : decode cX5_layWay 169 = .ok (.invokestatic 137, 3) := dk_184 (by decide +kernel)
theorem dX5_layWay_172 : decode cX5_layWay 172 = .ok (.iadd, 1) := dk_96 (by decide +kernel)
theorem dX5_layWay_173 : decode cX5_layWay 173 = .ok (.istore 8, 2) := dk_54 (by decide +kernel)
theorem dX5_layWay_175 : decode cX5_layWay 175 = .ok (.iinc 9 1, 3) := dk_132 (by decide +kernel)
theorem dX5_layWay_178 : decode cX5_layWay 178 = .ok (.goto (-131), 3) := dk_167 (by decide +kernel)
theorem dX5_layWay_181 : decode cX5_layWay 181 = .ok (.aload_n 0, 1) := dk_42 (by decide +kernel)
theorem dX5_layWay_182 : decode cX5_layWay 182 = .ok (.getfield 12, 3) := dk_180 (by decide +kernel)
theorem dX5_layWay_185 : decode cX5_layWay 185 = .ok (.iload_n 1, 1) := dk_27 (by decide +kernel)
theorem dX5_layWay_186 : decode cX5_layWay 186 = .ok (.iconst 0, 1) := dk_3 (by decide +kernel)
theorem dX5_layWay_187 : decode cX5_layWay 187 = .ok (.invokevirtual 177, 3) := dk_182 (by decide +kernel)
theorem dX5_layWay_190 : decode cX5_layWay 190 = .ok (.iload 6, 2) := dk_21 (by decide +kernel)
theorem dX5_layWay_192 : decode cX5_layWay 192 = .ok (.i2l, 1) := dk_133 (by decide +kernel)
theorem dX5_layWay_193 : decode cX5_layWay 193 = .ok (.invokevirtual 184, 3) := dk_182 (by decide +kernel)
theorem dX5_layWay_196 : decode cX5_layWay 196 = .ok (.iload 6, 2) := dk_21 (by decide +kernel)
theorem dX5_layWay_198 : decode cX5_layWay 198 = .ok (.iload 8, 2) := dk_21 (by decide +kernel)
theorem dX5_layWay_200 : decode cX5_layWay 200 = .ok (.iadd, 1) := dk_96 (by decide +kernel)
theorem dX5_layWay_201 : decode cX5_layWay 201 = .ok (.ifCond .lt 21, 3) := dk_155 (by decide +kernel)
theorem dX5_layWay_204 : decode cX5_layWay 204 = .ok (.iload 4, 2) := dk_21 (by decide +kernel)
theorem dX5_layWay_206 : decode cX5_layWay 206 = .ok (.iconst 2, 1) := dk_5 (by decide +kernel)
theorem dX5_layWay_207 : decode cX5_layWay 207 = .ok (.if_icmp .ne 11, 3) := dk_160 (by decide +kernel)
theorem dX5_layWay_210 : decode cX5_layWay 210 = .ok (.iload 6, 2) := dk_21 (by decide +kernel)
theorem dX5_layWay_212 : decode cX5_layWay 212 = .ok (.iload 7, 2) := dk_21 (by decide +kernel)
theorem dX5_layWay_214 : decode cX5_layWay 214 = .ok (.iadd, 1) := dk_96 (by decide +kernel)
theorem dX5_layWay_215 : decode cX5_layWay 215 = .ok (.ifCond .gt 7, 3) := dk_157 (by decide +kernel)
theorem dX5_layWay_218 : decode cX5_layWay 218 = .ok (.iconst 1, 1) := dk_4 (by decide +kernel)
theorem dX5_layWay_219 : decode cX5_layWay 219 = .ok (.goto 4, 3) := dk_167 (by decide +kernel)
theorem dX5_layWay_222 : decode cX5_layWay 222 = .ok (.iconst 0, 1) := dk_3 (by decide +kernel)
theorem dX5_layWay_223 : decode cX5_layWay 223 = .ok (.ireturn, 1) := dk_172 (by decide +kernel)
def wsMX5_layWay : List Cond := .code yX5_layWay cX5_layWay 12 (some .boolean) :: ([.fieldLink RX5 74 "OptimaWorks$Solver" "model" "LOptimaWorks$Model;", .fieldLink RX5 112 "OptimaWorks$Model" "variables" "I", .fieldLink RX5 35 "OptimaWorks$Solver" "start" "[I", .fieldLink RX5 38 "OptimaWorks$Solver" "column" "[I", .fieldLink RX5 12 "OptimaWorks$Solver" "tableau" "LOptimaWorks$Tableau;", .fieldLink RX5 181 "OptimaWorks$Model" "to" "[I", .fieldLink RX5 150 "OptimaWorks$Model" "from" "[I", .methodLink RX5 204 Lib.Math.min.name, .static Lib.Math.min.name, .initialized "java/lang/Math", .code Lib.Math.min.name Lib.Math.min.code 2 (some .int), .methodLink RX5 137 Lib.Math.max.name, .static Lib.Math.max.name, .code Lib.Math.max.name Lib.Math.max.code 2 (some .int)] ++ wsX10 ++ wsX50 ++ (wsV RX5 194 RX1 yX1_sign wsMX1_sign) ++ (wsV RX5 197 RX1 yX1_rightSide wsMX1_rightSide) ++ (wsV RX5 200 RX1 yX1_number wsMX1_number) ++ (wsV RX5 177 RX6 yX6_cellAt wsMX6_cellAt) ++ (wsV RX5 184 RX8 yX8_setLong wsMX8_setLong))
theorem iwsMX5_layWay_in1 : ∀ w ∈ wsX10, w ∈ wsMX5_layWay := fun _ h => List.mem_cons_of_mem _ (List.mem_append_left _ (List.mem_append_left _ (List.mem_append_left _ (List.mem_append_left _ (List.mem_append_left _ (List.mem_append_left _ (List.mem_append_right _ h)))))))
theorem iwsMX5_layWay_in5 : ∀ w ∈ wsX50, w ∈ wsMX5_layWay := fun _ h => List.mem_cons_of_mem _ (List.mem_append_left _ (List.mem_append_left _ (List.mem_append_left _ (List.mem_append_left _ (List.mem_append_left _ (List.mem_append_right _ h))))))
theorem gwsMX5_layWay_0 : GoodIn wsMX5_layWay (wsV RX5 194 RX1 yX1_sign wsMX1_sign) := goodIn_sub (fun _ h => List.mem_cons_of_mem _ (List.mem_append_left _ (List.mem_append_left _ (List.mem_append_left _ (List.mem_append_left _ (List.mem_append_right _ h)))))) (gdV (by decide +kernel) gdwsMX1_sign)
theorem gwsMX5_layWay_1 : GoodIn wsMX5_layWay (wsV RX5 197 RX1 yX1_rightSide wsMX1_rightSide) := goodIn_sub (fun _ h => List.mem_cons_of_mem _ (List.mem_append_left _ (List.mem_append_left _ (List.mem_append_left _ (List.mem_append_right _ h))))) (gdV (by decide +kernel) gdwsMX1_rightSide)
theorem gwsMX5_layWay_2 : GoodIn wsMX5_layWay (wsV RX5 200 RX1 yX1_number wsMX1_number) := goodIn_sub (fun _ h => List.mem_cons_of_mem _ (List.mem_append_left _ (List.mem_append_left _ (List.mem_append_right _ h)))) (gdV (by decide +kernel) gdwsMX1_number)
theorem gwsMX5_layWay_3 : GoodIn wsMX5_layWay (wsV RX5 177 RX6 yX6_cellAt wsMX6_cellAt) := goodIn_sub (fun _ h => List.mem_cons_of_mem _ (List.mem_append_left _ (List.mem_append_right _ h))) (gdV (by decide +kernel) gdwsMX6_cellAt)
theorem gwsMX5_layWay_4 : GoodIn wsMX5_layWay (wsV RX5 184 RX8 yX8_setLong wsMX8_setLong) := goodIn_sub (fun _ h => List.mem_cons_of_mem _ (List.mem_append_right _ h)) (gdV (by decide +kernel) gdwsMX8_setLong)
theorem gdwsMX5_layWay : wsMX5_layWay.all goodWord = true := gdC rfl (gdA (gdA (gdA (gdA (gdA (gdA (gdA (by decide +kernel : ([.fieldLink RX5 74 "OptimaWorks$Solver" "model" "LOptimaWorks$Model;", .fieldLink RX5 112 "OptimaWorks$Model" "variables" "I", .fieldLink RX5 35 "OptimaWorks$Solver" "start" "[I", .fieldLink RX5 38 "OptimaWorks$Solver" "column" "[I", .fieldLink RX5 12 "OptimaWorks$Solver" "tableau" "LOptimaWorks$Tableau;", .fieldLink RX5 181 "OptimaWorks$Model" "to" "[I", .fieldLink RX5 150 "OptimaWorks$Model" "from" "[I", .methodLink RX5 204 Lib.Math.min.name, .static Lib.Math.min.name, .initialized "java/lang/Math", .code Lib.Math.min.name Lib.Math.min.code 2 (some .int), .methodLink RX5 137 Lib.Math.max.name, .static Lib.Math.max.name, .code Lib.Math.max.name Lib.Math.max.code 2 (some .int)] : List Cond).all goodWord = true) gdwsX10) gdwsX50) (gdV (by decide +kernel) gdwsMX1_sign)) (gdV (by decide +kernel) gdwsMX1_rightSide)) (gdV (by decide +kernel) gdwsMX1_number)) (gdV (by decide +kernel) gdwsMX6_cellAt)) (gdV (by decide +kernel) gdwsMX8_setLong))
set_option maxHeartbeats 4000000 in
set_option maxRecDepth 100000 in
/-- a way is laid out -/
theorem m_X5_layWay (l : Launch) (dC : Nat → ClassId) (dI : Nat → Nat → Nat) (hO : Nat → Nat) (aO : Nat → Nat) (kO : Nat → ClassId) (hM : Nat → Nat) (hQ : Nat → Nat) (hw : Nat → Nat) (iO_answered : Int32) (iO_searched : Int32) (iO_searchedRelaxed : Int32) (iO_counted : Int32) (fO_countedCase : Nat → Int32) (gO_goalNumber : Nat → Int64) (gO_goalScale : Nat → Int64) (fO_start : Nat → Int32) (fO_column : Nat → Int32) (fO_chosen : Nat → Int32) (aM : Nat → Nat) (kM : Nat → ClassId) (iM_stands : Int32) (iM_variables : Int32) (iM_rows : Int32) (iM_goals : Int32) (iM_differents : Int32) (iM_cases : Int32) (fM_from : Nat → Int32) (fM_to : Nat → Int32) (fM_whole : Nat → Int32) (fM_ways : Nat → Int32) (iM_plainRows : Int32) (fM_plainRow : Nat → Int32) (fM_kept : Nat → Int32) (fM_goalOver : Nat → Int32) (fM_goalUnder : Nat → Int32) (fM_goalMax : Nat → Int32) (fM_different : Nat → Int32) (aQ : Nat → Nat) (kQ : Nat → ClassId) (fQ_inside : Nat → Int32) (fQ_outside : Nat → Int32) (fQ_shut : Nat → Int32) (iQ_rows : Int32) (iQ_allRows : Int32) (iQ_columns : Int32) (nW : Nat) (lw : Nat → Nat) (kw : ClassId) (wl : Nat → Int32) (wb : Nat → Int32) (wG : Nat → Nat → Int64) (p1 : Int32) (p2 : Int32) (p3 : Int32) (b_iO_answered : 0 ≤ iO_answered.toInt ∧ iO_answered.toInt ≤ 1) (b_iO_searched : 0 ≤ iO_searched.toInt ∧ iO_searched.toInt ≤ 1) (b_iO_searchedRelaxed : 0 ≤ iO_searchedRelaxed.toInt ∧ iO_searchedRelaxed.toInt ≤ 1) (b_iO_counted : (-1) ≤ iO_counted.toInt ∧ iO_counted.toInt ≤ 64) (b_fO_countedCase : ∀ q : Nat, 0 ≤ (fO_countedCase q).toInt ∧ (fO_countedCase q).toInt ≤ 200000) (b_fO_column : ∀ q : Nat, (-1) ≤ (fO_column q).toInt ∧ (fO_column q).toInt ≤ 8) (b_fO_chosen : ∀ q : Nat, 0 ≤ (fO_chosen q).toInt ∧ (fO_chosen q).toInt ≤ 2) (b_iM_stands : 0 ≤ iM_stands.toInt ∧ iM_stands.toInt ≤ 1) (b_iM_variables : 0 ≤ iM_variables.toInt ∧ iM_variables.toInt ≤ 8) (b_iM_rows : 0 ≤ iM_rows.toInt ∧ iM_rows.toInt ≤ 12) (b_iM_goals : 0 ≤ iM_goals.toInt ∧ iM_goals.toInt ≤ 3) (b_iM_differents : 0 ≤ iM_differents.toInt ∧ iM_differents.toInt ≤ 8) (b_iM_cases : 0 ≤ iM_cases.toInt ∧ iM_cases.toInt ≤ 200000) (b_fM_ways : ∀ q : Nat, 0 ≤ (fM_ways q).toInt ∧ (fM_ways q).toInt ≤ 3) (b_iM_plainRows : 0 ≤ iM_plainRows.toInt ∧ iM_plainRows.toInt ≤ 12) (b_fM_plainRow : ∀ q : Nat, 0 ≤ (fM_plainRow q).toInt ∧ (fM_plainRow q).toInt ≤ 11) (b_pr : iM_plainRows.toInt ≤ iM_rows.toInt) (b_iQ_rows : 0 ≤ iQ_rows.toInt ∧ iQ_rows.toInt ≤ 40) (b_iQ_allRows : 0 ≤ iQ_allRows.toInt ∧ iQ_allRows.toInt ≤ 40) (b_iQ_columns : 0 ≤ iQ_columns.toInt ∧ iQ_columns.toInt ≤ 40) (b_tb : TbO iQ_rows iQ_allRows iQ_columns) (b_wl : ∀ q : Nat, 0 ≤ (wl q).toInt ∧ (wl q).toInt ≤ 14) (b_wb : ∀ q : Nat, 0 ≤ (wb q).toInt ∧ (wb q).toInt ≤ 1) (b_p1 : 0 ≤ p1.toInt ∧ p1.toInt ≤ 39) (b_p2 : 0 ≤ p2.toInt ∧ p2.toInt ≤ 11) (b_p3 : 0 ≤ p3.toInt ∧ p3.toInt ≤ 2) (hnW : 432 ≤ nW) (hc8 : iQ_columns.toInt ≤ 8) (sz : Nat) : Met l yX5_layWay wsMX5_layWay ({ frames := 1, cells := 0, slots := 0, locals := 25 }) (va_Pc [.ref (hO 0), .int p1, .int p2, .int p3] (fun U => U.heap.size = sz ∧ va_P (dC, dI) vwCl (WO hO aO kO hM hQ hw iO_answered iO_searched iO_searchedRelaxed iO_counted fO_countedCase gO_goalNumber gO_goalScale fO_start fO_column fO_chosen ++ (WM hM aM kM iM_stands iM_variables iM_rows iM_goals iM_differents iM_cases fM_from fM_to fM_whole fM_ways iM_plainRows fM_plainRow fM_kept fM_goalOver fM_goalUnder fM_goalMax fM_different ++ (WQ hQ aQ kQ hw fQ_inside fQ_outside fQ_shut iQ_rows iQ_allRows iQ_columns ++ (WW nW hw lw kw wl wb wG)))) U.heap ∧ va_K (dC, dI) vwCl (tO kO ++ (tM kM ++ (tQ kQ ++ (tW kw)))) U ∧ va_D (fun _ => True) (WO hO aO kO hM hQ hw iO_answered iO_searched iO_searchedRelaxed iO_counted fO_countedCase gO_goalNumber gO_goalScale fO_start fO_column fO_chosen ++ (WM hM aM kM iM_stands iM_variables iM_rows iM_goals iM_differents iM_cases fM_from fM_to fM_whole fM_ways iM_plainRows fM_plainRow fM_kept fM_goalOver fM_goalUnder fM_goalMax fM_different ++ (WQ hQ aQ kQ hw fQ_inside fQ_outside fQ_shut iQ_rows iQ_allRows iQ_columns ++ (WW nW hw lw kw wl wb wG)))))) (va_Qi (fun (r : Int32) (u : (Nat → Int32) × (Nat → Int32) × (Nat → Nat → Int64)) => (∀ q : Nat, 0 ≤ ((u.1) q).toInt ∧ ((u.1) q).toInt ≤ 14) ∧ (∀ q : Nat, 0 ≤ ((u.2.1) q).toInt ∧ ((u.2.1) q).toInt ≤ 1) ∧ (0 ≤ r.toInt ∧ r.toInt ≤ 1)) (fun (u : (Nat → Int32) × (Nat → Int32) × (Nat → Nat → Int64)) t => va_P (dC, dI) vwCl (WO hO aO kO hM hQ hw iO_answered iO_searched iO_searchedRelaxed iO_counted fO_countedCase gO_goalNumber gO_goalScale fO_start fO_column fO_chosen ++ (WM hM aM kM iM_stands iM_variables iM_rows iM_goals iM_differents iM_cases fM_from fM_to fM_whole fM_ways iM_plainRows fM_plainRow fM_kept fM_goalOver fM_goalUnder fM_goalMax fM_different ++ (WQ hQ aQ kQ hw fQ_inside fQ_outside fQ_shut iQ_rows iQ_allRows iQ_columns ++ (WW nW hw lw kw (u.1) (u.2.1) (u.2.2))))) t.heap ∧ va_D (va_A (WO hO aO kO hM hQ hw iO_answered iO_searched iO_searchedRelaxed iO_counted fO_countedCase gO_goalNumber gO_goalScale fO_start fO_column fO_chosen ++ (WM hM aM kM iM_stands iM_variables iM_rows iM_goals iM_differents iM_cases fM_from fM_to fM_whole fM_ways iM_plainRows fM_plainRow fM_kept fM_goalOver fM_goalUnder fM_goalMax fM_different ++ (WQ hQ aQ kQ hw fQ_inside fQ_outside fQ_shut iQ_rows iQ_allRows iQ_columns ++ (WW nW hw lw kw wl wb wG)))) sz) (WO hO aO kO hM hQ hw iO_answered iO_searched iO_searchedRelaxed iO_counted fO_countedCase gO_goalNumber gO_goalScale fO_start fO_column fO_chosen ++ (WM hM aM kM iM_stands iM_variables iM_rows iM_goals iM_differents iM_cases fM_from fM_to fM_whole fM_ways iM_plainRows fM_plainRow fM_kept fM_goalOver fM_goalUnder fM_goalMax fM_different ++ (WQ hQ aQ kQ hw fQ_inside fQ_outside fQ_shut iQ_rows iQ_allRows iQ_columns ++ (WW nW hw lw kw (u.1) (u.2.1) (u.2.2)))))) (va_A (WO hO aO kO hM hQ hw iO_answered iO_searched iO_searchedRelaxed iO_counted fO_countedCase gO_goalNumber gO_goalScale fO_start fO_column fO_chosen ++ (WM hM aM kM iM_stands iM_variables iM_rows iM_goals iM_differents iM_cases fM_from fM_to fM_whole fM_ways iM_plainRows fM_plainRow fM_kept fM_goalOver fM_goalUnder fM_goalMax fM_different ++ (WQ hQ aQ kQ hw fQ_inside fQ_outside fQ_shut iQ_rows iQ_allRows iQ_columns ++ (WW nW hw lw kw wl wb wG)))) sz)) 0 0 (va_A (WO hO aO kO hM hQ hw iO_answered iO_searched iO_searchedRelaxed iO_counted fO_countedCase gO_goalNumber gO_goalScale fO_start fO_column fO_chosen ++ (WM hM aM kM iM_stands iM_variables iM_rows iM_goals iM_differents iM_cases fM_from fM_to fM_whole fM_ways iM_plainRows fM_plainRow fM_kept fM_goalOver fM_goalUnder fM_goalMax fM_different ++ (WQ hQ aQ kQ hw fQ_inside fQ_outside fQ_shut iQ_rows iQ_allRows iQ_columns ++ (WW nW hw lw kw wl wb wG)))) sz) := by
  refine Met.ofW (cc := cX5_layWay) (maxL := 12) (ret := (some .boolean)) (by decide) rfl ?_
  intro p e s m args below meth c s₁ B hml hv
  obtain ⟨rfl, hsz, hP, hK, hD0⟩ := hv
  have hx := B.exec
  have hb := B.bytes
  have hr := B.returns
  have hts := atoms_spec (ws := wsMX5_layWay) B.pre
  have hown : s.vm.findClass RX5 = some m.cls := findClass_of_methodNamed B.named
  have hlocks := B.notSynchronized
  subst hsz
  have hD := hD0.self (sz := s.heap.size)
  generalize hAe : va_A (WO hO aO kO hM hQ hw iO_answered iO_searched iO_searchedRelaxed iO_counted fO_countedCase gO_goalNumber gO_goalScale fO_start fO_column fO_chosen ++ (WM hM aM kM iM_stands iM_variables iM_rows iM_goals iM_differents iM_cases fM_from fM_to fM_whole fM_ways iM_plainRows fM_plainRow fM_kept fM_goalOver fM_goalUnder fM_goalMax fM_different ++ (WQ hQ aQ kQ hw fQ_inside fQ_outside fQ_shut iQ_rows iQ_allRows iQ_columns ++ (WW nW hw lw kw wl wb wG)))) s.heap.size = A at hD ⊢
  have hA : ∀ q : Nat, s.heap.size ≤ q → A q := fun q h => by rw [← hAe]; exact Or.inr h
  have hS : va_S A s.heap s.heap [] := va_S.rf
  have hl := lv_entry ([.ref (hO 0), .int p1, .int p2, .int p3]) (n := 12) (Nat.le_of_ble_eq_true rfl)
  rw [lg_entry_eq]
  generalize (lg_sl ([.ref (hO 0), .int p1, .int p2, .int p3]) ++ List.replicate (12 - (lg_sl ([.ref (hO 0), .int p1, .int p2, .int p3])).length) Slot.unset).toArray = ls at hl ⊢
  have hl : lv_has ls 12 [(0, .ref (hO 0)), (1, .int p1), (2, .int p2), (3, .int p3)] := hl
  refine lv_aload_n hx hb dX5_layWay_0 rfl (lv_at hl 0 rfl) ?_
  refine va_get (D := (dC, dI)) (ci := 5) (v := .ref (hM 0)) (C := RX5) (T := TX5) (N := 19) hx hb hts iwsMX5_layWay_in5 hown hK hP 0 rfl rfl 0 (by decide) (hts (.fieldLink RX5 74 "OptimaWorks$Solver" "model" "LOptimaWorks$Model;") (by decide +kernel)) (fun _ h9 => h9) rfl dX5_layWay_1 ?_
  refine lv_iload_n hx hb dX5_layWay_4 rfl (lv_at hl 2 rfl) ?_
  refine lv_iload_n hx hb dX5_layWay_5 rfl (lv_at hl 3 rfl) ?_
  have p9 : List.Perm (WO hO aO kO hM hQ hw iO_answered iO_searched iO_searchedRelaxed iO_counted fO_countedCase gO_goalNumber gO_goalScale fO_start fO_column fO_chosen ++ (WM hM aM kM iM_stands iM_variables iM_rows iM_goals iM_differents iM_cases fM_from fM_to fM_whole fM_ways iM_plainRows fM_plainRow fM_kept fM_goalOver fM_goalUnder fM_goalMax fM_different ++ (WQ hQ aQ kQ hw fQ_inside fQ_outside fQ_shut iQ_rows iQ_allRows iQ_columns ++ (WW nW hw lw kw wl wb wG)))) ((WM hM aM kM iM_stands iM_variables iM_rows iM_goals iM_differents iM_cases fM_from fM_to fM_whole fM_ways iM_plainRows fM_plainRow fM_kept fM_goalOver fM_goalUnder fM_goalMax fM_different) ++ (WO hO aO kO hM hQ hw iO_answered iO_searched iO_searchedRelaxed iO_counted fO_countedCase gO_goalNumber gO_goalScale fO_start fO_column fO_chosen ++ (WQ hQ aQ kQ hw fQ_inside fQ_outside fQ_shut iQ_rows iQ_allRows iQ_columns ++ (WW nW hw lw kw wl wb wG)))) := (List.perm_append_comm_assoc _ _ _)
  have hPc := hP.mem (fun q h => p9.mem_iff.mpr (List.mem_append_left _ h))
  have hDc := (hD.perm p9).left
  have hKc : va_K (dC, dI) vwCl (tM kM) _ := hK.sub [10, 11, 12, 13, 14, 15, 16, 17, 18, 19] rfl
  have hFc := freeG p9 hD hS hA
  refine va_calli (va_runV (As := [.int p2, .int p3]) (rest := []) ⟨hx, hb, hml, hown, hts⟩ (m_X1_sign l dC dI hM aM kM iM_stands iM_variables iM_rows iM_goals iM_differents iM_cases fM_from fM_to fM_whole fM_ways iM_plainRows fM_plainRow fM_kept fM_goalOver fM_goalUnder fM_goalMax fM_different p2 p3 (b_iM_stands) (b_iM_variables) (b_iM_rows) (b_iM_goals) (b_iM_differents) (b_iM_cases) b_fM_ways (b_iM_plainRows) b_fM_plainRow (by first | with_reducible assumption | omega | assumption) (b_p2) (b_p3) s.heap.size) (cwV 2 hts gwsMX5_layWay_0 rfl rfl rfl hd_yX1_sign_RX1 (by decide +kernel)) (fz_pre (va_recv hK hP (ci := 1) (q0 := 11) rfl rfl) hPc hKc hDc) rfl rfl hl.1 rfl (lv_room (Nat.le_of_ble_eq_true rfl)) dX5_layWay_6 (by decide +kernel)) hS (fun q _ h => hFc q h) hFc (fun r1 u t9_ H locs ht hvm hw9 hB9 hz1 hk1 hS => ?_)
  clear hw9
  have p8 : List.Perm (WO hO aO kO hM hQ hw iO_answered iO_searched iO_searchedRelaxed iO_counted fO_countedCase gO_goalNumber gO_goalScale fO_start fO_column fO_chosen ++ (WM hM aM kM iM_stands iM_variables iM_rows iM_goals iM_differents iM_cases fM_from fM_to fM_whole fM_ways iM_plainRows fM_plainRow fM_kept fM_goalOver fM_goalUnder fM_goalMax fM_different ++ (WQ hQ aQ kQ hw fQ_inside fQ_outside fQ_shut iQ_rows iQ_allRows iQ_columns ++ (WW nW hw lw kw wl wb wG)))) ((WM hM aM kM iM_stands iM_variables iM_rows iM_goals iM_differents iM_cases fM_from fM_to fM_whole fM_ways iM_plainRows fM_plainRow fM_kept fM_goalOver fM_goalUnder fM_goalMax fM_different) ++ (WO hO aO kO hM hQ hw iO_answered iO_searched iO_searchedRelaxed iO_counted fO_countedCase gO_goalNumber gO_goalScale fO_start fO_column fO_chosen ++ (WQ hQ aQ kQ hw fQ_inside fQ_outside fQ_shut iQ_rows iQ_allRows iQ_columns ++ (WW nW hw lw kw wl wb wG)))) := (List.perm_append_comm_assoc _ _ _)
  obtain ⟨hP, hD⟩ := frameG p9 p8 hP hD hk1 hFc (fz_P ht hB9.1) hB9.2
  have hP : va_P (dC, dI) vwCl (WO hO aO kO hM hQ hw iO_answered iO_searched iO_searchedRelaxed iO_counted fO_countedCase gO_goalNumber gO_goalScale fO_start fO_column fO_chosen ++ (WM hM aM kM iM_stands iM_variables iM_rows iM_goals iM_differents iM_cases fM_from fM_to fM_whole fM_ways iM_plainRows fM_plainRow fM_kept fM_goalOver fM_goalUnder fM_goalMax fM_different ++ (WQ hQ aQ kQ hw fQ_inside fQ_outside fQ_shut iQ_rows iQ_allRows iQ_columns ++ (WW nW hw lw kw wl wb wG)))) H := hP
  have hD : va_D A (WO hO aO kO hM hQ hw iO_answered iO_searched iO_searchedRelaxed iO_counted fO_countedCase gO_goalNumber gO_goalScale fO_start fO_column fO_chosen ++ (WM hM aM kM iM_stands iM_variables iM_rows iM_goals iM_differents iM_cases fM_from fM_to fM_whole fM_ways iM_plainRows fM_plainRow fM_kept fM_goalOver fM_goalUnder fM_goalMax fM_different ++ (WQ hQ aQ kQ hw fQ_inside fQ_outside fQ_shut iQ_rows iQ_allRows iQ_columns ++ (WW nW hw lw kw wl wb wG)))) := hD
  refine lv_istore hx hb dX5_layWay_9 hl (by decide) rfl (fun ls (hl : lv_has ls _ ([(4, .int r1), (0, .ref (hO 0)), (1, .int p1), (2, .int p2), (3, .int p3)])) => ?_)
  refine lv_iload hx hb dX5_layWay_11 (lv_at hl 0 rfl) ?_
  refine W.cut (pc := 21) (fun H locs ls stk => ∃ (k0_j11 : Int32), ((-1) ≤ k0_j11.toInt ∧ k0_j11.toInt ≤ 1) ∧  stk = [.int k0_j11] ∧ va_P (dC, dI) vwCl (WO hO aO kO hM hQ hw iO_answered iO_searched iO_searchedRelaxed iO_counted fO_countedCase gO_goalNumber gO_goalScale fO_start fO_column fO_chosen ++ (WM hM aM kM iM_stands iM_variables iM_rows iM_goals iM_differents iM_cases fM_from fM_to fM_whole fM_ways iM_plainRows fM_plainRow fM_kept fM_goalOver fM_goalUnder fM_goalMax fM_different ++ (WQ hQ aQ kQ hw fQ_inside fQ_outside fQ_shut iQ_rows iQ_allRows iQ_columns ++ (WW nW hw lw kw wl wb wG)))) H ∧ va_D A (WO hO aO kO hM hQ hw iO_answered iO_searched iO_searchedRelaxed iO_counted fO_countedCase gO_goalNumber gO_goalScale fO_start fO_column fO_chosen ++ (WM hM aM kM iM_stands iM_variables iM_rows iM_goals iM_differents iM_cases fM_from fM_to fM_whole fM_ways iM_plainRows fM_plainRow fM_kept fM_goalOver fM_goalUnder fM_goalMax fM_different ++ (WQ hQ aQ kQ hw fQ_inside fQ_outside fQ_shut iQ_rows iQ_allRows iQ_columns ++ (WW nW hw lw kw wl wb wG)))) ∧ va_S A s.heap H locs ∧ lv_has ls 12 [(4, .int r1), (0, .ref (hO 0)), (1, .int p1), (2, .int p2), (3, .int p3)]) (fun join11 => ?_) ?_
  · refine lv_if_ne (tgt := 20) hx hb dX5_layWay_13 (by decide) (fun c_13 => ?_) (fun c_13 => ?_)
    · have t_13 : r1.toInt ≠ 0 := toI_ne c_13 rfl (by decide : (0 : Int32).toInt = 0)
      refine lv_iconst (v := 1) hx hb dX5_layWay_20 (by decide) ?_
      have hl : lv_has _ _ ([(4, .int r1), (0, .ref (hO 0)), (1, .int p1), (2, .int p2), (3, .int p3)]) := lv_sub hl [0, 1, 2, 3, 4] rfl
      exact join11 _ _ _ _ ⟨1, (show (-1) ≤ (1 : Int32).toInt ∧ (1 : Int32).toInt ≤ 1 from by decide), rfl, hP, hD, hS, hl⟩
    · have t_13 : r1.toInt = 0 := toI_nne c_13 rfl (by decide : (0 : Int32).toInt = 0)
      refine lv_iconst (v := (-1)) hx hb dX5_layWay_16 (by decide) ?_
      refine lv_goto (tgt := 21) hx hb dX5_layWay_17 (by decide) ?_
      have hl : lv_has _ _ ([(4, .int r1), (0, .ref (hO 0)), (1, .int p1), (2, .int p2), (3, .int p3)]) := lv_sub hl [0, 1, 2, 3, 4] rfl
      exact join11 _ _ _ _ ⟨(-1), (show (-1) ≤ ((-1) : Int32).toInt ∧ ((-1) : Int32).toInt ≤ 1 from by decide), rfl, hP, hD, hS, hl⟩
  · rintro H locs ls stk ⟨k0_j11, b_k0_j11, rfl, hP, hD, hS, hl⟩
    refine lv_istore hx hb dX5_layWay_21 hl (by decide) rfl (fun ls (hl : lv_has ls _ ([(5, .int k0_j11), (4, .int r1), (0, .ref (hO 0)), (1, .int p1), (2, .int p2), (3, .int p3)])) => ?_)
    refine lv_iload hx hb dX5_layWay_23 (lv_at hl 0 rfl) ?_
    refine lv_ineg hx hb dX5_layWay_25 ?_
    refine lv_topi (fun y2 hy2 => ?_)
    obtain rfl : (iI (-k0_j11.toInt)) = y2 := (hy2.trans (iI_neg2 (iI_of _))).symm
    refine lv_aload_n hx hb dX5_layWay_26 rfl (lv_at hl 2 rfl) ?_
    refine va_get (D := (dC, dI)) (ci := 5) (v := .ref (hM 0)) (C := RX5) (T := TX5) (N := 19) hx hb hts iwsMX5_layWay_in5 hown hK hP 0 rfl rfl 0 (by decide) (hts (.fieldLink RX5 74 "OptimaWorks$Solver" "model" "LOptimaWorks$Model;") (by decide +kernel)) (fun _ h9 => h9) rfl dX5_layWay_27 ?_
    refine lv_iload_n hx hb dX5_layWay_30 rfl (lv_at hl 4 rfl) ?_
    refine lv_iload_n hx hb dX5_layWay_31 rfl (lv_at hl 5 rfl) ?_
    have p9 : List.Perm (WO hO aO kO hM hQ hw iO_answered iO_searched iO_searchedRelaxed iO_counted fO_countedCase gO_goalNumber gO_goalScale fO_start fO_column fO_chosen ++ (WM hM aM kM iM_stands iM_variables iM_rows iM_goals iM_differents iM_cases fM_from fM_to fM_whole fM_ways iM_plainRows fM_plainRow fM_kept fM_goalOver fM_goalUnder fM_goalMax fM_different ++ (WQ hQ aQ kQ hw fQ_inside fQ_outside fQ_shut iQ_rows iQ_allRows iQ_columns ++ (WW nW hw lw kw wl wb wG)))) ((WM hM aM kM iM_stands iM_variables iM_rows iM_goals iM_differents iM_cases fM_from fM_to fM_whole fM_ways iM_plainRows fM_plainRow fM_kept fM_goalOver fM_goalUnder fM_goalMax fM_different) ++ (WO hO aO kO hM hQ hw iO_answered iO_searched iO_searchedRelaxed iO_counted fO_countedCase gO_goalNumber gO_goalScale fO_start fO_column fO_chosen ++ (WQ hQ aQ kQ hw fQ_inside fQ_outside fQ_shut iQ_rows iQ_allRows iQ_columns ++ (WW nW hw lw kw wl wb wG)))) := (List.perm_append_comm_assoc _ _ _)
    have hPc := hP.mem (fun q h => p9.mem_iff.mpr (List.mem_append_left _ h))
    have hDc := (hD.perm p9).left
    have hKc : va_K (dC, dI) vwCl (tM kM) _ := hK.sub [10, 11, 12, 13, 14, 15, 16, 17, 18, 19] rfl
    have hFc := freeG p9 hD hS hA
    refine va_calli (va_runV (As := [.int p2, .int p3]) (rest := [.int (iI (-k0_j11.toInt))]) ⟨hx, hb, hml, hown, hts⟩ (m_X1_rightSide l dC dI hM aM kM iM_stands iM_variables iM_rows iM_goals iM_differents iM_cases fM_from fM_to fM_whole fM_ways iM_plainRows fM_plainRow fM_kept fM_goalOver fM_goalUnder fM_goalMax fM_different p2 p3 (b_iM_stands) (b_iM_variables) (b_iM_rows) (b_iM_goals) (b_iM_differents) (b_iM_cases) b_fM_ways (b_iM_plainRows) b_fM_plainRow (by first | with_reducible assumption | omega | assumption) (b_p2) (b_p3) H.size) (cwV 2 hts gwsMX5_layWay_1 rfl rfl rfl hd_yX1_rightSide_RX1 (by decide +kernel)) (fz_pre (va_recv hK hP (ci := 1) (q0 := 11) rfl rfl) hPc hKc hDc) rfl rfl hl.1 rfl (lv_room (Nat.le_of_ble_eq_true rfl)) dX5_layWay_32 (by decide +kernel)) hS (fun q _ h => hFc q h) hFc (fun r3 u t9_ H locs ht hvm hw9 hB9 hz1 hk1 hS => ?_)
    clear hw9
    have p8 : List.Perm (WO hO aO kO hM hQ hw iO_answered iO_searched iO_searchedRelaxed iO_counted fO_countedCase gO_goalNumber gO_goalScale fO_start fO_column fO_chosen ++ (WM hM aM kM iM_stands iM_variables iM_rows iM_goals iM_differents iM_cases fM_from fM_to fM_whole fM_ways iM_plainRows fM_plainRow fM_kept fM_goalOver fM_goalUnder fM_goalMax fM_different ++ (WQ hQ aQ kQ hw fQ_inside fQ_outside fQ_shut iQ_rows iQ_allRows iQ_columns ++ (WW nW hw lw kw wl wb wG)))) ((WM hM aM kM iM_stands iM_variables iM_rows iM_goals iM_differents iM_cases fM_from fM_to fM_whole fM_ways iM_plainRows fM_plainRow fM_kept fM_goalOver fM_goalUnder fM_goalMax fM_different) ++ (WO hO aO kO hM hQ hw iO_answered iO_searched iO_searchedRelaxed iO_counted fO_countedCase gO_goalNumber gO_goalScale fO_start fO_column fO_chosen ++ (WQ hQ aQ kQ hw fQ_inside fQ_outside fQ_shut iQ_rows iQ_allRows iQ_columns ++ (WW nW hw lw kw wl wb wG)))) := (List.perm_append_comm_assoc _ _ _)
    obtain ⟨hP, hD⟩ := frameG p9 p8 hP hD hk1 hFc (fz_P ht hB9.1) hB9.2
    have hP : va_P (dC, dI) vwCl (WO hO aO kO hM hQ hw iO_answered iO_searched iO_searchedRelaxed iO_counted fO_countedCase gO_goalNumber gO_goalScale fO_start fO_column fO_chosen ++ (WM hM aM kM iM_stands iM_variables iM_rows iM_goals iM_differents iM_cases fM_from fM_to fM_whole fM_ways iM_plainRows fM_plainRow fM_kept fM_goalOver fM_goalUnder fM_goalMax fM_different ++ (WQ hQ aQ kQ hw fQ_inside fQ_outside fQ_shut iQ_rows iQ_allRows iQ_columns ++ (WW nW hw lw kw wl wb wG)))) H := hP
    have hD : va_D A (WO hO aO kO hM hQ hw iO_answered iO_searched iO_searchedRelaxed iO_counted fO_countedCase gO_goalNumber gO_goalScale fO_start fO_column fO_chosen ++ (WM hM aM kM iM_stands iM_variables iM_rows iM_goals iM_differents iM_cases fM_from fM_to fM_whole fM_ways iM_plainRows fM_plainRow fM_kept fM_goalOver fM_goalUnder fM_goalMax fM_different ++ (WQ hQ aQ kQ hw fQ_inside fQ_outside fQ_shut iQ_rows iQ_allRows iQ_columns ++ (WW nW hw lw kw wl wb wG)))) := hD
    refine lv_imul hx hb dX5_layWay_35 ?_
    refine lv_topi (fun y4 hy4 => ?_)
    obtain rfl : (iI ((-k0_j11.toInt) * r3.toInt)) = y4 := (hy4.trans (iI_mul2 rfl (iI_of _))).symm
    refine lv_istore hx hb dX5_layWay_36 hl (by decide) rfl (fun ls (hl : lv_has ls _ ([(6, .int (iI ((-k0_j11.toInt) * r3.toInt))), (5, .int k0_j11), (4, .int r1), (0, .ref (hO 0)), (1, .int p1), (2, .int p2), (3, .int p3)])) => ?_)
    refine lv_iconst (v := 0) hx hb dX5_layWay_38 (by decide) ?_
    refine lv_istore hx hb dX5_layWay_39 hl (by decide) rfl (fun ls (hl : lv_has ls _ ([(7, .int 0), (6, .int (iI ((-k0_j11.toInt) * r3.toInt))), (5, .int k0_j11), (4, .int r1), (0, .ref (hO 0)), (1, .int p1), (2, .int p2), (3, .int p3)])) => ?_)
    refine lv_iconst (v := 0) hx hb dX5_layWay_41 (by decide) ?_
    refine lv_istore hx hb dX5_layWay_42 hl (by decide) rfl (fun ls (hl : lv_has ls _ ([(8, .int 0), (7, .int 0), (6, .int (iI ((-k0_j11.toInt) * r3.toInt))), (5, .int k0_j11), (4, .int r1), (0, .ref (hO 0)), (1, .int p1), (2, .int p2), (3, .int p3)])) => ?_)
    refine lv_iconst (v := 0) hx hb dX5_layWay_44 (by decide) ?_
    refine lv_istore hx hb dX5_layWay_45 hl (by decide) rfl (fun ls (hl : lv_has ls _ ([(9, .int 0), (8, .int 0), (7, .int 0), (6, .int (iI ((-k0_j11.toInt) * r3.toInt))), (5, .int k0_j11), (4, .int r1), (0, .ref (hO 0)), (1, .int p1), (2, .int p2), (3, .int p3)])) => ?_)
    have hl : lv_has _ _ ([(9, .int 0), (8, .int 0), (7, .int 0), (6, .int (iI ((-k0_j11.toInt) * r3.toInt))), (5, .int k0_j11), (4, .int r1), (0, .ref (hO 0)), (1, .int p1), (2, .int p2), (3, .int p3)]) := lv_sub hl [0, 1, 2, 3, 4, 5, 6, 7, 8, 9] rfl
    refine (fun (loop : ∀ (n9 : Nat) (wl_x47 : Nat → Int32) (wb_x47 : Nat → Int32) (wG_x47 : Nat → Nat → Int64) (l9_x47 : Int32) (l8_x47 : Int32) (l7_x47 : Int32) (l6_x47 : Int32) (H : Heap) (locs : List Loc) (ls : Array Slot), (∀ q : Nat, 0 ≤ (wl_x47 q).toInt ∧ (wl_x47 q).toInt ≤ 14) → (∀ q : Nat, 0 ≤ (wb_x47 q).toInt ∧ (wb_x47 q).toInt ≤ 1) → (0 ≤ l9_x47.toInt ∧ l9_x47.toInt ≤ 8) → (8 - l9_x47.toInt < ((n9 : Nat) : Int)) → va_P (dC, dI) vwCl (WO hO aO kO hM hQ hw iO_answered iO_searched iO_searchedRelaxed iO_counted fO_countedCase gO_goalNumber gO_goalScale fO_start fO_column fO_chosen ++ (WM hM aM kM iM_stands iM_variables iM_rows iM_goals iM_differents iM_cases fM_from fM_to fM_whole fM_ways iM_plainRows fM_plainRow fM_kept fM_goalOver fM_goalUnder fM_goalMax fM_different ++ (WQ hQ aQ kQ hw fQ_inside fQ_outside fQ_shut iQ_rows iQ_allRows iQ_columns ++ (WW nW hw lw kw wl_x47 wb_x47 wG_x47)))) H → va_D A (WO hO aO kO hM hQ hw iO_answered iO_searched iO_searchedRelaxed iO_counted fO_countedCase gO_goalNumber gO_goalScale fO_start fO_column fO_chosen ++ (WM hM aM kM iM_stands iM_variables iM_rows iM_goals iM_differents iM_cases fM_from fM_to fM_whole fM_ways iM_plainRows fM_plainRow fM_kept fM_goalOver fM_goalUnder fM_goalMax fM_different ++ (WQ hQ aQ kQ hw fQ_inside fQ_outside fQ_shut iQ_rows iQ_allRows iQ_columns ++ (WW nW hw lw kw wl_x47 wb_x47 wG_x47)))) → va_S A s.heap H locs → lv_has ls 12 [(9, .int l9_x47), (8, .int l8_x47), (7, .int l7_x47), (6, .int l6_x47), (5, .int k0_j11), (4, .int r1), (0, .ref (hO 0)), (1, .int p1), (2, .int p2), (3, .int p3)] → W p l e _ s m _ below meth c H locs 0 0 _ (F0 m 47 ls [])) => loop (9) wl wb wG 0 0 0 (iI ((-k0_j11.toInt) * r3.toInt)) _ _ _ b_wl b_wb (show 0 ≤ (0 : Int32).toInt ∧ (0 : Int32).toInt ≤ 8 from by decide) ((by have e9 : (0 : Int32).toInt = 0 := (by decide : (0 : Int32).toInt = 0); omega)) hP hD hS hl) ?_
    intro n9
    induction n9 with
    | zero => intro wl_x47 wb_x47 wG_x47 l9_x47 l8_x47 l7_x47 l6_x47 H locs ls b_wl_x47 b_wb_x47 b_l9_x47 hf9; exact False.elim (by omega)
    | succ n9 ihx47 =>
      intro wl_x47 wb_x47 wG_x47 l9_x47 l8_x47 l7_x47 l6_x47 H locs ls b_wl_x47 b_wb_x47 b_l9_x47 hfx47 hP hD hS hl
      refine lv_iload hx hb dX5_layWay_47 (lv_at hl 0 rfl) ?_
      refine lv_aload_n hx hb dX5_layWay_49 rfl (lv_at hl 6 rfl) ?_
      refine va_get (D := (dC, dI)) (ci := 5) (v := .ref (hM 0)) (C := RX5) (T := TX5) (N := 19) hx hb hts iwsMX5_layWay_in5 hown hK hP 0 rfl rfl 0 (by decide) (hts (.fieldLink RX5 74 "OptimaWorks$Solver" "model" "LOptimaWorks$Model;") (by decide +kernel)) (fun _ h9 => h9) rfl dX5_layWay_50 ?_
      refine va_get (D := (dC, dI)) (ci := 1) (v := .int iM_variables) (C := RX1) (T := TX1) (N := 17) hx hb hts iwsMX5_layWay_in1 hown hK hP 11 rfl rfl 1 (by decide) (hts (.fieldLink RX5 112 "OptimaWorks$Model" "variables" "I") (by decide +kernel)) (fun _ h9 => h9) rfl dX5_layWay_53 ?_
      refine lv_icmp_ge (tgt := 181) hx hb dX5_layWay_56 (by decide) (fun c_56 => ?_) (fun c_56 => ?_)
      · have t_56 : l9_x47.toInt ≥ iM_variables.toInt := toI_ge c_56 rfl rfl
        refine lv_aload_n hx hb dX5_layWay_181 rfl (lv_at hl 6 rfl) ?_
        refine va_get (D := (dC, dI)) (ci := 5) (v := .ref (hQ 0)) (C := RX5) (T := TX5) (N := 19) hx hb hts iwsMX5_layWay_in5 hown hK hP 0 rfl rfl 1 (by decide) (hts (.fieldLink RX5 12 "OptimaWorks$Solver" "tableau" "LOptimaWorks$Tableau;") (by decide +kernel)) (fun _ h9 => h9) rfl dX5_layWay_182 ?_
        refine lv_iload_n hx hb dX5_layWay_185 rfl (lv_at hl 7 rfl) ?_
        refine lv_iconst (v := 0) hx hb dX5_layWay_186 (by decide) ?_
        have p9 : List.Perm (WO hO aO kO hM hQ hw iO_answered iO_searched iO_searchedRelaxed iO_counted fO_countedCase gO_goalNumber gO_goalScale fO_start fO_column fO_chosen ++ (WM hM aM kM iM_stands iM_variables iM_rows iM_goals iM_differents iM_cases fM_from fM_to fM_whole fM_ways iM_plainRows fM_plainRow fM_kept fM_goalOver fM_goalUnder fM_goalMax fM_different ++ (WQ hQ aQ kQ hw fQ_inside fQ_outside fQ_shut iQ_rows iQ_allRows iQ_columns ++ (WW nW hw lw kw wl_x47 wb_x47 wG_x47)))) ((WQ hQ aQ kQ hw fQ_inside fQ_outside fQ_shut iQ_rows iQ_allRows iQ_columns ++ (WW nW hw lw kw wl_x47 wb_x47 wG_x47)) ++ (WO hO aO kO hM hQ hw iO_answered iO_searched iO_searchedRelaxed iO_counted fO_countedCase gO_goalNumber gO_goalScale fO_start fO_column fO_chosen ++ (WM hM aM kM iM_stands iM_variables iM_rows iM_goals iM_differents iM_cases fM_from fM_to fM_whole fM_ways iM_plainRows fM_plainRow fM_kept fM_goalOver fM_goalUnder fM_goalMax fM_different))) := ((((List.Perm.append_left _ ((List.Perm.append_left _ (List.perm_append_comm)).trans (List.perm_append_comm_assoc _ _ _))).trans (List.perm_append_comm_assoc _ _ _)).trans ((List.Perm.append_left _ ((List.Perm.append_left _ (List.perm_append_comm)).trans (List.perm_append_comm_assoc _ _ _))).trans (List.perm_append_comm_assoc _ _ _))).trans (List.Perm.of_eq (by simp only [List.append_assoc])))
        have hPc := hP.mem (fun q h => p9.mem_iff.mpr (List.mem_append_left _ h))
        have hDc := (hD.perm p9).left
        have hKc : va_K (dC, dI) vwCl (tQ kQ ++ (tW kw)) _ := hK.sub [20, 21, 22, 23, 24] rfl
        have hFc := freeG p9 hD hS hA
        refine va_callr (va_runV (As := [.int p1, .int 0]) (rest := []) ⟨hx, hb, hml, hown, hts⟩ (m_X6_cellAt l dC dI hQ aQ kQ hw fQ_inside fQ_outside fQ_shut iQ_rows iQ_allRows iQ_columns nW lw kw wl_x47 wb_x47 wG_x47 p1 0 (b_iQ_rows) (b_iQ_allRows) (b_iQ_columns) (by first | with_reducible assumption | omega | assumption) b_wl_x47 b_wb_x47 (b_p1) (show 0 ≤ (0 : Int32).toInt ∧ (0 : Int32).toInt ≤ 40 from by decide) (by omega) ((by have h9 := ix_small (i := p1.toInt) (j := 0) (c := iQ_columns.toInt) (by omega) (by omega) (by omega) (by omega) (by omega) (by omega); have h8 : (0 : Int32).toInt = 0 := (by decide); rw [h8]; exact h9)) H.size) (cwV 2 hts gwsMX5_layWay_3 rfl rfl rfl hd_yX6_cellAt_RX6 (by decide +kernel)) (fz_pre (va_recv hK hP (ci := 6) (q0 := 22) rfl rfl) hPc hKc hDc) rfl rfl hl.1 rfl (lv_room (Nat.le_of_ble_eq_true rfl)) dX5_layWay_187 (by decide +kernel)) hS (fun q _ h => hFc q h) hFc (fun kR_172 ra172 t9_ H locs ht hvm hw9 hB9 hz1 hk1 hS => ?_)
        revert hB9
        refine fz_a2 ?_
        intro hra hB9
        subst hra
        have f172_0 := hw9
        try dsimp only at f172_0
        have p8 : List.Perm (WO hO aO kO hM hQ hw iO_answered iO_searched iO_searchedRelaxed iO_counted fO_countedCase gO_goalNumber gO_goalScale fO_start fO_column fO_chosen ++ (WM hM aM kM iM_stands iM_variables iM_rows iM_goals iM_differents iM_cases fM_from fM_to fM_whole fM_ways iM_plainRows fM_plainRow fM_kept fM_goalOver fM_goalUnder fM_goalMax fM_different ++ (WQ hQ aQ kQ hw fQ_inside fQ_outside fQ_shut iQ_rows iQ_allRows iQ_columns ++ (WW nW hw lw kw wl_x47 wb_x47 wG_x47)))) ((WQ hQ aQ kQ hw fQ_inside fQ_outside fQ_shut iQ_rows iQ_allRows iQ_columns ++ (WW nW hw lw kw wl_x47 wb_x47 wG_x47)) ++ (WO hO aO kO hM hQ hw iO_answered iO_searched iO_searchedRelaxed iO_counted fO_countedCase gO_goalNumber gO_goalScale fO_start fO_column fO_chosen ++ (WM hM aM kM iM_stands iM_variables iM_rows iM_goals iM_differents iM_cases fM_from fM_to fM_whole fM_ways iM_plainRows fM_plainRow fM_kept fM_goalOver fM_goalUnder fM_goalMax fM_different))) := ((((List.Perm.append_left _ ((List.Perm.append_left _ (List.perm_append_comm)).trans (List.perm_append_comm_assoc _ _ _))).trans (List.perm_append_comm_assoc _ _ _)).trans ((List.Perm.append_left _ ((List.Perm.append_left _ (List.perm_append_comm)).trans (List.perm_append_comm_assoc _ _ _))).trans (List.perm_append_comm_assoc _ _ _))).trans (List.Perm.of_eq (by simp only [List.append_assoc])))
        obtain ⟨hP, hD⟩ := frameG p9 p8 hP hD hk1 hFc (fz_P ht hB9.1) hB9.2
        have hP : va_P (dC, dI) vwCl (WO hO aO kO hM hQ hw iO_answered iO_searched iO_searchedRelaxed iO_counted fO_countedCase gO_goalNumber gO_goalScale fO_start fO_column fO_chosen ++ (WM hM aM kM iM_stands iM_variables iM_rows iM_goals iM_differents iM_cases fM_from fM_to fM_whole fM_ways iM_plainRows fM_plainRow fM_kept fM_goalOver fM_goalUnder fM_goalMax fM_different ++ (WQ hQ aQ kQ hw fQ_inside fQ_outside fQ_shut iQ_rows iQ_allRows iQ_columns ++ (WW nW hw lw kw wl_x47 wb_x47 wG_x47)))) H := hP
        have hD : va_D A (WO hO aO kO hM hQ hw iO_answered iO_searched iO_searchedRelaxed iO_counted fO_countedCase gO_goalNumber gO_goalScale fO_start fO_column fO_chosen ++ (WM hM aM kM iM_stands iM_variables iM_rows iM_goals iM_differents iM_cases fM_from fM_to fM_whole fM_ways iM_plainRows fM_plainRow fM_kept fM_goalOver fM_goalUnder fM_goalMax fM_different ++ (WQ hQ aQ kQ hw fQ_inside fQ_outside fQ_shut iQ_rows iQ_allRows iQ_columns ++ (WW nW hw lw kw wl_x47 wb_x47 wG_x47)))) := hD
        refine lv_iload hx hb dX5_layWay_190 (lv_at hl 3 rfl) ?_
        refine lv_i2l hx hb dX5_layWay_192 rfl ?_
        refine lv_topl (fun v173 hv173 => ?_)
        clear hv173
        have p9 : List.Perm (WO hO aO kO hM hQ hw iO_answered iO_searched iO_searchedRelaxed iO_counted fO_countedCase gO_goalNumber gO_goalScale fO_start fO_column fO_chosen ++ (WM hM aM kM iM_stands iM_variables iM_rows iM_goals iM_differents iM_cases fM_from fM_to fM_whole fM_ways iM_plainRows fM_plainRow fM_kept fM_goalOver fM_goalUnder fM_goalMax fM_different ++ (WQ hQ aQ kQ hw fQ_inside fQ_outside fQ_shut iQ_rows iQ_allRows iQ_columns ++ (WW nW hw lw kw wl_x47 wb_x47 wG_x47)))) ((WW nW hw lw kw wl_x47 wb_x47 wG_x47) ++ (WO hO aO kO hM hQ hw iO_answered iO_searched iO_searchedRelaxed iO_counted fO_countedCase gO_goalNumber gO_goalScale fO_start fO_column fO_chosen ++ (WM hM aM kM iM_stands iM_variables iM_rows iM_goals iM_differents iM_cases fM_from fM_to fM_whole fM_ways iM_plainRows fM_plainRow fM_kept fM_goalOver fM_goalUnder fM_goalMax fM_different ++ (WQ hQ aQ kQ hw fQ_inside fQ_outside fQ_shut iQ_rows iQ_allRows iQ_columns)))) := ((List.Perm.append_left _ ((List.Perm.append_left _ (List.perm_append_comm)).trans (List.perm_append_comm_assoc _ _ _))).trans (List.perm_append_comm_assoc _ _ _))
        have hPc := hP.mem (fun q h => p9.mem_iff.mpr (List.mem_append_left _ h))
        have hDc := (hD.perm p9).left
        have hKc : va_K (dC, dI) vwCl (tW kw) _ := hK.sub [24] rfl
        have hFc := freeG p9 hD hS hA
        refine va_callv (va_runV (As := [.long v173]) (rest := []) ⟨hx, hb, hml, hown, hts⟩ (m_X8_setLong l dC dI nW hw lw kw wl_x47 wb_x47 wG_x47 kR_172 v173 b_wl_x47 b_wb_x47 (by first | with_reducible assumption | omega | (rw [iI_t (by omega) (by omega)]; omega) | decide | assumption) H.size) (cwV 1 hts gwsMX5_layWay_4 rfl rfl rfl hd_yX8_setLong_RX8 (by decide +kernel)) (fz_pre (va_recv hK hP (ci := 8) (q0 := 11 + (11 + (5 + (kR_172)))) rfl (apR rfl (apR rfl (apR rfl (WW_o (by omega)))))) hPc hKc hDc) rfl rfl hl.1 rfl (lv_room (Nat.le_of_ble_eq_true rfl)) dX5_layWay_193 (by decide +kernel)) hS (fun q _ h => hFc q h) hFc (fun u t9_ H locs ht hvm hw9 hB9 hz1 hk1 hS => ?_)
        revert u hw9 hB9
        refine fz_p3 ?_
        intro wl_174 wb_174 wG_174 hw9 hB9
        try dsimp only at hw9 hB9
        revert hw9
        refine fz_a2 ?_
        intro b_wl_174 b_wb_174
        have p8 : List.Perm (WO hO aO kO hM hQ hw iO_answered iO_searched iO_searchedRelaxed iO_counted fO_countedCase gO_goalNumber gO_goalScale fO_start fO_column fO_chosen ++ (WM hM aM kM iM_stands iM_variables iM_rows iM_goals iM_differents iM_cases fM_from fM_to fM_whole fM_ways iM_plainRows fM_plainRow fM_kept fM_goalOver fM_goalUnder fM_goalMax fM_different ++ (WQ hQ aQ kQ hw fQ_inside fQ_outside fQ_shut iQ_rows iQ_allRows iQ_columns ++ (WW nW hw lw kw wl_174 wb_174 wG_174)))) ((WW nW hw lw kw wl_174 wb_174 wG_174) ++ (WO hO aO kO hM hQ hw iO_answered iO_searched iO_searchedRelaxed iO_counted fO_countedCase gO_goalNumber gO_goalScale fO_start fO_column fO_chosen ++ (WM hM aM kM iM_stands iM_variables iM_rows iM_goals iM_differents iM_cases fM_from fM_to fM_whole fM_ways iM_plainRows fM_plainRow fM_kept fM_goalOver fM_goalUnder fM_goalMax fM_different ++ (WQ hQ aQ kQ hw fQ_inside fQ_outside fQ_shut iQ_rows iQ_allRows iQ_columns)))) := ((List.Perm.append_left _ ((List.Perm.append_left _ (List.perm_append_comm)).trans (List.perm_append_comm_assoc _ _ _))).trans (List.perm_append_comm_assoc _ _ _))
        obtain ⟨hP, hD⟩ := frameG p9 p8 hP hD hk1 hFc (fz_P ht hB9.1) hB9.2
        have hP : va_P (dC, dI) vwCl (WO hO aO kO hM hQ hw iO_answered iO_searched iO_searchedRelaxed iO_counted fO_countedCase gO_goalNumber gO_goalScale fO_start fO_column fO_chosen ++ (WM hM aM kM iM_stands iM_variables iM_rows iM_goals iM_differents iM_cases fM_from fM_to fM_whole fM_ways iM_plainRows fM_plainRow fM_kept fM_goalOver fM_goalUnder fM_goalMax fM_different ++ (WQ hQ aQ kQ hw fQ_inside fQ_outside fQ_shut iQ_rows iQ_allRows iQ_columns ++ (WW nW hw lw kw wl_174 wb_174 wG_174)))) H := hP
        have hD : va_D A (WO hO aO kO hM hQ hw iO_answered iO_searched iO_searchedRelaxed iO_counted fO_countedCase gO_goalNumber gO_goalScale fO_start fO_column fO_chosen ++ (WM hM aM kM iM_stands iM_variables iM_rows iM_goals iM_differents iM_cases fM_from fM_to fM_whole fM_ways iM_plainRows fM_plainRow fM_kept fM_goalOver fM_goalUnder fM_goalMax fM_different ++ (WQ hQ aQ kQ hw fQ_inside fQ_outside fQ_shut iQ_rows iQ_allRows iQ_columns ++ (WW nW hw lw kw wl_174 wb_174 wG_174)))) := hD
        refine lv_iload hx hb dX5_layWay_196 (lv_at hl 3 rfl) ?_
        refine lv_iload hx hb dX5_layWay_198 (lv_at hl 1 rfl) ?_
        refine lv_iadd hx hb dX5_layWay_200 ?_
        refine lv_topi (fun y175 hy175 => ?_)
        obtain rfl : (iI (l6_x47.toInt + l8_x47.toInt)) = y175 := (hy175.trans (iI_add2 (iI_of _) (iI_of _))).symm
        refine W.cut (pc := 223) (fun H locs ls stk => ∃ (k0_j19 : Int32), (0 ≤ k0_j19.toInt ∧ k0_j19.toInt ≤ 1) ∧  stk = [.int k0_j19] ∧ va_P (dC, dI) vwCl (WO hO aO kO hM hQ hw iO_answered iO_searched iO_searchedRelaxed iO_counted fO_countedCase gO_goalNumber gO_goalScale fO_start fO_column fO_chosen ++ (WM hM aM kM iM_stands iM_variables iM_rows iM_goals iM_differents iM_cases fM_from fM_to fM_whole fM_ways iM_plainRows fM_plainRow fM_kept fM_goalOver fM_goalUnder fM_goalMax fM_different ++ (WQ hQ aQ kQ hw fQ_inside fQ_outside fQ_shut iQ_rows iQ_allRows iQ_columns ++ (WW nW hw lw kw wl_174 wb_174 wG_174)))) H ∧ va_D A (WO hO aO kO hM hQ hw iO_answered iO_searched iO_searchedRelaxed iO_counted fO_countedCase gO_goalNumber gO_goalScale fO_start fO_column fO_chosen ++ (WM hM aM kM iM_stands iM_variables iM_rows iM_goals iM_differents iM_cases fM_from fM_to fM_whole fM_ways iM_plainRows fM_plainRow fM_kept fM_goalOver fM_goalUnder fM_goalMax fM_different ++ (WQ hQ aQ kQ hw fQ_inside fQ_outside fQ_shut iQ_rows iQ_allRows iQ_columns ++ (WW nW hw lw kw wl_174 wb_174 wG_174)))) ∧ va_S A s.heap H locs ∧ lv_has ls 12 [(9, .int l9_x47), (8, .int l8_x47), (7, .int l7_x47), (6, .int l6_x47), (5, .int k0_j11), (4, .int r1), (0, .ref (hO 0)), (1, .int p1), (2, .int p2), (3, .int p3)]) (fun join19 => ?_) ?_
        · refine lv_if_lt (tgt := 222) hx hb dX5_layWay_201 (by decide) (fun c_201 => ?_) (fun c_201 => ?_)
          · first | (have t_201 : (l6_x47.toInt + l8_x47.toInt) < 0 := toI_lt c_201 (iI_t (by omega) (by omega)) (by decide : (0 : Int32).toInt = 0)) | skip
            refine lv_iconst (v := 0) hx hb dX5_layWay_222 (by decide) ?_
            have hl : lv_has _ _ ([(9, .int l9_x47), (8, .int l8_x47), (7, .int l7_x47), (6, .int l6_x47), (5, .int k0_j11), (4, .int r1), (0, .ref (hO 0)), (1, .int p1), (2, .int p2), (3, .int p3)]) := lv_sub hl [0, 1, 2, 3, 4, 5, 6, 7, 8, 9] rfl
            exact join19 _ _ _ _ ⟨0, (show 0 ≤ (0 : Int32).toInt ∧ (0 : Int32).toInt ≤ 1 from by decide), rfl, hP, hD, hS, hl⟩
          · first | (have t_201 : ¬ (l6_x47.toInt + l8_x47.toInt) < 0 := toI_nlt c_201 (iI_t (by omega) (by omega)) (by decide : (0 : Int32).toInt = 0)) | skip
            refine lv_iload hx hb dX5_layWay_204 (lv_at hl 5 rfl) ?_
            refine lv_iconst (v := 2) hx hb dX5_layWay_206 (by decide) ?_
            refine lv_icmp_ne (tgt := 218) hx hb dX5_layWay_207 (by decide) (fun c_207 => ?_) (fun c_207 => ?_)
            · have t_207 : r1.toInt ≠ 2 := toI_ne c_207 rfl (by decide : (2 : Int32).toInt = 2)
              refine lv_iconst (v := 1) hx hb dX5_layWay_218 (by decide) ?_
              refine lv_goto (tgt := 223) hx hb dX5_layWay_219 (by decide) ?_
              have hl : lv_has _ _ ([(9, .int l9_x47), (8, .int l8_x47), (7, .int l7_x47), (6, .int l6_x47), (5, .int k0_j11), (4, .int r1), (0, .ref (hO 0)), (1, .int p1), (2, .int p2), (3, .int p3)]) := lv_sub hl [0, 1, 2, 3, 4, 5, 6, 7, 8, 9] rfl
              exact join19 _ _ _ _ ⟨1, (show 0 ≤ (1 : Int32).toInt ∧ (1 : Int32).toInt ≤ 1 from by decide), rfl, hP, hD, hS, hl⟩
            · have t_207 : r1.toInt = 2 := toI_nne c_207 rfl (by decide : (2 : Int32).toInt = 2)
              refine lv_iload hx hb dX5_layWay_210 (lv_at hl 3 rfl) ?_
              refine lv_iload hx hb dX5_layWay_212 (lv_at hl 2 rfl) ?_
              refine lv_iadd hx hb dX5_layWay_214 ?_
              refine lv_topi (fun y177 hy177 => ?_)
              obtain rfl : (iI (l6_x47.toInt + l7_x47.toInt)) = y177 := (hy177.trans (iI_add2 (iI_of _) (iI_of _))).symm
              refine lv_if_gt (tgt := 222) hx hb dX5_layWay_215 (by decide) (fun c_215 => ?_) (fun c_215 => ?_)
              · first | (have t_215 : (l6_x47.toInt + l7_x47.toInt) > 0 := toI_gt c_215 (iI_t (by omega) (by omega)) (by decide : (0 : Int32).toInt = 0)) | skip
                refine lv_iconst (v := 0) hx hb dX5_layWay_222 (by decide) ?_
                have hl : lv_has _ _ ([(9, .int l9_x47), (8, .int l8_x47), (7, .int l7_x47), (6, .int l6_x47), (5, .int k0_j11), (4, .int r1), (0, .ref (hO 0)), (1, .int p1), (2, .int p2), (3, .int p3)]) := lv_sub hl [0, 1, 2, 3, 4, 5, 6, 7, 8, 9] rfl
                exact join19 _ _ _ _ ⟨0, (show 0 ≤ (0 : Int32).toInt ∧ (0 : Int32).toInt ≤ 1 from by decide), rfl, hP, hD, hS, hl⟩
              · first | (have t_215 : ¬ (l6_x47.toInt + l7_x47.toInt) > 0 := toI_ngt c_215 (iI_t (by omega) (by omega)) (by decide : (0 : Int32).toInt = 0)) | skip
                refine lv_iconst (v := 1) hx hb dX5_layWay_218 (by decide) ?_
                refine lv_goto (tgt := 223) hx hb dX5_layWay_219 (by decide) ?_
                have hl : lv_has _ _ ([(9, .int l9_x47), (8, .int l8_x47), (7, .int l7_x47), (6, .int l6_x47), (5, .int k0_j11), (4, .int r1), (0, .ref (hO 0)), (1, .int p1), (2, .int p2), (3, .int p3)]) := lv_sub hl [0, 1, 2, 3, 4, 5, 6, 7, 8, 9] rfl
                exact join19 _ _ _ _ ⟨1, (show 0 ≤ (1 : Int32).toInt ∧ (1 : Int32).toInt ≤ 1 from by decide), rfl, hP, hD, hS, hl⟩
        · rintro H locs ls stk ⟨k0_j19, b_k0_j19, rfl, hP, hD, hS, hl⟩
          refine W.widen (k := 0) (n := 0) (by decide +kernel) (by decide +kernel) ?_
          exact W.zret (v := k0_j19) hx hb hr (by rcases z01 (x := k0_j19) (b_k0_j19) with h9 | h9 <;> rw [h9] <;> rfl) (fun t9_ ht hW => ⟨⟨k0_j19, (wl_174, wb_174, wG_174), rfl, ⟨b_wl_174, b_wb_174, (b_k0_j19)⟩, by rw [ht]; exact hP, hD⟩, hS.F ht⟩) hS.2.2 dX5_layWay_223
      · have t_56 : ¬ l9_x47.toInt ≥ iM_variables.toInt := toI_nge c_56 rfl rfl
        refine lv_iload hx hb dX5_layWay_59 (lv_at hl 4 rfl) ?_
        refine lv_aload_n hx hb dX5_layWay_61 rfl (lv_at hl 6 rfl) ?_
        refine va_get (D := (dC, dI)) (ci := 5) (v := .ref (hM 0)) (C := RX5) (T := TX5) (N := 19) hx hb hts iwsMX5_layWay_in5 hown hK hP 0 rfl rfl 0 (by decide) (hts (.fieldLink RX5 74 "OptimaWorks$Solver" "model" "LOptimaWorks$Model;") (by decide +kernel)) (fun _ h9 => h9) rfl dX5_layWay_62 ?_
        refine lv_iload_n hx hb dX5_layWay_65 rfl (lv_at hl 8 rfl) ?_
        refine lv_iload_n hx hb dX5_layWay_66 rfl (lv_at hl 9 rfl) ?_
        refine lv_iload hx hb dX5_layWay_67 (lv_at hl 0 rfl) ?_
        have p9 : List.Perm (WO hO aO kO hM hQ hw iO_answered iO_searched iO_searchedRelaxed iO_counted fO_countedCase gO_goalNumber gO_goalScale fO_start fO_column fO_chosen ++ (WM hM aM kM iM_stands iM_variables iM_rows iM_goals iM_differents iM_cases fM_from fM_to fM_whole fM_ways iM_plainRows fM_plainRow fM_kept fM_goalOver fM_goalUnder fM_goalMax fM_different ++ (WQ hQ aQ kQ hw fQ_inside fQ_outside fQ_shut iQ_rows iQ_allRows iQ_columns ++ (WW nW hw lw kw wl_x47 wb_x47 wG_x47)))) ((WM hM aM kM iM_stands iM_variables iM_rows iM_goals iM_differents iM_cases fM_from fM_to fM_whole fM_ways iM_plainRows fM_plainRow fM_kept fM_goalOver fM_goalUnder fM_goalMax fM_different) ++ (WO hO aO kO hM hQ hw iO_answered iO_searched iO_searchedRelaxed iO_counted fO_countedCase gO_goalNumber gO_goalScale fO_start fO_column fO_chosen ++ (WQ hQ aQ kQ hw fQ_inside fQ_outside fQ_shut iQ_rows iQ_allRows iQ_columns ++ (WW nW hw lw kw wl_x47 wb_x47 wG_x47)))) := (List.perm_append_comm_assoc _ _ _)
        have hPc := hP.mem (fun q h => p9.mem_iff.mpr (List.mem_append_left _ h))
        have hDc := (hD.perm p9).left
        have hKc : va_K (dC, dI) vwCl (tM kM) _ := hK.sub [10, 11, 12, 13, 14, 15, 16, 17, 18, 19] rfl
        have hFc := freeG p9 hD hS hA
        refine va_calli (va_runV (As := [.int p2, .int p3, .int l9_x47]) (rest := [.int k0_j11]) ⟨hx, hb, hml, hown, hts⟩ (m_X1_number l dC dI hM aM kM iM_stands iM_variables iM_rows iM_goals iM_differents iM_cases fM_from fM_to fM_whole fM_ways iM_plainRows fM_plainRow fM_kept fM_goalOver fM_goalUnder fM_goalMax fM_different p2 p3 l9_x47 (b_iM_stands) (b_iM_variables) (b_iM_rows) (b_iM_goals) (b_iM_differents) (b_iM_cases) b_fM_ways (b_iM_plainRows) b_fM_plainRow (by first | with_reducible assumption | omega | assumption) (b_p2) (b_p3) (b_l9_x47) H.size) (cwV 3 hts gwsMX5_layWay_2 rfl rfl rfl hd_yX1_number_RX1 (by decide +kernel)) (fz_pre (va_recv hK hP (ci := 1) (q0 := 11) rfl rfl) hPc hKc hDc) rfl rfl hl.1 rfl (lv_room (Nat.le_of_ble_eq_true rfl)) dX5_layWay_69 (by decide +kernel)) hS (fun q _ h => hFc q h) hFc (fun r178 u t9_ H locs ht hvm hw9 hB9 hz1 hk1 hS => ?_)
        clear hw9
        have p8 : List.Perm (WO hO aO kO hM hQ hw iO_answered iO_searched iO_searchedRelaxed iO_counted fO_countedCase gO_goalNumber gO_goalScale fO_start fO_column fO_chosen ++ (WM hM aM kM iM_stands iM_variables iM_rows iM_goals iM_differents iM_cases fM_from fM_to fM_whole fM_ways iM_plainRows fM_plainRow fM_kept fM_goalOver fM_goalUnder fM_goalMax fM_different ++ (WQ hQ aQ kQ hw fQ_inside fQ_outside fQ_shut iQ_rows iQ_allRows iQ_columns ++ (WW nW hw lw kw wl_x47 wb_x47 wG_x47)))) ((WM hM aM kM iM_stands iM_variables iM_rows iM_goals iM_differents iM_cases fM_from fM_to fM_whole fM_ways iM_plainRows fM_plainRow fM_kept fM_goalOver fM_goalUnder fM_goalMax fM_different) ++ (WO hO aO kO hM hQ hw iO_answered iO_searched iO_searchedRelaxed iO_counted fO_countedCase gO_goalNumber gO_goalScale fO_start fO_column fO_chosen ++ (WQ hQ aQ kQ hw fQ_inside fQ_outside fQ_shut iQ_rows iQ_allRows iQ_columns ++ (WW nW hw lw kw wl_x47 wb_x47 wG_x47)))) := (List.perm_append_comm_assoc _ _ _)
        obtain ⟨hP, hD⟩ := frameG p9 p8 hP hD hk1 hFc (fz_P ht hB9.1) hB9.2
        have hP : va_P (dC, dI) vwCl (WO hO aO kO hM hQ hw iO_answered iO_searched iO_searchedRelaxed iO_counted fO_countedCase gO_goalNumber gO_goalScale fO_start fO_column fO_chosen ++ (WM hM aM kM iM_stands iM_variables iM_rows iM_goals iM_differents iM_cases fM_from fM_to fM_whole fM_ways iM_plainRows fM_plainRow fM_kept fM_goalOver fM_goalUnder fM_goalMax fM_different ++ (WQ hQ aQ kQ hw fQ_inside fQ_outside fQ_shut iQ_rows iQ_allRows iQ_columns ++ (WW nW hw lw kw wl_x47 wb_x47 wG_x47)))) H := hP
        have hD : va_D A (WO hO aO kO hM hQ hw iO_answered iO_searched iO_searchedRelaxed iO_counted fO_countedCase gO_goalNumber gO_goalScale fO_start fO_column fO_chosen ++ (WM hM aM kM iM_stands iM_variables iM_rows iM_goals iM_differents iM_cases fM_from fM_to fM_whole fM_ways iM_plainRows fM_plainRow fM_kept fM_goalOver fM_goalUnder fM_goalMax fM_different ++ (WQ hQ aQ kQ hw fQ_inside fQ_outside fQ_shut iQ_rows iQ_allRows iQ_columns ++ (WW nW hw lw kw wl_x47 wb_x47 wG_x47)))) := hD
        refine lv_imul hx hb dX5_layWay_72 ?_
        refine lv_topi (fun y179 hy179 => ?_)
        obtain rfl : (iI (k0_j11.toInt * r178.toInt)) = y179 := (hy179.trans (iI_mul2 (iI_of _) (iI_of _))).symm
        refine lv_istore hx hb dX5_layWay_73 hl (by decide) rfl (fun ls (hl : lv_has ls _ ([(10, .int (iI (k0_j11.toInt * r178.toInt))), (9, .int l9_x47), (8, .int l8_x47), (7, .int l7_x47), (6, .int l6_x47), (5, .int k0_j11), (4, .int r1), (0, .ref (hO 0)), (1, .int p1), (2, .int p2), (3, .int p3)])) => ?_)
        refine lv_iload hx hb dX5_layWay_75 (lv_at hl 4 rfl) ?_
        refine lv_iload hx hb dX5_layWay_77 (lv_at hl 0 rfl) ?_
        refine lv_aload_n hx hb dX5_layWay_79 rfl (lv_at hl 7 rfl) ?_
        refine va_get (D := (dC, dI)) (ci := 5) (v := .ref (aO 3)) (C := RX5) (T := TX5) (N := 19) hx hb hts iwsMX5_layWay_in5 hown hK hP 0 rfl rfl 9 (by decide) (hts (.fieldLink RX5 35 "OptimaWorks$Solver" "start" "[I") (by decide +kernel)) (fun _ h9 => h9) rfl dX5_layWay_80 ?_
        refine lv_iload hx hb dX5_layWay_83 (lv_at hl 1 rfl) ?_
        refine va_iald (cA := kO 3) (n := 8) (f := fO_start) hx hb hK hP 4 3 rfl rfl (vp_in_iff.mpr ⟨b_l9_x47.1, (Int.lt_of_lt_of_le (Int.not_le.mp t_56) (Int.le_trans b_iM_variables.2 (by decide)))⟩) dX5_layWay_85 ?_
        refine lv_topi (fun v180 hv180 => ?_)
        clear hv180
        refine lv_imul hx hb dX5_layWay_86 ?_
        refine lv_topi (fun y181 hy181 => ?_)
        obtain rfl : (iI ((k0_j11.toInt * r178.toInt) * v180.toInt)) = y181 := (hy181.trans (iI_mul2 rfl (iI_of _))).symm
        refine lv_iadd hx hb dX5_layWay_87 ?_
        refine lv_topi (fun y182 hy182 => ?_)
        obtain rfl : (iI (l6_x47.toInt + ((k0_j11.toInt * r178.toInt) * v180.toInt))) = y182 := (hy182.trans (iI_add2 (iI_of _) rfl)).symm
        refine lv_istore hx hb dX5_layWay_88 hl (by decide) rfl (fun ls (hl : lv_has ls _ ([(6, .int (iI (l6_x47.toInt + ((k0_j11.toInt * r178.toInt) * v180.toInt)))), (10, .int (iI (k0_j11.toInt * r178.toInt))), (9, .int l9_x47), (8, .int l8_x47), (7, .int l7_x47), (5, .int k0_j11), (4, .int r1), (0, .ref (hO 0)), (1, .int p1), (2, .int p2), (3, .int p3)])) => ?_)
        refine lv_iload hx hb dX5_layWay_90 (lv_at hl 1 rfl) ?_
        refine W.cut (pc := 175) (fun H locs ls stk => ∃ (wl_j20 : Nat → Int32) (wb_j20 : Nat → Int32) (wG_j20 : Nat → Nat → Int64) (l8_j20 : Int32) (l7_j20 : Int32), (∀ q : Nat, 0 ≤ (wl_j20 q).toInt ∧ (wl_j20 q).toInt ≤ 14) ∧ (∀ q : Nat, 0 ≤ (wb_j20 q).toInt ∧ (wb_j20 q).toInt ≤ 1) ∧  stk = [] ∧ va_P (dC, dI) vwCl (WO hO aO kO hM hQ hw iO_answered iO_searched iO_searchedRelaxed iO_counted fO_countedCase gO_goalNumber gO_goalScale fO_start fO_column fO_chosen ++ (WM hM aM kM iM_stands iM_variables iM_rows iM_goals iM_differents iM_cases fM_from fM_to fM_whole fM_ways iM_plainRows fM_plainRow fM_kept fM_goalOver fM_goalUnder fM_goalMax fM_different ++ (WQ hQ aQ kQ hw fQ_inside fQ_outside fQ_shut iQ_rows iQ_allRows iQ_columns ++ (WW nW hw lw kw wl_j20 wb_j20 wG_j20)))) H ∧ va_D A (WO hO aO kO hM hQ hw iO_answered iO_searched iO_searchedRelaxed iO_counted fO_countedCase gO_goalNumber gO_goalScale fO_start fO_column fO_chosen ++ (WM hM aM kM iM_stands iM_variables iM_rows iM_goals iM_differents iM_cases fM_from fM_to fM_whole fM_ways iM_plainRows fM_plainRow fM_kept fM_goalOver fM_goalUnder fM_goalMax fM_different ++ (WQ hQ aQ kQ hw fQ_inside fQ_outside fQ_shut iQ_rows iQ_allRows iQ_columns ++ (WW nW hw lw kw wl_j20 wb_j20 wG_j20)))) ∧ va_S A s.heap H locs ∧ lv_has ls 12 [(6, .int (iI (l6_x47.toInt + ((k0_j11.toInt * r178.toInt) * v180.toInt)))), (10, .int (iI (k0_j11.toInt * r178.toInt))), (9, .int l9_x47), (8, .int l8_j20), (7, .int l7_j20), (5, .int k0_j11), (4, .int r1), (0, .ref (hO 0)), (1, .int p1), (2, .int p2), (3, .int p3)]) (fun join20 => ?_) ?_
        · refine lv_if_eq (tgt := 175) hx hb dX5_layWay_92 (by decide) (fun c_92 => ?_) (fun c_92 => ?_)
          · first | (have t_92 : (k0_j11.toInt * r178.toInt) = 0 := toI_eq c_92 (iI_t (by omega) (by omega)) (by decide : (0 : Int32).toInt = 0)) | skip
            have hl : lv_has _ _ ([(6, .int (iI (l6_x47.toInt + ((k0_j11.toInt * r178.toInt) * v180.toInt)))), (10, .int (iI (k0_j11.toInt * r178.toInt))), (9, .int l9_x47), (8, .int l8_x47), (7, .int l7_x47), (5, .int k0_j11), (4, .int r1), (0, .ref (hO 0)), (1, .int p1), (2, .int p2), (3, .int p3)]) := lv_sub hl [0, 1, 2, 3, 4, 5, 6, 7, 8, 9, 10] rfl
            exact join20 _ _ _ _ ⟨wl_x47, wb_x47, wG_x47, l8_x47, l7_x47, b_wl_x47, b_wb_x47, rfl, hP, hD, hS, hl⟩
          · first | (have t_92 : ¬ (k0_j11.toInt * r178.toInt) = 0 := toI_neq c_92 (iI_t (by omega) (by omega)) (by decide : (0 : Int32).toInt = 0)) | skip
            refine lv_aload_n hx hb dX5_layWay_95 rfl (lv_at hl 7 rfl) ?_
            refine va_get (D := (dC, dI)) (ci := 5) (v := .ref (aO 4)) (C := RX5) (T := TX5) (N := 19) hx hb hts iwsMX5_layWay_in5 hown hK hP 0 rfl rfl 10 (by decide) (hts (.fieldLink RX5 38 "OptimaWorks$Solver" "column" "[I") (by decide +kernel)) (fun _ h9 => h9) rfl dX5_layWay_96 ?_
            refine lv_iload hx hb dX5_layWay_99 (lv_at hl 2 rfl) ?_
            refine va_iald (cA := kO 4) (n := 8) (f := fO_column) hx hb hK hP 5 4 rfl rfl (vp_in_iff.mpr ⟨b_l9_x47.1, (by omega)⟩) dX5_layWay_101 ?_
            refine lv_topi (fun v196 hv196 => ?_)
            have b_v196 : (-1) ≤ v196.toInt ∧ v196.toInt ≤ 8 := by rw [hv196]; exact b_fO_column _
            have b1_v196 : v196 = fO_column (l9_x47).toNatClampNeg := hv196
            clear hv196
            refine lv_iconst (v := (-1)) hx hb dX5_layWay_102 (by decide) ?_
            refine lv_icmp_eq (tgt := 175) hx hb dX5_layWay_103 (by decide) (fun c_103 => ?_) (fun c_103 => ?_)
            · have t_103 : v196.toInt = (-1) := toI_eq c_103 rfl (by decide : ((-1) : Int32).toInt = (-1))
              have hl : lv_has _ _ ([(6, .int (iI (l6_x47.toInt + ((k0_j11.toInt * r178.toInt) * v180.toInt)))), (10, .int (iI (k0_j11.toInt * r178.toInt))), (9, .int l9_x47), (8, .int l8_x47), (7, .int l7_x47), (5, .int k0_j11), (4, .int r1), (0, .ref (hO 0)), (1, .int p1), (2, .int p2), (3, .int p3)]) := lv_sub hl [0, 1, 2, 3, 4, 5, 6, 7, 8, 9, 10] rfl
              exact join20 _ _ _ _ ⟨wl_x47, wb_x47, wG_x47, l8_x47, l7_x47, b_wl_x47, b_wb_x47, rfl, hP, hD, hS, hl⟩
            · have t_103 : ¬ v196.toInt = (-1) := toI_neq c_103 rfl (by decide : ((-1) : Int32).toInt = (-1))
              refine lv_aload_n hx hb dX5_layWay_106 rfl (lv_at hl 7 rfl) ?_
              refine va_get (D := (dC, dI)) (ci := 5) (v := .ref (hQ 0)) (C := RX5) (T := TX5) (N := 19) hx hb hts iwsMX5_layWay_in5 hown hK hP 0 rfl rfl 1 (by decide) (hts (.fieldLink RX5 12 "OptimaWorks$Solver" "tableau" "LOptimaWorks$Tableau;") (by decide +kernel)) (fun _ h9 => h9) rfl dX5_layWay_107 ?_
              refine lv_iload_n hx hb dX5_layWay_110 rfl (lv_at hl 8 rfl) ?_
              refine lv_aload_n hx hb dX5_layWay_111 rfl (lv_at hl 7 rfl) ?_
              refine va_get (D := (dC, dI)) (ci := 5) (v := .ref (aO 4)) (C := RX5) (T := TX5) (N := 19) hx hb hts iwsMX5_layWay_in5 hown hK hP 0 rfl rfl 10 (by decide) (hts (.fieldLink RX5 38 "OptimaWorks$Solver" "column" "[I") (by decide +kernel)) (fun _ h9 => h9) rfl dX5_layWay_112 ?_
              refine lv_iload hx hb dX5_layWay_115 (lv_at hl 2 rfl) ?_
              refine va_iald (cA := kO 4) (n := 8) (f := fO_column) hx hb hK hP 5 4 rfl rfl (vp_in_iff.mpr ⟨b_l9_x47.1, (by omega)⟩) dX5_layWay_117 ?_
              refine lv_topi (fun v197 hv197 => ?_)
              have b_v197 : (-1) ≤ v197.toInt ∧ v197.toInt ≤ 8 := by rw [hv197]; exact b_fO_column _
              have b1_v197 : v197 = fO_column (l9_x47).toNatClampNeg := hv197
              have b2_v197 : v197.toInt = v196.toInt := by rw [hv197]; exact (congrArg Int32.toInt b1_v196).symm
              clear hv197
              have p9 : List.Perm (WO hO aO kO hM hQ hw iO_answered iO_searched iO_searchedRelaxed iO_counted fO_countedCase gO_goalNumber gO_goalScale fO_start fO_column fO_chosen ++ (WM hM aM kM iM_stands iM_variables iM_rows iM_goals iM_differents iM_cases fM_from fM_to fM_whole fM_ways iM_plainRows fM_plainRow fM_kept fM_goalOver fM_goalUnder fM_goalMax fM_different ++ (WQ hQ aQ kQ hw fQ_inside fQ_outside fQ_shut iQ_rows iQ_allRows iQ_columns ++ (WW nW hw lw kw wl_x47 wb_x47 wG_x47)))) ((WQ hQ aQ kQ hw fQ_inside fQ_outside fQ_shut iQ_rows iQ_allRows iQ_columns ++ (WW nW hw lw kw wl_x47 wb_x47 wG_x47)) ++ (WO hO aO kO hM hQ hw iO_answered iO_searched iO_searchedRelaxed iO_counted fO_countedCase gO_goalNumber gO_goalScale fO_start fO_column fO_chosen ++ (WM hM aM kM iM_stands iM_variables iM_rows iM_goals iM_differents iM_cases fM_from fM_to fM_whole fM_ways iM_plainRows fM_plainRow fM_kept fM_goalOver fM_goalUnder fM_goalMax fM_different))) := ((((List.Perm.append_left _ ((List.Perm.append_left _ (List.perm_append_comm)).trans (List.perm_append_comm_assoc _ _ _))).trans (List.perm_append_comm_assoc _ _ _)).trans ((List.Perm.append_left _ ((List.Perm.append_left _ (List.perm_append_comm)).trans (List.perm_append_comm_assoc _ _ _))).trans (List.perm_append_comm_assoc _ _ _))).trans (List.Perm.of_eq (by simp only [List.append_assoc])))
              have hPc := hP.mem (fun q h => p9.mem_iff.mpr (List.mem_append_left _ h))
              have hDc := (hD.perm p9).left
              have hKc : va_K (dC, dI) vwCl (tQ kQ ++ (tW kw)) _ := hK.sub [20, 21, 22, 23, 24] rfl
              have hFc := freeG p9 hD hS hA
              refine va_callr (va_runV (As := [.int p1, .int v197]) (rest := []) ⟨hx, hb, hml, hown, hts⟩ (m_X6_cellAt l dC dI hQ aQ kQ hw fQ_inside fQ_outside fQ_shut iQ_rows iQ_allRows iQ_columns nW lw kw wl_x47 wb_x47 wG_x47 p1 v197 (b_iQ_rows) (b_iQ_allRows) (b_iQ_columns) (by first | with_reducible assumption | omega | assumption) b_wl_x47 b_wb_x47 (b_p1) (by first | exact b_v197 | with_reducible assumption | exact ⟨by omega, by omega⟩ | assumption) (by omega) ((by have h9 := ix_small (i := p1.toInt) (j := v197.toInt) (c := iQ_columns.toInt) (by omega) (by omega) (by omega) (by omega) (by omega) (by omega); exact h9)) H.size) (cwV 2 hts gwsMX5_layWay_3 rfl rfl rfl hd_yX6_cellAt_RX6 (by decide +kernel)) (fz_pre (va_recv hK hP (ci := 6) (q0 := 22) rfl rfl) hPc hKc hDc) rfl rfl hl.1 rfl (lv_room (Nat.le_of_ble_eq_true rfl)) dX5_layWay_118 (by decide +kernel)) hS (fun q _ h => hFc q h) hFc (fun kR_198 ra198 t9_ H locs ht hvm hw9 hB9 hz1 hk1 hS => ?_)
              revert hB9
              refine fz_a2 ?_
              intro hra hB9
              subst hra
              have f198_0 := hw9
              try dsimp only at f198_0
              have p8 : List.Perm (WO hO aO kO hM hQ hw iO_answered iO_searched iO_searchedRelaxed iO_counted fO_countedCase gO_goalNumber gO_goalScale fO_start fO_column fO_chosen ++ (WM hM aM kM iM_stands iM_variables iM_rows iM_goals iM_differents iM_cases fM_from fM_to fM_whole fM_ways iM_plainRows fM_plainRow fM_kept fM_goalOver fM_goalUnder fM_goalMax fM_different ++ (WQ hQ aQ kQ hw fQ_inside fQ_outside fQ_shut iQ_rows iQ_allRows iQ_columns ++ (WW nW hw lw kw wl_x47 wb_x47 wG_x47)))) ((WQ hQ aQ kQ hw fQ_inside fQ_outside fQ_shut iQ_rows iQ_allRows iQ_columns ++ (WW nW hw lw kw wl_x47 wb_x47 wG_x47)) ++ (WO hO aO kO hM hQ hw iO_answered iO_searched iO_searchedRelaxed iO_counted fO_countedCase gO_goalNumber gO_goalScale fO_start fO_column fO_chosen ++ (WM hM aM kM iM_stands iM_variables iM_rows iM_goals iM_differents iM_cases fM_from fM_to fM_whole fM_ways iM_plainRows fM_plainRow fM_kept fM_goalOver fM_goalUnder fM_goalMax fM_different))) := ((((List.Perm.append_left _ ((List.Perm.append_left _ (List.perm_append_comm)).trans (List.perm_append_comm_assoc _ _ _))).trans (List.perm_append_comm_assoc _ _ _)).trans ((List.Perm.append_left _ ((List.Perm.append_left _ (List.perm_append_comm)).trans (List.perm_append_comm_assoc _ _ _))).trans (List.perm_append_comm_assoc _ _ _))).trans (List.Perm.of_eq (by simp only [List.append_assoc])))
              obtain ⟨hP, hD⟩ := frameG p9 p8 hP hD hk1 hFc (fz_P ht hB9.1) hB9.2
              have hP : va_P (dC, dI) vwCl (WO hO aO kO hM hQ hw iO_answered iO_searched iO_searchedRelaxed iO_counted fO_countedCase gO_goalNumber gO_goalScale fO_start fO_column fO_chosen ++ (WM hM aM kM iM_stands iM_variables iM_rows iM_goals iM_differents iM_cases fM_from fM_to fM_whole fM_ways iM_plainRows fM_plainRow fM_kept fM_goalOver fM_goalUnder fM_goalMax fM_different ++ (WQ hQ aQ kQ hw fQ_inside fQ_outside fQ_shut iQ_rows iQ_allRows iQ_columns ++ (WW nW hw lw kw wl_x47 wb_x47 wG_x47)))) H := hP
              have hD : va_D A (WO hO aO kO hM hQ hw iO_answered iO_searched iO_searchedRelaxed iO_counted fO_countedCase gO_goalNumber gO_goalScale fO_start fO_column fO_chosen ++ (WM hM aM kM iM_stands iM_variables iM_rows iM_goals iM_differents iM_cases fM_from fM_to fM_whole fM_ways iM_plainRows fM_plainRow fM_kept fM_goalOver fM_goalUnder fM_goalMax fM_different ++ (WQ hQ aQ kQ hw fQ_inside fQ_outside fQ_shut iQ_rows iQ_allRows iQ_columns ++ (WW nW hw lw kw wl_x47 wb_x47 wG_x47)))) := hD
              refine lv_iload hx hb dX5_layWay_121 (lv_at hl 1 rfl) ?_
              refine lv_i2l hx hb dX5_layWay_123 rfl ?_
              refine lv_topl (fun v199 hv199 => ?_)
              clear hv199
              have p9 : List.Perm (WO hO aO kO hM hQ hw iO_answered iO_searched iO_searchedRelaxed iO_counted fO_countedCase gO_goalNumber gO_goalScale fO_start fO_column fO_chosen ++ (WM hM aM kM iM_stands iM_variables iM_rows iM_goals iM_differents iM_cases fM_from fM_to fM_whole fM_ways iM_plainRows fM_plainRow fM_kept fM_goalOver fM_goalUnder fM_goalMax fM_different ++ (WQ hQ aQ kQ hw fQ_inside fQ_outside fQ_shut iQ_rows iQ_allRows iQ_columns ++ (WW nW hw lw kw wl_x47 wb_x47 wG_x47)))) ((WW nW hw lw kw wl_x47 wb_x47 wG_x47) ++ (WO hO aO kO hM hQ hw iO_answered iO_searched iO_searchedRelaxed iO_counted fO_countedCase gO_goalNumber gO_goalScale fO_start fO_column fO_chosen ++ (WM hM aM kM iM_stands iM_variables iM_rows iM_goals iM_differents iM_cases fM_from fM_to fM_whole fM_ways iM_plainRows fM_plainRow fM_kept fM_goalOver fM_goalUnder fM_goalMax fM_different ++ (WQ hQ aQ kQ hw fQ_inside fQ_outside fQ_shut iQ_rows iQ_allRows iQ_columns)))) := ((List.Perm.append_left _ ((List.Perm.append_left _ (List.perm_append_comm)).trans (List.perm_append_comm_assoc _ _ _))).trans (List.perm_append_comm_assoc _ _ _))
              have hPc := hP.mem (fun q h => p9.mem_iff.mpr (List.mem_append_left _ h))
              have hDc := (hD.perm p9).left
              have hKc : va_K (dC, dI) vwCl (tW kw) _ := hK.sub [24] rfl
              have hFc := freeG p9 hD hS hA
              refine va_callv (va_runV (As := [.long v199]) (rest := []) ⟨hx, hb, hml, hown, hts⟩ (m_X8_setLong l dC dI nW hw lw kw wl_x47 wb_x47 wG_x47 kR_198 v199 b_wl_x47 b_wb_x47 (by first | with_reducible assumption | omega | (rw [iI_t (by omega) (by omega)]; omega) | decide | assumption) H.size) (cwV 1 hts gwsMX5_layWay_4 rfl rfl rfl hd_yX8_setLong_RX8 (by decide +kernel)) (fz_pre (va_recv hK hP (ci := 8) (q0 := 11 + (11 + (5 + (kR_198)))) rfl (apR rfl (apR rfl (apR rfl (WW_o (by omega)))))) hPc hKc hDc) rfl rfl hl.1 rfl (lv_room (Nat.le_of_ble_eq_true rfl)) dX5_layWay_124 (by decide +kernel)) hS (fun q _ h => hFc q h) hFc (fun u t9_ H locs ht hvm hw9 hB9 hz1 hk1 hS => ?_)
              revert u hw9 hB9
              refine fz_p3 ?_
              intro wl_200 wb_200 wG_200 hw9 hB9
              try dsimp only at hw9 hB9
              revert hw9
              refine fz_a2 ?_
              intro b_wl_200 b_wb_200
              have p8 : List.Perm (WO hO aO kO hM hQ hw iO_answered iO_searched iO_searchedRelaxed iO_counted fO_countedCase gO_goalNumber gO_goalScale fO_start fO_column fO_chosen ++ (WM hM aM kM iM_stands iM_variables iM_rows iM_goals iM_differents iM_cases fM_from fM_to fM_whole fM_ways iM_plainRows fM_plainRow fM_kept fM_goalOver fM_goalUnder fM_goalMax fM_different ++ (WQ hQ aQ kQ hw fQ_inside fQ_outside fQ_shut iQ_rows iQ_allRows iQ_columns ++ (WW nW hw lw kw wl_200 wb_200 wG_200)))) ((WW nW hw lw kw wl_200 wb_200 wG_200) ++ (WO hO aO kO hM hQ hw iO_answered iO_searched iO_searchedRelaxed iO_counted fO_countedCase gO_goalNumber gO_goalScale fO_start fO_column fO_chosen ++ (WM hM aM kM iM_stands iM_variables iM_rows iM_goals iM_differents iM_cases fM_from fM_to fM_whole fM_ways iM_plainRows fM_plainRow fM_kept fM_goalOver fM_goalUnder fM_goalMax fM_different ++ (WQ hQ aQ kQ hw fQ_inside fQ_outside fQ_shut iQ_rows iQ_allRows iQ_columns)))) := ((List.Perm.append_left _ ((List.Perm.append_left _ (List.perm_append_comm)).trans (List.perm_append_comm_assoc _ _ _))).trans (List.perm_append_comm_assoc _ _ _))
              obtain ⟨hP, hD⟩ := frameG p9 p8 hP hD hk1 hFc (fz_P ht hB9.1) hB9.2
              have hP : va_P (dC, dI) vwCl (WO hO aO kO hM hQ hw iO_answered iO_searched iO_searchedRelaxed iO_counted fO_countedCase gO_goalNumber gO_goalScale fO_start fO_column fO_chosen ++ (WM hM aM kM iM_stands iM_variables iM_rows iM_goals iM_differents iM_cases fM_from fM_to fM_whole fM_ways iM_plainRows fM_plainRow fM_kept fM_goalOver fM_goalUnder fM_goalMax fM_different ++ (WQ hQ aQ kQ hw fQ_inside fQ_outside fQ_shut iQ_rows iQ_allRows iQ_columns ++ (WW nW hw lw kw wl_200 wb_200 wG_200)))) H := hP
              have hD : va_D A (WO hO aO kO hM hQ hw iO_answered iO_searched iO_searchedRelaxed iO_counted fO_countedCase gO_goalNumber gO_goalScale fO_start fO_column fO_chosen ++ (WM hM aM kM iM_stands iM_variables iM_rows iM_goals iM_differents iM_cases fM_from fM_to fM_whole fM_ways iM_plainRows fM_plainRow fM_kept fM_goalOver fM_goalUnder fM_goalMax fM_different ++ (WQ hQ aQ kQ hw fQ_inside fQ_outside fQ_shut iQ_rows iQ_allRows iQ_columns ++ (WW nW hw lw kw wl_200 wb_200 wG_200)))) := hD
              refine lv_iload hx hb dX5_layWay_127 (lv_at hl 1 rfl) ?_
              refine lv_aload_n hx hb dX5_layWay_129 rfl (lv_at hl 7 rfl) ?_
              refine va_get (D := (dC, dI)) (ci := 5) (v := .ref (hM 0)) (C := RX5) (T := TX5) (N := 19) hx hb hts iwsMX5_layWay_in5 hown hK hP 0 rfl rfl 0 (by decide) (hts (.fieldLink RX5 74 "OptimaWorks$Solver" "model" "LOptimaWorks$Model;") (by decide +kernel)) (fun _ h9 => h9) rfl dX5_layWay_130 ?_
              refine va_get (D := (dC, dI)) (ci := 1) (v := .ref (aM 1)) (C := RX1) (T := TX1) (N := 17) hx hb hts iwsMX5_layWay_in1 hown hK hP 11 rfl rfl 7 (by decide) (hts (.fieldLink RX5 181 "OptimaWorks$Model" "to" "[I") (by decide +kernel)) (fun _ h9 => h9) rfl dX5_layWay_133 ?_
              refine lv_iload hx hb dX5_layWay_136 (lv_at hl 2 rfl) ?_
              refine va_iald (cA := kM 1) (n := 8) (f := fM_to) hx hb hK hP 13 11 rfl rfl (vp_in_iff.mpr ⟨b_l9_x47.1, (by omega)⟩) dX5_layWay_138 ?_
              refine lv_topi (fun v201 hv201 => ?_)
              clear hv201
              refine lv_aload_n hx hb dX5_layWay_139 rfl (lv_at hl 7 rfl) ?_
              refine va_get (D := (dC, dI)) (ci := 5) (v := .ref (hM 0)) (C := RX5) (T := TX5) (N := 19) hx hb hts iwsMX5_layWay_in5 hown hK hP 0 rfl rfl 0 (by decide) (hts (.fieldLink RX5 74 "OptimaWorks$Solver" "model" "LOptimaWorks$Model;") (by decide +kernel)) (fun _ h9 => h9) rfl dX5_layWay_140 ?_
              refine va_get (D := (dC, dI)) (ci := 1) (v := .ref (aM 0)) (C := RX1) (T := TX1) (N := 17) hx hb hts iwsMX5_layWay_in1 hown hK hP 11 rfl rfl 6 (by decide) (hts (.fieldLink RX5 150 "OptimaWorks$Model" "from" "[I") (by decide +kernel)) (fun _ h9 => h9) rfl dX5_layWay_143 ?_
              refine lv_iload hx hb dX5_layWay_146 (lv_at hl 2 rfl) ?_
              refine va_iald (cA := kM 0) (n := 8) (f := fM_from) hx hb hK hP 12 10 rfl rfl (vp_in_iff.mpr ⟨b_l9_x47.1, (by omega)⟩) dX5_layWay_148 ?_
              refine lv_topi (fun v202 hv202 => ?_)
              clear hv202
              refine lv_isub hx hb dX5_layWay_149 ?_
              refine lv_topi (fun y203 hy203 => ?_)
              obtain rfl : (iI (v201.toInt - v202.toInt)) = y203 := (hy203.trans (iI_sub2 (iI_of _) (iI_of _))).symm
              refine lv_imul hx hb dX5_layWay_150 ?_
              refine lv_topi (fun y204 hy204 => ?_)
              obtain rfl : (iI ((k0_j11.toInt * r178.toInt) * (v201.toInt - v202.toInt))) = y204 := (hy204.trans (iI_mul2 rfl rfl)).symm
              refine lv_istore hx hb dX5_layWay_151 hl (by decide) rfl (fun ls (hl : lv_has ls _ ([(11, .int (iI ((k0_j11.toInt * r178.toInt) * (v201.toInt - v202.toInt)))), (6, .int (iI (l6_x47.toInt + ((k0_j11.toInt * r178.toInt) * v180.toInt)))), (10, .int (iI (k0_j11.toInt * r178.toInt))), (9, .int l9_x47), (8, .int l8_x47), (7, .int l7_x47), (5, .int k0_j11), (4, .int r1), (0, .ref (hO 0)), (1, .int p1), (2, .int p2), (3, .int p3)])) => ?_)
              refine lv_iload hx hb dX5_layWay_153 (lv_at hl 5 rfl) ?_
              refine lv_iload hx hb dX5_layWay_155 (lv_at hl 0 rfl) ?_
              refine lv_iconst (v := 0) hx hb dX5_layWay_157 (by decide) ?_
              refine va_mmin hx hb (by rw [hml]; exact hl.1.symm) hown (hts (.methodLink RX5 204 Lib.Math.min.name) (by decide +kernel)) (hts (.static Lib.Math.min.name) (by decide +kernel)) (hts (.initialized "java/lang/Math") (by decide +kernel)) (hts (.code Lib.Math.min.name Lib.Math.min.code 2 (some .int)) (by decide +kernel)) (by decide +kernel) (Nat.le_of_ble_eq_true rfl) (by decide +kernel) (by decide +kernel) dX5_layWay_158 ?_
              refine lv_topi (fun v205 hv205 => ?_)
              first | (have b_v205 : (v205.toInt ≤ ((k0_j11.toInt * r178.toInt) * (v201.toInt - v202.toInt)) ∧ v205.toInt ≤ 0) ∧ (v205.toInt = ((k0_j11.toInt * r178.toInt) * (v201.toInt - v202.toInt)) ∨ v205.toInt = 0) := by rw [hv205]; exact min_t (iI_t (by omega) (by omega)) (by decide : (0 : Int32).toInt = 0)) | skip
              clear hv205
              refine lv_iadd hx hb dX5_layWay_161 ?_
              refine lv_topi (fun y206 hy206 => ?_)
              obtain rfl : (iI (l7_x47.toInt + v205.toInt)) = y206 := (hy206.trans (iI_add2 (iI_of _) (iI_of _))).symm
              refine lv_istore hx hb dX5_layWay_162 hl (by decide) rfl (fun ls (hl : lv_has ls _ ([(7, .int (iI (l7_x47.toInt + v205.toInt))), (11, .int (iI ((k0_j11.toInt * r178.toInt) * (v201.toInt - v202.toInt)))), (6, .int (iI (l6_x47.toInt + ((k0_j11.toInt * r178.toInt) * v180.toInt)))), (10, .int (iI (k0_j11.toInt * r178.toInt))), (9, .int l9_x47), (8, .int l8_x47), (5, .int k0_j11), (4, .int r1), (0, .ref (hO 0)), (1, .int p1), (2, .int p2), (3, .int p3)])) => ?_)
              refine lv_iload hx hb dX5_layWay_164 (lv_at hl 5 rfl) ?_
              refine lv_iload hx hb dX5_layWay_166 (lv_at hl 1 rfl) ?_
              refine lv_iconst (v := 0) hx hb dX5_layWay_168 (by decide) ?_
              refine va_mmax hx hb (by rw [hml]; exact hl.1.symm) hown (hts (.methodLink RX5 137 Lib.Math.max.name) (by decide +kernel)) (hts (.static Lib.Math.max.name) (by decide +kernel)) (hts (.initialized "java/lang/Math") (by decide +kernel)) (hts (.code Lib.Math.max.name Lib.Math.max.code 2 (some .int)) (by decide +kernel)) (by decide +kernel) (Nat.le_of_ble_eq_true rfl) (by decide +kernel) (by decide +kernel) dX5_layWay_169 ?_
              refine lv_topi (fun v207 hv207 => ?_)
              first | (have b_v207 : (((k0_j11.toInt * r178.toInt) * (v201.toInt - v202.toInt)) ≤ v207.toInt ∧ 0 ≤ v207.toInt) ∧ (v207.toInt = ((k0_j11.toInt * r178.toInt) * (v201.toInt - v202.toInt)) ∨ v207.toInt = 0) := by rw [hv207]; exact max_t (iI_t (by omega) (by omega)) (by decide : (0 : Int32).toInt = 0)) | skip
              clear hv207
              refine lv_iadd hx hb dX5_layWay_172 ?_
              refine lv_topi (fun y208 hy208 => ?_)
              obtain rfl : (iI (l8_x47.toInt + v207.toInt)) = y208 := (hy208.trans (iI_add2 (iI_of _) (iI_of _))).symm
              refine lv_istore hx hb dX5_layWay_173 hl (by decide) rfl (fun ls (hl : lv_has ls _ ([(8, .int (iI (l8_x47.toInt + v207.toInt))), (7, .int (iI (l7_x47.toInt + v205.toInt))), (11, .int (iI ((k0_j11.toInt * r178.toInt) * (v201.toInt - v202.toInt)))), (6, .int (iI (l6_x47.toInt + ((k0_j11.toInt * r178.toInt) * v180.toInt)))), (10, .int (iI (k0_j11.toInt * r178.toInt))), (9, .int l9_x47), (5, .int k0_j11), (4, .int r1), (0, .ref (hO 0)), (1, .int p1), (2, .int p2), (3, .int p3)])) => ?_)
              have hl : lv_has _ _ ([(6, .int (iI (l6_x47.toInt + ((k0_j11.toInt * r178.toInt) * v180.toInt)))), (10, .int (iI (k0_j11.toInt * r178.toInt))), (9, .int l9_x47), (8, .int (iI (l8_x47.toInt + v207.toInt))), (7, .int (iI (l7_x47.toInt + v205.toInt))), (5, .int k0_j11), (4, .int r1), (0, .ref (hO 0)), (1, .int p1), (2, .int p2), (3, .int p3)]) := lv_sub hl [3, 4, 5, 0, 1, 6, 7, 8, 9, 10, 11] rfl
              exact join20 _ _ _ _ ⟨wl_200, wb_200, wG_200, (iI (l8_x47.toInt + v207.toInt)), (iI (l7_x47.toInt + v205.toInt)), b_wl_200, b_wb_200, rfl, hP, hD, hS, hl⟩
        · rintro H locs ls stk ⟨wl_j20, wb_j20, wG_j20, l8_j20, l7_j20, b_wl_j20, b_wb_j20, rfl, hP, hD, hS, hl⟩
          refine lv_iinc (v := (iI (l9_x47.toInt + 1))) hx hb dX5_layWay_175 hl (k := 2) rfl (iI_add2 (iI_of _) (by decide : (1 : Int32) = iI 1)) (by decide) rfl (fun ls (hl : lv_has ls _ ([(9, .int (iI (l9_x47.toInt + 1))), (6, .int (iI (l6_x47.toInt + ((k0_j11.toInt * r178.toInt) * v180.toInt)))), (10, .int (iI (k0_j11.toInt * r178.toInt))), (8, .int l8_j20), (7, .int l7_j20), (5, .int k0_j11), (4, .int r1), (0, .ref (hO 0)), (1, .int p1), (2, .int p2), (3, .int p3)])) => ?_)
          refine lv_goto (tgt := 47) hx hb dX5_layWay_178 (by decide) ?_
          have hl : lv_has _ _ ([(9, .int (iI (l9_x47.toInt + 1))), (8, .int l8_j20), (7, .int l7_j20), (6, .int (iI (l6_x47.toInt + ((k0_j11.toInt * r178.toInt) * v180.toInt)))), (5, .int k0_j11), (4, .int r1), (0, .ref (hO 0)), (1, .int p1), (2, .int p2), (3, .int p3)]) := lv_sub hl [0, 3, 4, 1, 5, 6, 7, 8, 9, 10] rfl
          exact ihx47 wl_j20 wb_j20 wG_j20 (iI (l9_x47.toInt + 1)) l8_j20 l7_j20 (iI (l6_x47.toInt + ((k0_j11.toInt * r178.toInt) * v180.toInt))) _ _ _ b_wl_j20 b_wb_j20 (iI_rng (Int.le_trans (by decide) (Int.add_le_add (b_l9_x47.1) (Int.le_refl _))) (by omega) (by decide) (by decide)) (by have e9 : ((iI (l9_x47.toInt + 1))).toInt = (l9_x47.toInt + 1) := (iI_t (Int.le_trans (by decide) (Int.add_le_add (b_l9_x47.1) (Int.le_refl _))) (Int.le_trans (Int.add_le_add (b_l9_x47.2) (Int.le_refl _)) (by decide))); omega) hP hD hS hl
theorem dX5_layGoal_0 : decode cX5_layGoal 0 = .ok (.aload_n 0, 1) := dk_42 (by decide +kernel)
theorem dX5_layGoal_1 : decode cX5_layGoal 1 = .ok (.getfield 12, 3) := dk_180 (by decide +kernel)
theorem dX5_layGoal_4 : decode cX5_layGoal 4 = .ok (.iload_n 1, 1) := dk_27 (by decide +kernel)
theorem dX5_layGoal_5 : decode cX5_layGoal 5 = .ok (.iconst 0, 1) := dk_3 (by decide +kernel)
theorem dX5_layGoal_6 : decode cX5_layGoal 6 = .ok (.invokevirtual 177, 3) := dk_182 (by decide +kernel)
theorem dX5_layGoal_9 : decode cX5_layGoal 9 = .ok (.astore_n 3, 1) := dk_78 (by decide +kernel)
theorem dX5_layGoal_10 : decode cX5_layGoal 10 = .ok (.iconst 0, 1) := dk_3 (by decide +kernel)
theorem dX5_layGoal_11 : decode cX5_layGoal 11 = .ok (.istore 4, 2) := dk_54 (by decide +kernel)
theorem dX5_layGoal_13 : decode cX5_layGoal 13 = .ok (.iload 4, 2) := dk_21 (by decide +kernel)
theorem dX5_layGoal_15 : decode cX5_layGoal 15 = .ok (.aload_n 0, 1) := dk_42 (by decide +kernel)
theorem dX5_layGoal_16 : decode cX5_layGoal 16 = .ok (.getfield 74, 3) := dk_180 (by decide +kernel)
theorem dX5_layGoal_19 : decode cX5_layGoal 19 = .ok (.getfield 112, 3) := dk_180 (by decide +kernel)
theorem dX5_layGoal_22 : decode cX5_layGoal 22 = .ok (.if_icmp .ge 79, 3) := dk_162 (by decide +kernel)
theorem dX5_layGoal_25 : decode cX5_layGoal 25 = .ok (.aload_n 0, 1) := dk_42 (by decide +kernel)
theorem dX5_layGoal_26 : decode cX5_layGoal 26 = .ok (.iload_n 2, 1) := dk_28 (by decide +kernel)
theorem dX5_layGoal_27 : decode cX5_layGoal 27 = .ok (.iload 4, 2) := dk_21 (by decide +kernel)
theorem dX5_layGoal_29 : decode cX5_layGoal 29 = .ok (.invokevirtual 207, 3) := dk_182 (by decide +kernel)
theorem dX5_layGoal_32 : decode cX5_layGoal 32 = .ok (.lstore 5, 2) := dk_55 (by decide +kernel)
theorem dX5_layGoal_34 : decode cX5_layGoal 34 = .ok (.aload_n 0, 1) := dk_42 (by decide +kernel)
theorem dX5_layGoal_35 : decode cX5_layGoal 35 = .ok (.getfield 71, 3) := dk_180 (by decide +kernel)
theorem dX5_layGoal_38 : decode cX5_layGoal 38 = .ok (.iconst 1, 1) := dk_4 (by decide +kernel)
theorem dX5_layGoal_39 : decode cX5_layGoal 39 = .ok (.aaload, 1) := dk_50 (by decide +kernel)
theorem dX5_layGoal_40 : decode cX5_layGoal 40 = .ok (.aload_n 0, 1) := dk_42 (by decide +kernel)
theorem dX5_layGoal_41 : decode cX5_layGoal 41 = .ok (.getfield 35, 3) := dk_180 (by decide +kernel)
theorem dX5_layGoal_44 : decode cX5_layGoal 44 = .ok (.iload 4, 2) := dk_21 (by decide +kernel)
theorem dX5_layGoal_46 : decode cX5_layGoal 46 = .ok (.iaload, 1) := dk_46 (by decide +kernel)
theorem dX5_layGoal_47 : decode cX5_layGoal 47 = .ok (.i2l, 1) := dk_133 (by decide +kernel)
theorem dX5_layGoal_48 : decode cX5_layGoal 48 = .ok (.invokevirtual 184, 3) := dk_182 (by decide +kernel)
theorem dX5_layGoal_51 : decode cX5_layGoal 51 = .ok (.aload_n 0, 1) := dk_42 (by decide +kernel)
theorem dX5_layGoal_52 : decode cX5_layGoal 52 = .ok (.aload_n 3, 1) := dk_45 (by decide +kernel)
theorem dX5_layGoal_53 : decode cX5_layGoal 53 = .ok (.aload_n 0, 1) := dk_42 (by decide +kernel)
theorem dX5_layGoal_54 : decode cX5_layGoal 54 = .ok (.getfield 71, 3) := dk_180 (by decide +kernel)
theorem dX5_layGoal_57 : decode cX5_layGoal 57 = .ok (.iconst 1, 1) := dk_4 (by decide +kernel)
theorem dX5_layGoal_58 : decode cX5_layGoal 58 = .ok (.aaload, 1) := dk_50 (by decide +kernel)
theorem dX5_layGoal_59 : decode cX5_layGoal 59 = .ok (.lload 5, 2) := dk_22 (by decide +kernel)
theorem dX5_layGoal_61 : decode cX5_layGoal 61 = .ok (.invokevirtual 211, 3) := dk_182 (by decide +kernel)
theorem dX5_layGoal_64 : decode cX5_layGoal 64 = .ok (.aload_n 0, 1) := dk_42 (by decide +kernel)
theorem dX5_layGoal_65 : decode cX5_layGoal 65 = .ok (.getfield 38, 3) := dk_180 (by decide +kernel)
theorem dX5_layGoal_68 : decode cX5_layGoal 68 = .ok (.iload 4, 2) := dk_21 (by decide +kernel)
theorem dX5_layGoal_70 : decode cX5_layGoal 70 = .ok (.iaload, 1) := dk_46 (by decide +kernel)
theorem dX5_layGoal_71 : decode cX5_layGoal 71 = .ok (.iconst (-1), 1) := dk_2 (by decide +kernel)
theorem dX5_layGoal_72 : decode cX5_layGoal 72 = .ok (.if_icmp .eq 23, 3) := dk_159 (by decide +kernel)
theorem dX5_layGoal_75 : decode cX5_layGoal 75 = .ok (.aload_n 0, 1) := dk_42 (by decide +kernel)
theorem dX5_layGoal_76 : decode cX5_layGoal 76 = .ok (.getfield 12, 3) := dk_180 (by decide +kernel)
theorem dX5_layGoal_79 : decode cX5_layGoal 79 = .ok (.iload_n 1, 1) := dk_27 (by decide +kernel)
theorem dX5_layGoal_80 : decode cX5_layGoal 80 = .ok (.aload_n 0, 1) := dk_42 (by decide +kernel)
theorem dX5_layGoal_81 : decode cX5_layGoal 81 = .ok (.getfield 38, 3) := dk_180 (by decide +kernel)
theorem dX5_layGoal_84 : decode cX5_layGoal 84 = .ok (.iload 4, 2) := dk_21 (by decide +kernel)
theorem dX5_layGoal_86 : decode cX5_layGoal 86 = .ok (.iaload, 1) := dk_46 (by decide +kernel)
theorem dX5_layGoal_87 : decode cX5_layGoal 87 = .ok (.invokevirtual 177, 3) := dk_182 (by decide +kernel)
theorem dX5_layGoal_90 : decode cX5_layGoal 90 = .ok (.lload 5, 2) := dk_22 (by decide +kernel)
theorem dX5_layGoal_92 : decode cX5_layGoal 92 = .ok (.invokevirtual 184, 3) := dk_182 (by decide +kernel)
theorem dX5_layGoal_95 : decode cX5_layGoal 95 = .ok (.iinc 4 1, 3) := dk_132 (by decide +kernel)
theorem dX5_layGoal_98 : decode cX5_layGoal 98 = .ok (.goto (-85), 3) := dk_167 (by decide +kernel)
theorem dX5_layGoal_101 : decode cX5_layGoal 101 = .ok (.return_, 1) := dk_177 (by decide +kernel)
def wsMX5_layGoal : List Cond := .code yX5_layGoal cX5_layGoal 7 none :: ([.fieldLink RX5 12 "OptimaWorks$Solver" "tableau" "LOptimaWorks$Tableau;", .fieldLink RX5 74 "OptimaWorks$Solver" "model" "LOptimaWorks$Model;", .fieldLink RX5 112 "OptimaWorks$Model" "variables" "I", .fieldLink RX5 71 "OptimaWorks$Solver" "spare" "[LOptimaWorks$Whole;", .fieldLink RX5 35 "OptimaWorks$Solver" "start" "[I", .fieldLink RX5 38 "OptimaWorks$Solver" "column" "[I"] ++ wsX10 ++ wsX50 ++ (wsV RX5 177 RX6 yX6_cellAt wsMX6_cellAt) ++ (wsV RX5 207 RX5 yX5_scaledNumber wsMX5_scaledNumber) ++ (wsV RX5 184 RX8 yX8_setLong wsMX8_setLong) ++ (wsV RX5 211 RX5 yX5_addTimes wsMX5_addTimes))
theorem iwsMX5_layGoal_in1 : ∀ w ∈ wsX10, w ∈ wsMX5_layGoal := fun _ h => List.mem_cons_of_mem _ (List.mem_append_left _ (List.mem_append_left _ (List.mem_append_left _ (List.mem_append_left _ (List.mem_append_left _ (List.mem_append_right _ h))))))
theorem iwsMX5_layGoal_in5 : ∀ w ∈ wsX50, w ∈ wsMX5_layGoal := fun _ h => List.mem_cons_of_mem _ (List.mem_append_left _ (List.mem_append_left _ (List.mem_append_left _ (List.mem_append_left _ (List.mem_append_right _ h)))))
theorem gwsMX5_layGoal_0 : GoodIn wsMX5_layGoal (wsV RX5 177 RX6 yX6_cellAt wsMX6_cellAt) := goodIn_sub (fun _ h => List.mem_cons_of_mem _ (List.mem_append_left _ (List.mem_append_left _ (List.mem_append_left _ (List.mem_append_right _ h))))) (gdV (by decide +kernel) gdwsMX6_cellAt)
theorem gwsMX5_layGoal_1 : GoodIn wsMX5_layGoal (wsV RX5 207 RX5 yX5_scaledNumber wsMX5_scaledNumber) := goodIn_sub (fun _ h => List.mem_cons_of_mem _ (List.mem_append_left _ (List.mem_append_left _ (List.mem_append_right _ h)))) (gdV (by decide +kernel) gdwsMX5_scaledNumber)
theorem gwsMX5_layGoal_2 : GoodIn wsMX5_layGoal (wsV RX5 184 RX8 yX8_setLong wsMX8_setLong) := goodIn_sub (fun _ h => List.mem_cons_of_mem _ (List.mem_append_left _ (List.mem_append_right _ h))) (gdV (by decide +kernel) gdwsMX8_setLong)
theorem gwsMX5_layGoal_3 : GoodIn wsMX5_layGoal (wsV RX5 211 RX5 yX5_addTimes wsMX5_addTimes) := goodIn_sub (fun _ h => List.mem_cons_of_mem _ (List.mem_append_right _ h)) (gdV (by decide +kernel) gdwsMX5_addTimes)
theorem gdwsMX5_layGoal : wsMX5_layGoal.all goodWord = true := gdC rfl (gdA (gdA (gdA (gdA (gdA (gdA (by decide +kernel : ([.fieldLink RX5 12 "OptimaWorks$Solver" "tableau" "LOptimaWorks$Tableau;", .fieldLink RX5 74 "OptimaWorks$Solver" "model" "LOptimaWorks$Model;", .fieldLink RX5 112 "OptimaWorks$Model" "variables" "I", .fieldLink RX5 71 "OptimaWorks$Solver" "spare" "[LOptimaWorks$Whole;", .fieldLink RX5 35 "OptimaWorks$Solver" "start" "[I", .fieldLink RX5 38 "OptimaWorks$Solver" "column" "[I"] : List Cond).all goodWord = true) gdwsX10) gdwsX50) (gdV (by decide +kernel) gdwsMX6_cellAt)) (gdV (by decide +kernel) gdwsMX5_scaledNumber)) (gdV (by decide +kernel) gdwsMX8_setLong)) (gdV (by decide +kernel) gdwsMX5_addTimes))
set_option maxHeartbeats 4000000 in
set_option maxRecDepth 100000 in
/-- a goal is laid out -/
theorem m_X5_layGoal (l : Launch) (dC : Nat → ClassId) (dI : Nat → Nat → Nat) (hO : Nat → Nat) (aO : Nat → Nat) (kO : Nat → ClassId) (hM : Nat → Nat) (hQ : Nat → Nat) (hw : Nat → Nat) (iO_answered : Int32) (iO_searched : Int32) (iO_searchedRelaxed : Int32) (iO_counted : Int32) (fO_countedCase : Nat → Int32) (gO_goalNumber : Nat → Int64) (gO_goalScale : Nat → Int64) (fO_start : Nat → Int32) (fO_column : Nat → Int32) (fO_chosen : Nat → Int32) (aM : Nat → Nat) (kM : Nat → ClassId) (iM_stands : Int32) (iM_variables : Int32) (iM_rows : Int32) (iM_goals : Int32) (iM_differents : Int32) (iM_cases : Int32) (fM_from : Nat → Int32) (fM_to : Nat → Int32) (fM_whole : Nat → Int32) (fM_ways : Nat → Int32) (iM_plainRows : Int32) (fM_plainRow : Nat → Int32) (fM_kept : Nat → Int32) (fM_goalOver : Nat → Int32) (fM_goalUnder : Nat → Int32) (fM_goalMax : Nat → Int32) (fM_different : Nat → Int32) (aQ : Nat → Nat) (kQ : Nat → ClassId) (fQ_inside : Nat → Int32) (fQ_outside : Nat → Int32) (fQ_shut : Nat → Int32) (iQ_rows : Int32) (iQ_allRows : Int32) (iQ_columns : Int32) (nW : Nat) (lw : Nat → Nat) (kw : ClassId) (wl : Nat → Int32) (wb : Nat → Int32) (wG : Nat → Nat → Int64) (p1 : Int32) (p2 : Int32) (b_iO_answered : 0 ≤ iO_answered.toInt ∧ iO_answered.toInt ≤ 1) (b_iO_searched : 0 ≤ iO_searched.toInt ∧ iO_searched.toInt ≤ 1) (b_iO_searchedRelaxed : 0 ≤ iO_searchedRelaxed.toInt ∧ iO_searchedRelaxed.toInt ≤ 1) (b_iO_counted : (-1) ≤ iO_counted.toInt ∧ iO_counted.toInt ≤ 64) (b_fO_countedCase : ∀ q : Nat, 0 ≤ (fO_countedCase q).toInt ∧ (fO_countedCase q).toInt ≤ 200000) (b_fO_column : ∀ q : Nat, (-1) ≤ (fO_column q).toInt ∧ (fO_column q).toInt ≤ 8) (b_fO_chosen : ∀ q : Nat, 0 ≤ (fO_chosen q).toInt ∧ (fO_chosen q).toInt ≤ 2) (b_iM_stands : 0 ≤ iM_stands.toInt ∧ iM_stands.toInt ≤ 1) (b_iM_variables : 0 ≤ iM_variables.toInt ∧ iM_variables.toInt ≤ 8) (b_iM_rows : 0 ≤ iM_rows.toInt ∧ iM_rows.toInt ≤ 12) (b_iM_goals : 0 ≤ iM_goals.toInt ∧ iM_goals.toInt ≤ 3) (b_iM_differents : 0 ≤ iM_differents.toInt ∧ iM_differents.toInt ≤ 8) (b_iM_cases : 0 ≤ iM_cases.toInt ∧ iM_cases.toInt ≤ 200000) (b_fM_ways : ∀ q : Nat, 0 ≤ (fM_ways q).toInt ∧ (fM_ways q).toInt ≤ 3) (b_iM_plainRows : 0 ≤ iM_plainRows.toInt ∧ iM_plainRows.toInt ≤ 12) (b_fM_plainRow : ∀ q : Nat, 0 ≤ (fM_plainRow q).toInt ∧ (fM_plainRow q).toInt ≤ 11) (b_pr : iM_plainRows.toInt ≤ iM_rows.toInt) (b_iQ_rows : 0 ≤ iQ_rows.toInt ∧ iQ_rows.toInt ≤ 40) (b_iQ_allRows : 0 ≤ iQ_allRows.toInt ∧ iQ_allRows.toInt ≤ 40) (b_iQ_columns : 0 ≤ iQ_columns.toInt ∧ iQ_columns.toInt ≤ 40) (b_tb : TbO iQ_rows iQ_allRows iQ_columns) (b_wl : ∀ q : Nat, 0 ≤ (wl q).toInt ∧ (wl q).toInt ≤ 14) (b_wb : ∀ q : Nat, 0 ≤ (wb q).toInt ∧ (wb q).toInt ≤ 1) (b_p1 : 0 ≤ p1.toInt ∧ p1.toInt ≤ 39) (b_p2 : 0 ≤ p2.toInt ∧ p2.toInt ≤ 2) (hnW : 432 ≤ nW) (hc8 : iQ_columns.toInt ≤ 8) (sz : Nat) : Met l yX5_layGoal wsMX5_layGoal ({ frames := 4, cells := 0, slots := 0, locals := 85 }) (va_Pc [.ref (hO 0), .int p1, .int p2] (fun U => U.heap.size = sz ∧ va_P (dC, dI) vwCl (WO hO aO kO hM hQ hw iO_answered iO_searched iO_searchedRelaxed iO_counted fO_countedCase gO_goalNumber gO_goalScale fO_start fO_column fO_chosen ++ (WM hM aM kM iM_stands iM_variables iM_rows iM_goals iM_differents iM_cases fM_from fM_to fM_whole fM_ways iM_plainRows fM_plainRow fM_kept fM_goalOver fM_goalUnder fM_goalMax fM_different ++ (WQ hQ aQ kQ hw fQ_inside fQ_outside fQ_shut iQ_rows iQ_allRows iQ_columns ++ (WW nW hw lw kw wl wb wG)))) U.heap ∧ va_K (dC, dI) vwCl (tO kO ++ (tM kM ++ (tQ kQ ++ (tW kw)))) U ∧ va_D (fun _ => True) (WO hO aO kO hM hQ hw iO_answered iO_searched iO_searchedRelaxed iO_counted fO_countedCase gO_goalNumber gO_goalScale fO_start fO_column fO_chosen ++ (WM hM aM kM iM_stands iM_variables iM_rows iM_goals iM_differents iM_cases fM_from fM_to fM_whole fM_ways iM_plainRows fM_plainRow fM_kept fM_goalOver fM_goalUnder fM_goalMax fM_different ++ (WQ hQ aQ kQ hw fQ_inside fQ_outside fQ_shut iQ_rows iQ_allRows iQ_columns ++ (WW nW hw lw kw wl wb wG)))))) (va_Qv (fun (u : (Nat → Int32) × (Nat → Int32) × (Nat → Nat → Int64)) => (∀ q : Nat, 0 ≤ ((u.1) q).toInt ∧ ((u.1) q).toInt ≤ 14) ∧ (∀ q : Nat, 0 ≤ ((u.2.1) q).toInt ∧ ((u.2.1) q).toInt ≤ 1)) (fun (u : (Nat → Int32) × (Nat → Int32) × (Nat → Nat → Int64)) t => va_P (dC, dI) vwCl (WO hO aO kO hM hQ hw iO_answered iO_searched iO_searchedRelaxed iO_counted fO_countedCase gO_goalNumber gO_goalScale fO_start fO_column fO_chosen ++ (WM hM aM kM iM_stands iM_variables iM_rows iM_goals iM_differents iM_cases fM_from fM_to fM_whole fM_ways iM_plainRows fM_plainRow fM_kept fM_goalOver fM_goalUnder fM_goalMax fM_different ++ (WQ hQ aQ kQ hw fQ_inside fQ_outside fQ_shut iQ_rows iQ_allRows iQ_columns ++ (WW nW hw lw kw (u.1) (u.2.1) (u.2.2))))) t.heap ∧ va_D (va_A (WO hO aO kO hM hQ hw iO_answered iO_searched iO_searchedRelaxed iO_counted fO_countedCase gO_goalNumber gO_goalScale fO_start fO_column fO_chosen ++ (WM hM aM kM iM_stands iM_variables iM_rows iM_goals iM_differents iM_cases fM_from fM_to fM_whole fM_ways iM_plainRows fM_plainRow fM_kept fM_goalOver fM_goalUnder fM_goalMax fM_different ++ (WQ hQ aQ kQ hw fQ_inside fQ_outside fQ_shut iQ_rows iQ_allRows iQ_columns ++ (WW nW hw lw kw wl wb wG)))) sz) (WO hO aO kO hM hQ hw iO_answered iO_searched iO_searchedRelaxed iO_counted fO_countedCase gO_goalNumber gO_goalScale fO_start fO_column fO_chosen ++ (WM hM aM kM iM_stands iM_variables iM_rows iM_goals iM_differents iM_cases fM_from fM_to fM_whole fM_ways iM_plainRows fM_plainRow fM_kept fM_goalOver fM_goalUnder fM_goalMax fM_different ++ (WQ hQ aQ kQ hw fQ_inside fQ_outside fQ_shut iQ_rows iQ_allRows iQ_columns ++ (WW nW hw lw kw (u.1) (u.2.1) (u.2.2)))))) (va_A (WO hO aO kO hM hQ hw iO_answered iO_searched iO_searchedRelaxed iO_counted fO_countedCase gO_goalNumber gO_goalScale fO_start fO_column fO_chosen ++ (WM hM aM kM iM_stands iM_variables iM_rows iM_goals iM_differents iM_cases fM_from fM_to fM_whole fM_ways iM_plainRows fM_plainRow fM_kept fM_goalOver fM_goalUnder fM_goalMax fM_different ++ (WQ hQ aQ kQ hw fQ_inside fQ_outside fQ_shut iQ_rows iQ_allRows iQ_columns ++ (WW nW hw lw kw wl wb wG)))) sz)) 0 0 (va_A (WO hO aO kO hM hQ hw iO_answered iO_searched iO_searchedRelaxed iO_counted fO_countedCase gO_goalNumber gO_goalScale fO_start fO_column fO_chosen ++ (WM hM aM kM iM_stands iM_variables iM_rows iM_goals iM_differents iM_cases fM_from fM_to fM_whole fM_ways iM_plainRows fM_plainRow fM_kept fM_goalOver fM_goalUnder fM_goalMax fM_different ++ (WQ hQ aQ kQ hw fQ_inside fQ_outside fQ_shut iQ_rows iQ_allRows iQ_columns ++ (WW nW hw lw kw wl wb wG)))) sz) := by
  refine Met.ofW (cc := cX5_layGoal) (maxL := 7) (ret := none) (by decide) rfl ?_
  intro p e s m args below meth c s₁ B hml hv
  obtain ⟨rfl, hsz, hP, hK, hD0⟩ := hv
  have hx := B.exec
  have hb := B.bytes
  have hr := B.returns
  have hts := atoms_spec (ws := wsMX5_layGoal) B.pre
  have hown : s.vm.findClass RX5 = some m.cls := findClass_of_methodNamed B.named
  have hlocks := B.notSynchronized
  subst hsz
  have hD := hD0.self (sz := s.heap.size)
  generalize hAe : va_A (WO hO aO kO hM hQ hw iO_answered iO_searched iO_searchedRelaxed iO_counted fO_countedCase gO_goalNumber gO_goalScale fO_start fO_column fO_chosen ++ (WM hM aM kM iM_stands iM_variables iM_rows iM_goals iM_differents iM_cases fM_from fM_to fM_whole fM_ways iM_plainRows fM_plainRow fM_kept fM_goalOver fM_goalUnder fM_goalMax fM_different ++ (WQ hQ aQ kQ hw fQ_inside fQ_outside fQ_shut iQ_rows iQ_allRows iQ_columns ++ (WW nW hw lw kw wl wb wG)))) s.heap.size = A at hD ⊢
  have hA : ∀ q : Nat, s.heap.size ≤ q → A q := fun q h => by rw [← hAe]; exact Or.inr h
  have hS : va_S A s.heap s.heap [] := va_S.rf
  have hl := lv_entry ([.ref (hO 0), .int p1, .int p2]) (n := 7) (Nat.le_of_ble_eq_true rfl)
  rw [lg_entry_eq]
  generalize (lg_sl ([.ref (hO 0), .int p1, .int p2]) ++ List.replicate (7 - (lg_sl ([.ref (hO 0), .int p1, .int p2])).length) Slot.unset).toArray = ls at hl ⊢
  have hl : lv_has ls 7 [(0, .ref (hO 0)), (1, .int p1), (2, .int p2)] := hl
  refine lv_aload_n hx hb dX5_layGoal_0 rfl (lv_at hl 0 rfl) ?_
  refine va_get (D := (dC, dI)) (ci := 5) (v := .ref (hQ 0)) (C := RX5) (T := TX5) (N := 19) hx hb hts iwsMX5_layGoal_in5 hown hK hP 0 rfl rfl 1 (by decide) (hts (.fieldLink RX5 12 "OptimaWorks$Solver" "tableau" "LOptimaWorks$Tableau;") (by decide +kernel)) (fun _ h9 => h9) rfl dX5_layGoal_1 ?_
  refine lv_iload_n hx hb dX5_layGoal_4 rfl (lv_at hl 1 rfl) ?_
  refine lv_iconst (v := 0) hx hb dX5_layGoal_5 (by decide) ?_
  have p9 : List.Perm (WO hO aO kO hM hQ hw iO_answered iO_searched iO_searchedRelaxed iO_counted fO_countedCase gO_goalNumber gO_goalScale fO_start fO_column fO_chosen ++ (WM hM aM kM iM_stands iM_variables iM_rows iM_goals iM_differents iM_cases fM_from fM_to fM_whole fM_ways iM_plainRows fM_plainRow fM_kept fM_goalOver fM_goalUnder fM_goalMax fM_different ++ (WQ hQ aQ kQ hw fQ_inside fQ_outside fQ_shut iQ_rows iQ_allRows iQ_columns ++ (WW nW hw lw kw wl wb wG)))) ((WQ hQ aQ kQ hw fQ_inside fQ_outside fQ_shut iQ_rows iQ_allRows iQ_columns ++ (WW nW hw lw kw wl wb wG)) ++ (WO hO aO kO hM hQ hw iO_answered iO_searched iO_searchedRelaxed iO_counted fO_countedCase gO_goalNumber gO_goalScale fO_start fO_column fO_chosen ++ (WM hM aM kM iM_stands iM_variables iM_rows iM_goals iM_differents iM_cases fM_from fM_to fM_whole fM_ways iM_plainRows fM_plainRow fM_kept fM_goalOver fM_goalUnder fM_goalMax fM_different))) := ((((List.Perm.append_left _ ((List.Perm.append_left _ (List.perm_append_comm)).trans (List.perm_append_comm_assoc _ _ _))).trans (List.perm_append_comm_assoc _ _ _)).trans ((List.Perm.append_left _ ((List.Perm.append_left _ (List.perm_append_comm)).trans (List.perm_append_comm_assoc _ _ _))).trans (List.perm_append_comm_assoc _ _ _))).trans (List.Perm.of_eq (by simp only [List.append_assoc])))
  have hPc := hP.mem (fun q h => p9.mem_iff.mpr (List.mem_append_left _ h))
  have hDc := (hD.perm p9).left
  have hKc : va_K (dC, dI) vwCl (tQ kQ ++ (tW kw)) _ := hK.sub [20, 21, 22, 23, 24] rfl
  have hFc := freeG p9 hD hS hA
  refine va_callr (va_runV (As := [.int p1, .int 0]) (rest := []) ⟨hx, hb, hml, hown, hts⟩ (m_X6_cellAt l dC dI hQ aQ kQ hw fQ_inside fQ_outside fQ_shut iQ_rows iQ_allRows iQ_columns nW lw kw wl wb wG p1 0 (b_iQ_rows) (b_iQ_allRows) (b_iQ_columns) (by first | with_reducible assumption | omega | assumption) b_wl b_wb (b_p1) (show 0 ≤ (0 : Int32).toInt ∧ (0 : Int32).toInt ≤ 40 from by decide) (by omega) ((by have h9 := ix_small (i := p1.toInt) (j := 0) (c := iQ_columns.toInt) (by omega) (by omega) (by omega) (by omega) (by omega) (by omega); have h8 : (0 : Int32).toInt = 0 := (by decide); rw [h8]; exact h9)) s.heap.size) (cwV 2 hts gwsMX5_layGoal_0 rfl rfl rfl hd_yX6_cellAt_RX6 (by decide +kernel)) (fz_pre (va_recv hK hP (ci := 6) (q0 := 22) rfl rfl) hPc hKc hDc) rfl rfl hl.1 rfl (lv_room (Nat.le_of_ble_eq_true rfl)) dX5_layGoal_6 (by decide +kernel)) hS (fun q _ h => hFc q h) hFc (fun kR_1 ra1 t9_ H locs ht hvm hw9 hB9 hz1 hk1 hS => ?_)
  revert hB9
  refine fz_a2 ?_
  intro hra hB9
  subst hra
  have f1_0 := hw9
  try dsimp only at f1_0
  have p8 : List.Perm (WO hO aO kO hM hQ hw iO_answered iO_searched iO_searchedRelaxed iO_counted fO_countedCase gO_goalNumber gO_goalScale fO_start fO_column fO_chosen ++ (WM hM aM kM iM_stands iM_variables iM_rows iM_goals iM_differents iM_cases fM_from fM_to fM_whole fM_ways iM_plainRows fM_plainRow fM_kept fM_goalOver fM_goalUnder fM_goalMax fM_different ++ (WQ hQ aQ kQ hw fQ_inside fQ_outside fQ_shut iQ_rows iQ_allRows iQ_columns ++ (WW nW hw lw kw wl wb wG)))) ((WQ hQ aQ kQ hw fQ_inside fQ_outside fQ_shut iQ_rows iQ_allRows iQ_columns ++ (WW nW hw lw kw wl wb wG)) ++ (WO hO aO kO hM hQ hw iO_answered iO_searched iO_searchedRelaxed iO_counted fO_countedCase gO_goalNumber gO_goalScale fO_start fO_column fO_chosen ++ (WM hM aM kM iM_stands iM_variables iM_rows iM_goals iM_differents iM_cases fM_from fM_to fM_whole fM_ways iM_plainRows fM_plainRow fM_kept fM_goalOver fM_goalUnder fM_goalMax fM_different))) := ((((List.Perm.append_left _ ((List.Perm.append_left _ (List.perm_append_comm)).trans (List.perm_append_comm_assoc _ _ _))).trans (List.perm_append_comm_assoc _ _ _)).trans ((List.Perm.append_left _ ((List.Perm.append_left _ (List.perm_append_comm)).trans (List.perm_append_comm_assoc _ _ _))).trans (List.perm_append_comm_assoc _ _ _))).trans (List.Perm.of_eq (by simp only [List.append_assoc])))
  obtain ⟨hP, hD⟩ := frameG p9 p8 hP hD hk1 hFc (fz_P ht hB9.1) hB9.2
  have hP : va_P (dC, dI) vwCl (WO hO aO kO hM hQ hw iO_answered iO_searched iO_searchedRelaxed iO_counted fO_countedCase gO_goalNumber gO_goalScale fO_start fO_column fO_chosen ++ (WM hM aM kM iM_stands iM_variables iM_rows iM_goals iM_differents iM_cases fM_from fM_to fM_whole fM_ways iM_plainRows fM_plainRow fM_kept fM_goalOver fM_goalUnder fM_goalMax fM_different ++ (WQ hQ aQ kQ hw fQ_inside fQ_outside fQ_shut iQ_rows iQ_allRows iQ_columns ++ (WW nW hw lw kw wl wb wG)))) H := hP
  have hD : va_D A (WO hO aO kO hM hQ hw iO_answered iO_searched iO_searchedRelaxed iO_counted fO_countedCase gO_goalNumber gO_goalScale fO_start fO_column fO_chosen ++ (WM hM aM kM iM_stands iM_variables iM_rows iM_goals iM_differents iM_cases fM_from fM_to fM_whole fM_ways iM_plainRows fM_plainRow fM_kept fM_goalOver fM_goalUnder fM_goalMax fM_different ++ (WQ hQ aQ kQ hw fQ_inside fQ_outside fQ_shut iQ_rows iQ_allRows iQ_columns ++ (WW nW hw lw kw wl wb wG)))) := hD
  refine lv_astore_n hx hb dX5_layGoal_9 rfl hl (by decide) rfl (fun ls (hl : lv_has ls _ ([(3, .ref (hw kR_1)), (0, .ref (hO 0)), (1, .int p1), (2, .int p2)])) => ?_)
  refine lv_iconst (v := 0) hx hb dX5_layGoal_10 (by decide) ?_
  refine lv_istore hx hb dX5_layGoal_11 hl (by decide) rfl (fun ls (hl : lv_has ls _ ([(4, .int 0), (3, .ref (hw kR_1)), (0, .ref (hO 0)), (1, .int p1), (2, .int p2)])) => ?_)
  have hl : lv_has _ _ ([(4, .int 0), (3, .ref (hw kR_1)), (0, .ref (hO 0)), (1, .int p1), (2, .int p2)]) := lv_sub hl [0, 1, 2, 3, 4] rfl
  refine (fun (loop : ∀ (n9 : Nat) (wl_x13 : Nat → Int32) (wb_x13 : Nat → Int32) (wG_x13 : Nat → Nat → Int64) (l4_x13 : Int32) (H : Heap) (locs : List Loc) (ls : Array Slot), (∀ q : Nat, 0 ≤ (wl_x13 q).toInt ∧ (wl_x13 q).toInt ≤ 14) → (∀ q : Nat, 0 ≤ (wb_x13 q).toInt ∧ (wb_x13 q).toInt ≤ 1) → (0 ≤ l4_x13.toInt ∧ l4_x13.toInt ≤ 8) → (8 - l4_x13.toInt < ((n9 : Nat) : Int)) → va_P (dC, dI) vwCl (WO hO aO kO hM hQ hw iO_answered iO_searched iO_searchedRelaxed iO_counted fO_countedCase gO_goalNumber gO_goalScale fO_start fO_column fO_chosen ++ (WM hM aM kM iM_stands iM_variables iM_rows iM_goals iM_differents iM_cases fM_from fM_to fM_whole fM_ways iM_plainRows fM_plainRow fM_kept fM_goalOver fM_goalUnder fM_goalMax fM_different ++ (WQ hQ aQ kQ hw fQ_inside fQ_outside fQ_shut iQ_rows iQ_allRows iQ_columns ++ (WW nW hw lw kw wl_x13 wb_x13 wG_x13)))) H → va_D A (WO hO aO kO hM hQ hw iO_answered iO_searched iO_searchedRelaxed iO_counted fO_countedCase gO_goalNumber gO_goalScale fO_start fO_column fO_chosen ++ (WM hM aM kM iM_stands iM_variables iM_rows iM_goals iM_differents iM_cases fM_from fM_to fM_whole fM_ways iM_plainRows fM_plainRow fM_kept fM_goalOver fM_goalUnder fM_goalMax fM_different ++ (WQ hQ aQ kQ hw fQ_inside fQ_outside fQ_shut iQ_rows iQ_allRows iQ_columns ++ (WW nW hw lw kw wl_x13 wb_x13 wG_x13)))) → va_S A s.heap H locs → lv_has ls 7 [(4, .int l4_x13), (3, .ref (hw kR_1)), (0, .ref (hO 0)), (1, .int p1), (2, .int p2)] → W p l e _ s m _ below meth c H locs 0 0 _ (F0 m 13 ls [])) => loop (9) wl wb wG 0 _ _ _ b_wl b_wb (show 0 ≤ (0 : Int32).toInt ∧ (0 : Int32).toInt ≤ 8 from by decide) ((by have e9 : (0 : Int32).toInt = 0 := (by decide : (0 : Int32).toInt = 0); omega)) hP hD hS hl) ?_
  intro n9
  induction n9 with
  | zero => intro wl_x13 wb_x13 wG_x13 l4_x13 H locs ls b_wl_x13 b_wb_x13 b_l4_x13 hf9; exact False.elim (by omega)
  | succ n9 ihx13 =>
    intro wl_x13 wb_x13 wG_x13 l4_x13 H locs ls b_wl_x13 b_wb_x13 b_l4_x13 hfx13 hP hD hS hl
    refine lv_iload hx hb dX5_layGoal_13 (lv_at hl 0 rfl) ?_
    refine lv_aload_n hx hb dX5_layGoal_15 rfl (lv_at hl 2 rfl) ?_
    refine va_get (D := (dC, dI)) (ci := 5) (v := .ref (hM 0)) (C := RX5) (T := TX5) (N := 19) hx hb hts iwsMX5_layGoal_in5 hown hK hP 0 rfl rfl 0 (by decide) (hts (.fieldLink RX5 74 "OptimaWorks$Solver" "model" "LOptimaWorks$Model;") (by decide +kernel)) (fun _ h9 => h9) rfl dX5_layGoal_16 ?_
    refine va_get (D := (dC, dI)) (ci := 1) (v := .int iM_variables) (C := RX1) (T := TX1) (N := 17) hx hb hts iwsMX5_layGoal_in1 hown hK hP 11 rfl rfl 1 (by decide) (hts (.fieldLink RX5 112 "OptimaWorks$Model" "variables" "I") (by decide +kernel)) (fun _ h9 => h9) rfl dX5_layGoal_19 ?_
    refine lv_icmp_ge (tgt := 101) hx hb dX5_layGoal_22 (by decide) (fun c_22 => ?_) (fun c_22 => ?_)
    · have t_22 : l4_x13.toInt ≥ iM_variables.toInt := toI_ge c_22 rfl rfl
      refine W.widen (k := 0) (n := 0) (by decide +kernel) (by decide +kernel) ?_
      exact W.vret hx hb hr (fun t9_ ht hW => ⟨⟨(wl_x13, wb_x13, wG_x13), rfl, ⟨b_wl_x13, b_wb_x13⟩, by rw [ht]; exact hP, hD⟩, hS.F ht⟩) hS.2.2 dX5_layGoal_101
    · have t_22 : ¬ l4_x13.toInt ≥ iM_variables.toInt := toI_nge c_22 rfl rfl
      refine lv_aload_n hx hb dX5_layGoal_25 rfl (lv_at hl 2 rfl) ?_
      refine lv_iload_n hx hb dX5_layGoal_26 rfl (lv_at hl 4 rfl) ?_
      refine lv_iload hx hb dX5_layGoal_27 (lv_at hl 0 rfl) ?_
      have hFc := allFree hD hS hA
      refine va_calll (va_runV (As := [.int p2, .int l4_x13]) (rest := []) ⟨hx, hb, hml, hown, hts⟩ (m_X5_scaledNumber l dC dI hO aO kO hM hQ hw iO_answered iO_searched iO_searchedRelaxed iO_counted fO_countedCase gO_goalNumber gO_goalScale fO_start fO_column fO_chosen aM kM iM_stands iM_variables iM_rows iM_goals iM_differents iM_cases fM_from fM_to fM_whole fM_ways iM_plainRows fM_plainRow fM_kept fM_goalOver fM_goalUnder fM_goalMax fM_different aQ kQ fQ_inside fQ_outside fQ_shut iQ_rows iQ_allRows iQ_columns nW lw kw wl_x13 wb_x13 wG_x13 p2 l4_x13 (b_iO_answered) (b_iO_searched) (b_iO_searchedRelaxed) (b_iO_counted) b_fO_countedCase b_fO_column b_fO_chosen (b_iM_stands) (b_iM_variables) (b_iM_rows) (b_iM_goals) (b_iM_differents) (b_iM_cases) b_fM_ways (b_iM_plainRows) b_fM_plainRow (by first | with_reducible assumption | omega | assumption) (b_iQ_rows) (b_iQ_allRows) (b_iQ_columns) (by first | with_reducible assumption | omega | assumption) b_wl_x13 b_wb_x13 (b_p2) (by first | exact b_l4_x13 | with_reducible assumption | exact ⟨by omega, by omega⟩ | assumption) (by omega) H.size) (cwV 2 hts gwsMX5_layGoal_1 rfl rfl rfl hd_yX5_scaledNumber_RX5 (by decide +kernel)) (fz_pre (va_recv hK hP (ci := 5) (q0 := 0) rfl rfl) hP hK hD) rfl rfl hl.1 rfl (lv_room (Nat.le_of_ble_eq_true rfl)) dX5_layGoal_29 (by decide +kernel)) hS (fun q _ h => hFc q h) hFc (fun r72 u t9_ H locs ht hvm hw9 hB9 hz1 hk1 hS => ?_)
      clear hw9
      have hP : va_P (dC, dI) vwCl (WO hO aO kO hM hQ hw iO_answered iO_searched iO_searchedRelaxed iO_counted fO_countedCase gO_goalNumber gO_goalScale fO_start fO_column fO_chosen ++ (WM hM aM kM iM_stands iM_variables iM_rows iM_goals iM_differents iM_cases fM_from fM_to fM_whole fM_ways iM_plainRows fM_plainRow fM_kept fM_goalOver fM_goalUnder fM_goalMax fM_different ++ (WQ hQ aQ kQ hw fQ_inside fQ_outside fQ_shut iQ_rows iQ_allRows iQ_columns ++ (WW nW hw lw kw wl_x13 wb_x13 wG_x13)))) H := fz_P ht hB9.1
      have hD : va_D A (WO hO aO kO hM hQ hw iO_answered iO_searched iO_searchedRelaxed iO_counted fO_countedCase gO_goalNumber gO_goalScale fO_start fO_column fO_chosen ++ (WM hM aM kM iM_stands iM_variables iM_rows iM_goals iM_differents iM_cases fM_from fM_to fM_whole fM_ways iM_plainRows fM_plainRow fM_kept fM_goalOver fM_goalUnder fM_goalMax fM_different ++ (WQ hQ aQ kQ hw fQ_inside fQ_outside fQ_shut iQ_rows iQ_allRows iQ_columns ++ (WW nW hw lw kw wl_x13 wb_x13 wG_x13)))) := hB9.2.weaken (fun _ q _ h => hFc q.1 h)
      refine lv_lstore hx hb dX5_layGoal_32 hl (by decide) rfl (fun ls (hl : lv_has ls _ ([(5, .long r72), (4, .int l4_x13), (3, .ref (hw kR_1)), (0, .ref (hO 0)), (1, .int p1), (2, .int p2)])) => ?_)
      refine lv_aload_n hx hb dX5_layGoal_34 rfl (lv_at hl 3 rfl) ?_
      refine va_get (D := (dC, dI)) (ci := 5) (v := .ref (aO 9)) (C := RX5) (T := TX5) (N := 19) hx hb hts iwsMX5_layGoal_in5 hown hK hP 0 rfl rfl 18 (by decide) (hts (.fieldLink RX5 71 "OptimaWorks$Solver" "spare" "[LOptimaWorks$Whole;") (by decide +kernel)) (fun _ h9 => h9) rfl dX5_layGoal_35 ?_
      refine lv_iconst (v := 1) hx hb dX5_layGoal_38 (by decide) ?_
      refine va_aldq (cA := kO 9) (n := 4) (f := fun q => some (hw (428 + q))) hx hb hK hP 10 9 rfl rfl (show ¬ ((1 : Int32) < 0 ∨ 4 ≤ (1 : Int32).toNatClampNeg) by decide) dX5_layGoal_39 ?_
      obtain ⟨k73, hk73, b_k73⟩ : ∃ k9 : Nat, k9 = 428 + (1 : Int32).toNatClampNeg ∧ (428 ≤ k9 ∧ k9 < 432 ∧ (k9 : Int) = 428 + 1) := ⟨_, rfl, ald_k (x := (1 : Int32)) (o := 428) (n := 4) (by decide : (1 : Int32).toInt = 1) (by omega) (by omega)⟩
      refine W.eq (g2 := F0 m 40 ls [.ref (hw k73)]) (by rw [hk73]; rfl) ?_
      clear hk73
      refine lv_aload_n hx hb dX5_layGoal_40 rfl (lv_at hl 3 rfl) ?_
      refine va_get (D := (dC, dI)) (ci := 5) (v := .ref (aO 3)) (C := RX5) (T := TX5) (N := 19) hx hb hts iwsMX5_layGoal_in5 hown hK hP 0 rfl rfl 9 (by decide) (hts (.fieldLink RX5 35 "OptimaWorks$Solver" "start" "[I") (by decide +kernel)) (fun _ h9 => h9) rfl dX5_layGoal_41 ?_
      refine lv_iload hx hb dX5_layGoal_44 (lv_at hl 1 rfl) ?_
      refine va_iald (cA := kO 3) (n := 8) (f := fO_start) hx hb hK hP 4 3 rfl rfl (vp_in_iff.mpr ⟨b_l4_x13.1, (Int.lt_of_lt_of_le (Int.not_le.mp t_22) (Int.le_trans b_iM_variables.2 (by decide)))⟩) dX5_layGoal_46 ?_
      refine lv_topi (fun v74 hv74 => ?_)
      clear hv74
      refine lv_i2l hx hb dX5_layGoal_47 rfl ?_
      refine lv_topl (fun v75 hv75 => ?_)
      clear hv75
      have p9 : List.Perm (WO hO aO kO hM hQ hw iO_answered iO_searched iO_searchedRelaxed iO_counted fO_countedCase gO_goalNumber gO_goalScale fO_start fO_column fO_chosen ++ (WM hM aM kM iM_stands iM_variables iM_rows iM_goals iM_differents iM_cases fM_from fM_to fM_whole fM_ways iM_plainRows fM_plainRow fM_kept fM_goalOver fM_goalUnder fM_goalMax fM_different ++ (WQ hQ aQ kQ hw fQ_inside fQ_outside fQ_shut iQ_rows iQ_allRows iQ_columns ++ (WW nW hw lw kw wl_x13 wb_x13 wG_x13)))) ((WW nW hw lw kw wl_x13 wb_x13 wG_x13) ++ (WO hO aO kO hM hQ hw iO_answered iO_searched iO_searchedRelaxed iO_counted fO_countedCase gO_goalNumber gO_goalScale fO_start fO_column fO_chosen ++ (WM hM aM kM iM_stands iM_variables iM_rows iM_goals iM_differents iM_cases fM_from fM_to fM_whole fM_ways iM_plainRows fM_plainRow fM_kept fM_goalOver fM_goalUnder fM_goalMax fM_different ++ (WQ hQ aQ kQ hw fQ_inside fQ_outside fQ_shut iQ_rows iQ_allRows iQ_columns)))) := ((List.Perm.append_left _ ((List.Perm.append_left _ (List.perm_append_comm)).trans (List.perm_append_comm_assoc _ _ _))).trans (List.perm_append_comm_assoc _ _ _))
      have hPc := hP.mem (fun q h => p9.mem_iff.mpr (List.mem_append_left _ h))
      have hDc := (hD.perm p9).left
      have hKc : va_K (dC, dI) vwCl (tW kw) _ := hK.sub [24] rfl
      have hFc := freeG p9 hD hS hA
      refine va_callv (va_runV (As := [.long v75]) (rest := []) ⟨hx, hb, hml, hown, hts⟩ (m_X8_setLong l dC dI nW hw lw kw wl_x13 wb_x13 wG_x13 k73 v75 b_wl_x13 b_wb_x13 (by first | with_reducible assumption | omega | (rw [iI_t (by omega) (by omega)]; omega) | decide | assumption) H.size) (cwV 1 hts gwsMX5_layGoal_2 rfl rfl rfl hd_yX8_setLong_RX8 (by decide +kernel)) (fz_pre (va_recv hK hP (ci := 8) (q0 := 11 + (11 + (5 + (k73)))) rfl (apR rfl (apR rfl (apR rfl (WW_o (by omega)))))) hPc hKc hDc) rfl rfl hl.1 rfl (lv_room (Nat.le_of_ble_eq_true rfl)) dX5_layGoal_48 (by decide +kernel)) hS (fun q _ h => hFc q h) hFc (fun u t9_ H locs ht hvm hw9 hB9 hz1 hk1 hS => ?_)
      revert u hw9 hB9
      refine fz_p3 ?_
      intro wl_76 wb_76 wG_76 hw9 hB9
      try dsimp only at hw9 hB9
      revert hw9
      refine fz_a2 ?_
      intro b_wl_76 b_wb_76
      have p8 : List.Perm (WO hO aO kO hM hQ hw iO_answered iO_searched iO_searchedRelaxed iO_counted fO_countedCase gO_goalNumber gO_goalScale fO_start fO_column fO_chosen ++ (WM hM aM kM iM_stands iM_variables iM_rows iM_goals iM_differents iM_cases fM_from fM_to fM_whole fM_ways iM_plainRows fM_plainRow fM_kept fM_goalOver fM_goalUnder fM_goalMax fM_different ++ (WQ hQ aQ kQ hw fQ_inside fQ_outside fQ_shut iQ_rows iQ_allRows iQ_columns ++ (WW nW hw lw kw wl_76 wb_76 wG_76)))) ((WW nW hw lw kw wl_76 wb_76 wG_76) ++ (WO hO aO kO hM hQ hw iO_answered iO_searched iO_searchedRelaxed iO_counted fO_countedCase gO_goalNumber gO_goalScale fO_start fO_column fO_chosen ++ (WM hM aM kM iM_stands iM_variables iM_rows iM_goals iM_differents iM_cases fM_from fM_to fM_whole fM_ways iM_plainRows fM_plainRow fM_kept fM_goalOver fM_goalUnder fM_goalMax fM_different ++ (WQ hQ aQ kQ hw fQ_inside fQ_outside fQ_shut iQ_rows iQ_allRows iQ_columns)))) := ((List.Perm.append_left _ ((List.Perm.append_left _ (List.perm_append_comm)).trans (List.perm_append_comm_assoc _ _ _))).trans (List.perm_append_comm_assoc _ _ _))
      obtain ⟨hP, hD⟩ := frameG p9 p8 hP hD hk1 hFc (fz_P ht hB9.1) hB9.2
      have hP : va_P (dC, dI) vwCl (WO hO aO kO hM hQ hw iO_answered iO_searched iO_searchedRelaxed iO_counted fO_countedCase gO_goalNumber gO_goalScale fO_start fO_column fO_chosen ++ (WM hM aM kM iM_stands iM_variables iM_rows iM_goals iM_differents iM_cases fM_from fM_to fM_whole fM_ways iM_plainRows fM_plainRow fM_kept fM_goalOver fM_goalUnder fM_goalMax fM_different ++ (WQ hQ aQ kQ hw fQ_inside fQ_outside fQ_shut iQ_rows iQ_allRows iQ_columns ++ (WW nW hw lw kw wl_76 wb_76 wG_76)))) H := hP
      have hD : va_D A (WO hO aO kO hM hQ hw iO_answered iO_searched iO_searchedRelaxed iO_counted fO_countedCase gO_goalNumber gO_goalScale fO_start fO_column fO_chosen ++ (WM hM aM kM iM_stands iM_variables iM_rows iM_goals iM_differents iM_cases fM_from fM_to fM_whole fM_ways iM_plainRows fM_plainRow fM_kept fM_goalOver fM_goalUnder fM_goalMax fM_different ++ (WQ hQ aQ kQ hw fQ_inside fQ_outside fQ_shut iQ_rows iQ_allRows iQ_columns ++ (WW nW hw lw kw wl_76 wb_76 wG_76)))) := hD
      refine lv_aload_n hx hb dX5_layGoal_51 rfl (lv_at hl 3 rfl) ?_
      refine lv_aload_n hx hb dX5_layGoal_52 rfl (lv_at hl 2 rfl) ?_
      refine lv_aload_n hx hb dX5_layGoal_53 rfl (lv_at hl 3 rfl) ?_
      refine va_get (D := (dC, dI)) (ci := 5) (v := .ref (aO 9)) (C := RX5) (T := TX5) (N := 19) hx hb hts iwsMX5_layGoal_in5 hown hK hP 0 rfl rfl 18 (by decide) (hts (.fieldLink RX5 71 "OptimaWorks$Solver" "spare" "[LOptimaWorks$Whole;") (by decide +kernel)) (fun _ h9 => h9) rfl dX5_layGoal_54 ?_
      refine lv_iconst (v := 1) hx hb dX5_layGoal_57 (by decide) ?_
      refine va_aldq (cA := kO 9) (n := 4) (f := fun q => some (hw (428 + q))) hx hb hK hP 10 9 rfl rfl (show ¬ ((1 : Int32) < 0 ∨ 4 ≤ (1 : Int32).toNatClampNeg) by decide) dX5_layGoal_58 ?_
      obtain ⟨k77, hk77, b_k77⟩ : ∃ k9 : Nat, k9 = 428 + (1 : Int32).toNatClampNeg ∧ (428 ≤ k9 ∧ k9 < 432 ∧ (k9 : Int) = 428 + 1) := ⟨_, rfl, ald_k (x := (1 : Int32)) (o := 428) (n := 4) (by decide : (1 : Int32).toInt = 1) (by omega) (by omega)⟩
      refine W.eq (g2 := F0 m 59 ls [.ref (hw k77), .ref (hw kR_1), .ref (hO 0)]) (by rw [hk77]; rfl) ?_
      clear hk77
      refine lv_lload hx hb dX5_layGoal_59 (lv_at hl 0 rfl) ?_
      have hFc := allFree hD hS hA
      refine va_callv (va_runV (As := [.ref (hw kR_1), .ref (hw k77), .long r72]) (rest := []) ⟨hx, hb, hml, hown, hts⟩ (m_X5_addTimes l dC dI hO aO kO hM hQ hw iO_answered iO_searched iO_searchedRelaxed iO_counted fO_countedCase gO_goalNumber gO_goalScale fO_start fO_column fO_chosen aM kM iM_stands iM_variables iM_rows iM_goals iM_differents iM_cases fM_from fM_to fM_whole fM_ways iM_plainRows fM_plainRow fM_kept fM_goalOver fM_goalUnder fM_goalMax fM_different aQ kQ fQ_inside fQ_outside fQ_shut iQ_rows iQ_allRows iQ_columns nW lw kw wl_76 wb_76 wG_76 kR_1 k77 r72 (b_iO_answered) (b_iO_searched) (b_iO_searchedRelaxed) (b_iO_counted) b_fO_countedCase b_fO_column b_fO_chosen (b_iM_stands) (b_iM_variables) (b_iM_rows) (b_iM_goals) (b_iM_differents) (b_iM_cases) b_fM_ways (b_iM_plainRows) b_fM_plainRow (by first | with_reducible assumption | omega | assumption) (b_iQ_rows) (b_iQ_allRows) (b_iQ_columns) (by first | with_reducible assumption | omega | assumption) b_wl_76 b_wb_76 (by omega) (by first | with_reducible assumption | omega | (rw [iI_t (by omega) (by omega)]; omega) | decide | assumption) (by first | with_reducible assumption | omega | (rw [iI_t (by omega) (by omega)]; omega) | decide | assumption) H.size) (cwV 3 hts gwsMX5_layGoal_3 rfl rfl rfl hd_yX5_addTimes_RX5 (by decide +kernel)) (fz_pre (va_recv hK hP (ci := 5) (q0 := 0) rfl rfl) hP hK hD) rfl rfl hl.1 rfl (lv_room (Nat.le_of_ble_eq_true rfl)) dX5_layGoal_61 (by decide +kernel)) hS (fun q _ h => hFc q h) hFc (fun u t9_ H locs ht hvm hw9 hB9 hz1 hk1 hS => ?_)
      revert u hw9 hB9
      refine fz_p3 ?_
      intro wl_78 wb_78 wG_78 hw9 hB9
      try dsimp only at hw9 hB9
      revert hw9
      refine fz_a2 ?_
      intro b_wl_78 b_wb_78
      have hP : va_P (dC, dI) vwCl (WO hO aO kO hM hQ hw iO_answered iO_searched iO_searchedRelaxed iO_counted fO_countedCase gO_goalNumber gO_goalScale fO_start fO_column fO_chosen ++ (WM hM aM kM iM_stands iM_variables iM_rows iM_goals iM_differents iM_cases fM_from fM_to fM_whole fM_ways iM_plainRows fM_plainRow fM_kept fM_goalOver fM_goalUnder fM_goalMax fM_different ++ (WQ hQ aQ kQ hw fQ_inside fQ_outside fQ_shut iQ_rows iQ_allRows iQ_columns ++ (WW nW hw lw kw wl_78 wb_78 wG_78)))) H := fz_P ht hB9.1
      have hD : va_D A (WO hO aO kO hM hQ hw iO_answered iO_searched iO_searchedRelaxed iO_counted fO_countedCase gO_goalNumber gO_goalScale fO_start fO_column fO_chosen ++ (WM hM aM kM iM_stands iM_variables iM_rows iM_goals iM_differents iM_cases fM_from fM_to fM_whole fM_ways iM_plainRows fM_plainRow fM_kept fM_goalOver fM_goalUnder fM_goalMax fM_different ++ (WQ hQ aQ kQ hw fQ_inside fQ_outside fQ_shut iQ_rows iQ_allRows iQ_columns ++ (WW nW hw lw kw wl_78 wb_78 wG_78)))) := hB9.2.weaken (fun _ q _ h => hFc q.1 h)
      refine lv_aload_n hx hb dX5_layGoal_64 rfl (lv_at hl 3 rfl) ?_
      refine va_get (D := (dC, dI)) (ci := 5) (v := .ref (aO 4)) (C := RX5) (T := TX5) (N := 19) hx hb hts iwsMX5_layGoal_in5 hown hK hP 0 rfl rfl 10 (by decide) (hts (.fieldLink RX5 38 "OptimaWorks$Solver" "column" "[I") (by decide +kernel)) (fun _ h9 => h9) rfl dX5_layGoal_65 ?_
      refine lv_iload hx hb dX5_layGoal_68 (lv_at hl 1 rfl) ?_
      refine va_iald (cA := kO 4) (n := 8) (f := fO_column) hx hb hK hP 5 4 rfl rfl (vp_in_iff.mpr ⟨b_l4_x13.1, (Int.lt_of_lt_of_le (Int.not_le.mp t_22) (Int.le_trans b_iM_variables.2 (by decide)))⟩) dX5_layGoal_70 ?_
      refine lv_topi (fun v79 hv79 => ?_)
      have b_v79 : (-1) ≤ v79.toInt ∧ v79.toInt ≤ 8 := by rw [hv79]; exact b_fO_column _
      have b1_v79 : v79 = fO_column (l4_x13).toNatClampNeg := hv79
      clear hv79
      refine lv_iconst (v := (-1)) hx hb dX5_layGoal_71 (by decide) ?_
      refine W.cut (pc := 95) (fun H locs ls stk => ∃ (wl_j12 : Nat → Int32) (wb_j12 : Nat → Int32) (wG_j12 : Nat → Nat → Int64), (∀ q : Nat, 0 ≤ (wl_j12 q).toInt ∧ (wl_j12 q).toInt ≤ 14) ∧ (∀ q : Nat, 0 ≤ (wb_j12 q).toInt ∧ (wb_j12 q).toInt ≤ 1) ∧  stk = [] ∧ va_P (dC, dI) vwCl (WO hO aO kO hM hQ hw iO_answered iO_searched iO_searchedRelaxed iO_counted fO_countedCase gO_goalNumber gO_goalScale fO_start fO_column fO_chosen ++ (WM hM aM kM iM_stands iM_variables iM_rows iM_goals iM_differents iM_cases fM_from fM_to fM_whole fM_ways iM_plainRows fM_plainRow fM_kept fM_goalOver fM_goalUnder fM_goalMax fM_different ++ (WQ hQ aQ kQ hw fQ_inside fQ_outside fQ_shut iQ_rows iQ_allRows iQ_columns ++ (WW nW hw lw kw wl_j12 wb_j12 wG_j12)))) H ∧ va_D A (WO hO aO kO hM hQ hw iO_answered iO_searched iO_searchedRelaxed iO_counted fO_countedCase gO_goalNumber gO_goalScale fO_start fO_column fO_chosen ++ (WM hM aM kM iM_stands iM_variables iM_rows iM_goals iM_differents iM_cases fM_from fM_to fM_whole fM_ways iM_plainRows fM_plainRow fM_kept fM_goalOver fM_goalUnder fM_goalMax fM_different ++ (WQ hQ aQ kQ hw fQ_inside fQ_outside fQ_shut iQ_rows iQ_allRows iQ_columns ++ (WW nW hw lw kw wl_j12 wb_j12 wG_j12)))) ∧ va_S A s.heap H locs ∧ lv_has ls 7 [(5, .long r72), (4, .int l4_x13), (3, .ref (hw kR_1)), (0, .ref (hO 0)), (1, .int p1), (2, .int p2)]) (fun join12 => ?_) ?_
      · refine lv_icmp_eq (tgt := 95) hx hb dX5_layGoal_72 (by decide) (fun c_72 => ?_) (fun c_72 => ?_)
        · have t_72 : v79.toInt = (-1) := toI_eq c_72 rfl (by decide : ((-1) : Int32).toInt = (-1))
          have hl : lv_has _ _ ([(5, .long r72), (4, .int l4_x13), (3, .ref (hw kR_1)), (0, .ref (hO 0)), (1, .int p1), (2, .int p2)]) := lv_sub hl [0, 1, 2, 3, 4, 5] rfl
          exact join12 _ _ _ _ ⟨wl_78, wb_78, wG_78, b_wl_78, b_wb_78, rfl, hP, hD, hS, hl⟩
        · have t_72 : ¬ v79.toInt = (-1) := toI_neq c_72 rfl (by decide : ((-1) : Int32).toInt = (-1))
          refine lv_aload_n hx hb dX5_layGoal_75 rfl (lv_at hl 3 rfl) ?_
          refine va_get (D := (dC, dI)) (ci := 5) (v := .ref (hQ 0)) (C := RX5) (T := TX5) (N := 19) hx hb hts iwsMX5_layGoal_in5 hown hK hP 0 rfl rfl 1 (by decide) (hts (.fieldLink RX5 12 "OptimaWorks$Solver" "tableau" "LOptimaWorks$Tableau;") (by decide +kernel)) (fun _ h9 => h9) rfl dX5_layGoal_76 ?_
          refine lv_iload_n hx hb dX5_layGoal_79 rfl (lv_at hl 4 rfl) ?_
          refine lv_aload_n hx hb dX5_layGoal_80 rfl (lv_at hl 3 rfl) ?_
          refine va_get (D := (dC, dI)) (ci := 5) (v := .ref (aO 4)) (C := RX5) (T := TX5) (N := 19) hx hb hts iwsMX5_layGoal_in5 hown hK hP 0 rfl rfl 10 (by decide) (hts (.fieldLink RX5 38 "OptimaWorks$Solver" "column" "[I") (by decide +kernel)) (fun _ h9 => h9) rfl dX5_layGoal_81 ?_
          refine lv_iload hx hb dX5_layGoal_84 (lv_at hl 1 rfl) ?_
          refine va_iald (cA := kO 4) (n := 8) (f := fO_column) hx hb hK hP 5 4 rfl rfl (vp_in_iff.mpr ⟨b_l4_x13.1, (by omega)⟩) dX5_layGoal_86 ?_
          refine lv_topi (fun v83 hv83 => ?_)
          have b_v83 : (-1) ≤ v83.toInt ∧ v83.toInt ≤ 8 := by rw [hv83]; exact b_fO_column _
          have b1_v83 : v83 = fO_column (l4_x13).toNatClampNeg := hv83
          have b2_v83 : v83.toInt = v79.toInt := by rw [hv83]; exact (congrArg Int32.toInt b1_v79).symm
          clear hv83
          have p9 : List.Perm (WO hO aO kO hM hQ hw iO_answered iO_searched iO_searchedRelaxed iO_counted fO_countedCase gO_goalNumber gO_goalScale fO_start fO_column fO_chosen ++ (WM hM aM kM iM_stands iM_variables iM_rows iM_goals iM_differents iM_cases fM_from fM_to fM_whole fM_ways iM_plainRows fM_plainRow fM_kept fM_goalOver fM_goalUnder fM_goalMax fM_different ++ (WQ hQ aQ kQ hw fQ_inside fQ_outside fQ_shut iQ_rows iQ_allRows iQ_columns ++ (WW nW hw lw kw wl_78 wb_78 wG_78)))) ((WQ hQ aQ kQ hw fQ_inside fQ_outside fQ_shut iQ_rows iQ_allRows iQ_columns ++ (WW nW hw lw kw wl_78 wb_78 wG_78)) ++ (WO hO aO kO hM hQ hw iO_answered iO_searched iO_searchedRelaxed iO_counted fO_countedCase gO_goalNumber gO_goalScale fO_start fO_column fO_chosen ++ (WM hM aM kM iM_stands iM_variables iM_rows iM_goals iM_differents iM_cases fM_from fM_to fM_whole fM_ways iM_plainRows fM_plainRow fM_kept fM_goalOver fM_goalUnder fM_goalMax fM_different))) := ((((List.Perm.append_left _ ((List.Perm.append_left _ (List.perm_append_comm)).trans (List.perm_append_comm_assoc _ _ _))).trans (List.perm_append_comm_assoc _ _ _)).trans ((List.Perm.append_left _ ((List.Perm.append_left _ (List.perm_append_comm)).trans (List.perm_append_comm_assoc _ _ _))).trans (List.perm_append_comm_assoc _ _ _))).trans (List.Perm.of_eq (by simp only [List.append_assoc])))
          have hPc := hP.mem (fun q h => p9.mem_iff.mpr (List.mem_append_left _ h))
          have hDc := (hD.perm p9).left
          have hKc : va_K (dC, dI) vwCl (tQ kQ ++ (tW kw)) _ := hK.sub [20, 21, 22, 23, 24] rfl
          have hFc := freeG p9 hD hS hA
          refine va_callr (va_runV (As := [.int p1, .int v83]) (rest := []) ⟨hx, hb, hml, hown, hts⟩ (m_X6_cellAt l dC dI hQ aQ kQ hw fQ_inside fQ_outside fQ_shut iQ_rows iQ_allRows iQ_columns nW lw kw wl_78 wb_78 wG_78 p1 v83 (b_iQ_rows) (b_iQ_allRows) (b_iQ_columns) (by first | with_reducible assumption | omega | assumption) b_wl_78 b_wb_78 (b_p1) (by first | exact b_v83 | with_reducible assumption | exact ⟨by omega, by omega⟩ | assumption) (by omega) ((by have h9 := ix_small (i := p1.toInt) (j := v83.toInt) (c := iQ_columns.toInt) (by omega) (by omega) (by omega) (by omega) (by omega) (by omega); exact h9)) H.size) (cwV 2 hts gwsMX5_layGoal_0 rfl rfl rfl hd_yX6_cellAt_RX6 (by decide +kernel)) (fz_pre (va_recv hK hP (ci := 6) (q0 := 22) rfl rfl) hPc hKc hDc) rfl rfl hl.1 rfl (lv_room (Nat.le_of_ble_eq_true rfl)) dX5_layGoal_87 (by decide +kernel)) hS (fun q _ h => hFc q h) hFc (fun kR_84 ra84 t9_ H locs ht hvm hw9 hB9 hz1 hk1 hS => ?_)
          revert hB9
          refine fz_a2 ?_
          intro hra hB9
          subst hra
          have f84_0 := hw9
          try dsimp only at f84_0
          have p8 : List.Perm (WO hO aO kO hM hQ hw iO_answered iO_searched iO_searchedRelaxed iO_counted fO_countedCase gO_goalNumber gO_goalScale fO_start fO_column fO_chosen ++ (WM hM aM kM iM_stands iM_variables iM_rows iM_goals iM_differents iM_cases fM_from fM_to fM_whole fM_ways iM_plainRows fM_plainRow fM_kept fM_goalOver fM_goalUnder fM_goalMax fM_different ++ (WQ hQ aQ kQ hw fQ_inside fQ_outside fQ_shut iQ_rows iQ_allRows iQ_columns ++ (WW nW hw lw kw wl_78 wb_78 wG_78)))) ((WQ hQ aQ kQ hw fQ_inside fQ_outside fQ_shut iQ_rows iQ_allRows iQ_columns ++ (WW nW hw lw kw wl_78 wb_78 wG_78)) ++ (WO hO aO kO hM hQ hw iO_answered iO_searched iO_searchedRelaxed iO_counted fO_countedCase gO_goalNumber gO_goalScale fO_start fO_column fO_chosen ++ (WM hM aM kM iM_stands iM_variables iM_rows iM_goals iM_differents iM_cases fM_from fM_to fM_whole fM_ways iM_plainRows fM_plainRow fM_kept fM_goalOver fM_goalUnder fM_goalMax fM_different))) := ((((List.Perm.append_left _ ((List.Perm.append_left _ (List.perm_append_comm)).trans (List.perm_append_comm_assoc _ _ _))).trans (List.perm_append_comm_assoc _ _ _)).trans ((List.Perm.append_left _ ((List.Perm.append_left _ (List.perm_append_comm)).trans (List.perm_append_comm_assoc _ _ _))).trans (List.perm_append_comm_assoc _ _ _))).trans (List.Perm.of_eq (by simp only [List.append_assoc])))
          obtain ⟨hP, hD⟩ := frameG p9 p8 hP hD hk1 hFc (fz_P ht hB9.1) hB9.2
          have hP : va_P (dC, dI) vwCl (WO hO aO kO hM hQ hw iO_answered iO_searched iO_searchedRelaxed iO_counted fO_countedCase gO_goalNumber gO_goalScale fO_start fO_column fO_chosen ++ (WM hM aM kM iM_stands iM_variables iM_rows iM_goals iM_differents iM_cases fM_from fM_to fM_whole fM_ways iM_plainRows fM_plainRow fM_kept fM_goalOver fM_goalUnder fM_goalMax fM_different ++ (WQ hQ aQ kQ hw fQ_inside fQ_outside fQ_shut iQ_rows iQ_allRows iQ_columns ++ (WW nW hw lw kw wl_78 wb_78 wG_78)))) H := hP
          have hD : va_D A (WO hO aO kO hM hQ hw iO_answered iO_searched iO_searchedRelaxed iO_counted fO_countedCase gO_goalNumber gO_goalScale fO_start fO_column fO_chosen ++ (WM hM aM kM iM_stands iM_variables iM_rows iM_goals iM_differents iM_cases fM_from fM_to fM_whole fM_ways iM_plainRows fM_plainRow fM_kept fM_goalOver fM_goalUnder fM_goalMax fM_different ++ (WQ hQ aQ kQ hw fQ_inside fQ_outside fQ_shut iQ_rows iQ_allRows iQ_columns ++ (WW nW hw lw kw wl_78 wb_78 wG_78)))) := hD
          refine lv_lload hx hb dX5_layGoal_90 (lv_at hl 0 rfl) ?_
          have p9 : List.Perm (WO hO aO kO hM hQ hw iO_answered iO_searched iO_searchedRelaxed iO_counted fO_countedCase gO_goalNumber gO_goalScale fO_start fO_column fO_chosen ++ (WM hM aM kM iM_stands iM_variables iM_rows iM_goals iM_differents iM_cases fM_from fM_to fM_whole fM_ways iM_plainRows fM_plainRow fM_kept fM_goalOver fM_goalUnder fM_goalMax fM_different ++ (WQ hQ aQ kQ hw fQ_inside fQ_outside fQ_shut iQ_rows iQ_allRows iQ_columns ++ (WW nW hw lw kw wl_78 wb_78 wG_78)))) ((WW nW hw lw kw wl_78 wb_78 wG_78) ++ (WO hO aO kO hM hQ hw iO_answered iO_searched iO_searchedRelaxed iO_counted fO_countedCase gO_goalNumber gO_goalScale fO_start fO_column fO_chosen ++ (WM hM aM kM iM_stands iM_variables iM_rows iM_goals iM_differents iM_cases fM_from fM_to fM_whole fM_ways iM_plainRows fM_plainRow fM_kept fM_goalOver fM_goalUnder fM_goalMax fM_different ++ (WQ hQ aQ kQ hw fQ_inside fQ_outside fQ_shut iQ_rows iQ_allRows iQ_columns)))) := ((List.Perm.append_left _ ((List.Perm.append_left _ (List.perm_append_comm)).trans (List.perm_append_comm_assoc _ _ _))).trans (List.perm_append_comm_assoc _ _ _))
          have hPc := hP.mem (fun q h => p9.mem_iff.mpr (List.mem_append_left _ h))
          have hDc := (hD.perm p9).left
          have hKc : va_K (dC, dI) vwCl (tW kw) _ := hK.sub [24] rfl
          have hFc := freeG p9 hD hS hA
          refine va_callv (va_runV (As := [.long r72]) (rest := []) ⟨hx, hb, hml, hown, hts⟩ (m_X8_setLong l dC dI nW hw lw kw wl_78 wb_78 wG_78 kR_84 r72 b_wl_78 b_wb_78 (by first | with_reducible assumption | omega | (rw [iI_t (by omega) (by omega)]; omega) | decide | assumption) H.size) (cwV 1 hts gwsMX5_layGoal_2 rfl rfl rfl hd_yX8_setLong_RX8 (by decide +kernel)) (fz_pre (va_recv hK hP (ci := 8) (q0 := 11 + (11 + (5 + (kR_84)))) rfl (apR rfl (apR rfl (apR rfl (WW_o (by omega)))))) hPc hKc hDc) rfl rfl hl.1 rfl (lv_room (Nat.le_of_ble_eq_true rfl)) dX5_layGoal_92 (by decide +kernel)) hS (fun q _ h => hFc q h) hFc (fun u t9_ H locs ht hvm hw9 hB9 hz1 hk1 hS => ?_)
          revert u hw9 hB9
          refine fz_p3 ?_
          intro wl_85 wb_85 wG_85 hw9 hB9
          try dsimp only at hw9 hB9
          revert hw9
          refine fz_a2 ?_
          intro b_wl_85 b_wb_85
          have p8 : List.Perm (WO hO aO kO hM hQ hw iO_answered iO_searched iO_searchedRelaxed iO_counted fO_countedCase gO_goalNumber gO_goalScale fO_start fO_column fO_chosen ++ (WM hM aM kM iM_stands iM_variables iM_rows iM_goals iM_differents iM_cases fM_from fM_to fM_whole fM_ways iM_plainRows fM_plainRow fM_kept fM_goalOver fM_goalUnder fM_goalMax fM_different ++ (WQ hQ aQ kQ hw fQ_inside fQ_outside fQ_shut iQ_rows iQ_allRows iQ_columns ++ (WW nW hw lw kw wl_85 wb_85 wG_85)))) ((WW nW hw lw kw wl_85 wb_85 wG_85) ++ (WO hO aO kO hM hQ hw iO_answered iO_searched iO_searchedRelaxed iO_counted fO_countedCase gO_goalNumber gO_goalScale fO_start fO_column fO_chosen ++ (WM hM aM kM iM_stands iM_variables iM_rows iM_goals iM_differents iM_cases fM_from fM_to fM_whole fM_ways iM_plainRows fM_plainRow fM_kept fM_goalOver fM_goalUnder fM_goalMax fM_different ++ (WQ hQ aQ kQ hw fQ_inside fQ_outside fQ_shut iQ_rows iQ_allRows iQ_columns)))) := ((List.Perm.append_left _ ((List.Perm.append_left _ (List.perm_append_comm)).trans (List.perm_append_comm_assoc _ _ _))).trans (List.perm_append_comm_assoc _ _ _))
          obtain ⟨hP, hD⟩ := frameG p9 p8 hP hD hk1 hFc (fz_P ht hB9.1) hB9.2
          have hP : va_P (dC, dI) vwCl (WO hO aO kO hM hQ hw iO_answered iO_searched iO_searchedRelaxed iO_counted fO_countedCase gO_goalNumber gO_goalScale fO_start fO_column fO_chosen ++ (WM hM aM kM iM_stands iM_variables iM_rows iM_goals iM_differents iM_cases fM_from fM_to fM_whole fM_ways iM_plainRows fM_plainRow fM_kept fM_goalOver fM_goalUnder fM_goalMax fM_different ++ (WQ hQ aQ kQ hw fQ_inside fQ_outside fQ_shut iQ_rows iQ_allRows iQ_columns ++ (WW nW hw lw kw wl_85 wb_85 wG_85)))) H := hP
          have hD : va_D A (WO hO aO kO hM hQ hw iO_answered iO_searched iO_searchedRelaxed iO_counted fO_countedCase gO_goalNumber gO_goalScale fO_start fO_column fO_chosen ++ (WM hM aM kM iM_stands iM_variables iM_rows iM_goals iM_differents iM_cases fM_from fM_to fM_whole fM_ways iM_plainRows fM_plainRow fM_kept fM_goalOver fM_goalUnder fM_goalMax fM_different ++ (WQ hQ aQ kQ hw fQ_inside fQ_outside fQ_shut iQ_rows iQ_allRows iQ_columns ++ (WW nW hw lw kw wl_85 wb_85 wG_85)))) := hD
          have hl : lv_has _ _ ([(5, .long r72), (4, .int l4_x13), (3, .ref (hw kR_1)), (0, .ref (hO 0)), (1, .int p1), (2, .int p2)]) := lv_sub hl [0, 1, 2, 3, 4, 5] rfl
          exact join12 _ _ _ _ ⟨wl_85, wb_85, wG_85, b_wl_85, b_wb_85, rfl, hP, hD, hS, hl⟩
      · rintro H locs ls stk ⟨wl_j12, wb_j12, wG_j12, b_wl_j12, b_wb_j12, rfl, hP, hD, hS, hl⟩
        refine lv_iinc (v := (iI (l4_x13.toInt + 1))) hx hb dX5_layGoal_95 hl (k := 1) rfl (iI_add2 (iI_of _) (by decide : (1 : Int32) = iI 1)) (by decide) rfl (fun ls (hl : lv_has ls _ ([(4, .int (iI (l4_x13.toInt + 1))), (5, .long r72), (3, .ref (hw kR_1)), (0, .ref (hO 0)), (1, .int p1), (2, .int p2)])) => ?_)
        refine lv_goto (tgt := 13) hx hb dX5_layGoal_98 (by decide) ?_
        have hl : lv_has _ _ ([(4, .int (iI (l4_x13.toInt + 1))), (3, .ref (hw kR_1)), (0, .ref (hO 0)), (1, .int p1), (2, .int p2)]) := lv_sub hl [0, 2, 3, 4, 5] rfl
        exact ihx13 wl_j12 wb_j12 wG_j12 (iI (l4_x13.toInt + 1)) _ _ _ b_wl_j12 b_wb_j12 (iI_rng (Int.le_trans (by decide) (Int.add_le_add (b_l4_x13.1) (Int.le_refl _))) (by omega) (by decide) (by decide)) (by have e9 : ((iI (l4_x13.toInt + 1))).toInt = (l4_x13.toInt + 1) := (iI_t (Int.le_trans (by decide) (Int.add_le_add (b_l4_x13.1) (Int.le_refl _))) (Int.le_trans (Int.add_le_add (b_l4_x13.2) (Int.le_refl _)) (by decide))); omega) hP hD hS hl
end
section
theorem hd_yX6_begin_RX6 : yX6_begin.cls = RX6 ∧ yX6_begin.cls ≠ "java/lang/invoke/MethodHandle" ∧ yX6_begin.cls ≠ "java/lang/invoke/VarHandle" ∧ (parseMethodDescriptor yX6_begin.desc).map (fun d => d.parameters.length) = some 3 := by decide +kernel
theorem hd_yX5_layGoal_RX5 : yX5_layGoal.cls = RX5 ∧ yX5_layGoal.cls ≠ "java/lang/invoke/MethodHandle" ∧ yX5_layGoal.cls ≠ "java/lang/invoke/VarHandle" ∧ (parseMethodDescriptor yX5_layGoal.desc).map (fun d => d.parameters.length) = some 2 := by decide +kernel
theorem hd_yX5_layWay_RX5 : yX5_layWay.cls = RX5 ∧ yX5_layWay.cls ≠ "java/lang/invoke/MethodHandle" ∧ yX5_layWay.cls ≠ "java/lang/invoke/VarHandle" ∧ (parseMethodDescriptor yX5_layWay.desc).map (fun d => d.parameters.length) = some 3 := by decide +kernel
theorem dX5_lay_0 : decode cX5_lay 0 = .ok (.iconst 0, 1) := dk_3 (by decide +kernel)
theorem dX5_lay_1 : decode cX5_lay 1 = .ok (.istore_n 3, 1) := dk_62 (by decide +kernel)
theorem dX5_lay_2 : decode cX5_lay 2 = .ok (.iconst 0, 1) := dk_3 (by decide +kernel)
theorem dX5_lay_3 : decode cX5_lay 3 = .ok (.istore 4, 2) := dk_54 (by decide +kernel)
theorem dX5_lay_5 : decode cX5_lay 5 = .ok (.iload 4, 2) := dk_21 (by decide +kernel)
theorem dX5_lay_7 : decode cX5_lay 7 = .ok (.aload_n 0, 1) := dk_42 (by decide +kernel)
theorem dX5_lay_8 : decode cX5_lay 8 = .ok (.getfield 74, 3) := dk_180 (by decide +kernel)
theorem dX5_lay_11 : decode cX5_lay 11 = .ok (.getfield 112, 3) := dk_180 (by decide +kernel)
theorem dX5_lay_14 : decode cX5_lay 14 = .ok (.if_icmp .ge 74, 3) := dk_162 (by decide +kernel)
theorem dX5_lay_17 : decode cX5_lay 17 = .ok (.iload_n 1, 1) := dk_27 (by decide +kernel)
theorem dX5_lay_18 : decode cX5_lay 18 = .ok (.ifCond .ne 16, 3) := dk_154 (by decide +kernel)
theorem dX5_lay_21 : decode cX5_lay 21 = .ok (.aload_n 0, 1) := dk_42 (by decide +kernel)
theorem dX5_lay_22 : decode cX5_lay 22 = .ok (.getfield 74, 3) := dk_180 (by decide +kernel)
theorem dX5_lay_25 : decode cX5_lay 25 = .ok (.getfield 143, 3) := dk_180 (by decide +kernel)
theorem dX5_lay_28 : decode cX5_lay 28 = .ok (.iload 4, 2) := dk_21 (by decide +kernel)
theorem dX5_lay_30 : decode cX5_lay 30 = .ok (.baload, 1) := dk_51 (by decide +kernel)
theorem dX5_lay_31 : decode cX5_lay 31 = .ok (.ifCond .ne 7, 3) := dk_154 (by decide +kernel)
theorem dX5_lay_34 : decode cX5_lay 34 = .ok (.iconst 1, 1) := dk_4 (by decide +kernel)
theorem dX5_lay_35 : decode cX5_lay 35 = .ok (.goto 4, 3) := dk_167 (by decide +kernel)
theorem dX5_lay_38 : decode cX5_lay 38 = .ok (.iconst 0, 1) := dk_3 (by decide +kernel)
theorem dX5_lay_39 : decode cX5_lay 39 = .ok (.istore 5, 2) := dk_54 (by decide +kernel)
theorem dX5_lay_41 : decode cX5_lay 41 = .ok (.aload_n 0, 1) := dk_42 (by decide +kernel)
theorem dX5_lay_42 : decode cX5_lay 42 = .ok (.getfield 38, 3) := dk_180 (by decide +kernel)
theorem dX5_lay_45 : decode cX5_lay 45 = .ok (.iload 4, 2) := dk_21 (by decide +kernel)
theorem dX5_lay_47 : decode cX5_lay 47 = .ok (.iload 5, 2) := dk_21 (by decide +kernel)
theorem dX5_lay_49 : decode cX5_lay 49 = .ok (.ifCond .eq 10, 3) := dk_153 (by decide +kernel)
theorem dX5_lay_52 : decode cX5_lay 52 = .ok (.iinc 3 1, 3) := dk_132 (by decide +kernel)
theorem dX5_lay_55 : decode cX5_lay 55 = .ok (.iload_n 3, 1) := dk_29 (by decide +kernel)
theorem dX5_lay_56 : decode cX5_lay 56 = .ok (.goto 4, 3) := dk_167 (by decide +kernel)
theorem dX5_lay_59 : decode cX5_lay 59 = .ok (.iconst (-1), 1) := dk_2 (by decide +kernel)
theorem dX5_lay_60 : decode cX5_lay 60 = .ok (.iastore, 1) := dk_79 (by decide +kernel)
theorem dX5_lay_61 : decode cX5_lay 61 = .ok (.iload_n 1, 1) := dk_27 (by decide +kernel)
theorem dX5_lay_62 : decode cX5_lay 62 = .ok (.ifCond .eq 20, 3) := dk_153 (by decide +kernel)
theorem dX5_lay_65 : decode cX5_lay 65 = .ok (.aload_n 0, 1) := dk_42 (by decide +kernel)
theorem dX5_lay_66 : decode cX5_lay 66 = .ok (.getfield 35, 3) := dk_180 (by decide +kernel)
theorem dX5_lay_69 : decode cX5_lay 69 = .ok (.iload 4, 2) := dk_21 (by decide +kernel)
theorem dX5_lay_71 : decode cX5_lay 71 = .ok (.aload_n 0, 1) := dk_42 (by decide +kernel)
theorem dX5_lay_72 : decode cX5_lay 72 = .ok (.getfield 74, 3) := dk_180 (by decide +kernel)
theorem dX5_lay_75 : decode cX5_lay 75 = .ok (.getfield 150, 3) := dk_180 (by decide +kernel)
theorem dX5_lay_78 : decode cX5_lay 78 = .ok (.iload 4, 2) := dk_21 (by decide +kernel)
theorem dX5_lay_80 : decode cX5_lay 80 = .ok (.iaload, 1) := dk_46 (by decide +kernel)
theorem dX5_lay_81 : decode cX5_lay 81 = .ok (.iastore, 1) := dk_79 (by decide +kernel)
theorem dX5_lay_82 : decode cX5_lay 82 = .ok (.iinc 4 1, 3) := dk_132 (by decide +kernel)
theorem dX5_lay_85 : decode cX5_lay 85 = .ok (.goto (-80), 3) := dk_167 (by decide +kernel)
theorem dX5_lay_88 : decode cX5_lay 88 = .ok (.iload_n 1, 1) := dk_27 (by decide +kernel)
theorem dX5_lay_89 : decode cX5_lay 89 = .ok (.ifCond .eq 13, 3) := dk_153 (by decide +kernel)
theorem dX5_lay_92 : decode cX5_lay 92 = .ok (.aload_n 0, 1) := dk_42 (by decide +kernel)
theorem dX5_lay_93 : decode cX5_lay 93 = .ok (.getfield 74, 3) := dk_180 (by decide +kernel)
theorem dX5_lay_96 : decode cX5_lay 96 = .ok (.getfield 166, 3) := dk_180 (by decide +kernel)
theorem dX5_lay_99 : decode cX5_lay 99 = .ok (.goto 10, 3) := dk_167 (by decide +kernel)
theorem dX5_lay_102 : decode cX5_lay 102 = .ok (.aload_n 0, 1) := dk_42 (by decide +kernel)
theorem dX5_lay_103 : decode cX5_lay 103 = .ok (.getfield 74, 3) := dk_180 (by decide +kernel)
theorem dX5_lay_106 : decode cX5_lay 106 = .ok (.getfield 131, 3) := dk_180 (by decide +kernel)
theorem dX5_lay_109 : decode cX5_lay 109 = .ok (.istore 4, 2) := dk_54 (by decide +kernel)
theorem dX5_lay_111 : decode cX5_lay 111 = .ok (.aload_n 0, 1) := dk_42 (by decide +kernel)
theorem dX5_lay_112 : decode cX5_lay 112 = .ok (.getfield 12, 3) := dk_180 (by decide +kernel)
theorem dX5_lay_115 : decode cX5_lay 115 = .ok (.iload 4, 2) := dk_21 (by decide +kernel)
theorem dX5_lay_117 : decode cX5_lay 117 = .ok (.iload_n 3, 1) := dk_29 (by decide +kernel)
theorem dX5_lay_118 : decode cX5_lay 118 = .ok (.iadd, 1) := dk_96 (by decide +kernel)
theorem dX5_lay_119 : decode cX5_lay 119 = .ok (.iload_n 2, 1) := dk_28 (by decide +kernel)
theorem dX5_lay_120 : decode cX5_lay 120 = .ok (.iload_n 3, 1) := dk_29 (by decide +kernel)
theorem dX5_lay_121 : decode cX5_lay 121 = .ok (.invokevirtual 169, 3) := dk_182 (by decide +kernel)
theorem dX5_lay_124 : decode cX5_lay 124 = .ok (.iconst 0, 1) := dk_3 (by decide +kernel)
theorem dX5_lay_125 : decode cX5_lay 125 = .ok (.istore 5, 2) := dk_54 (by decide +kernel)
theorem dX5_lay_127 : decode cX5_lay 127 = .ok (.iconst 0, 1) := dk_3 (by decide +kernel)
theorem dX5_lay_128 : decode cX5_lay 128 = .ok (.istore 6, 2) := dk_54 (by decide +kernel)
theorem dX5_lay_130 : decode cX5_lay 130 = .ok (.iload 6, 2) := dk_21 (by decide +kernel)
theorem dX5_lay_132 : decode cX5_lay 132 = .ok (.aload_n 0, 1) := dk_42 (by decide +kernel)
theorem dX5_lay_133 : decode cX5_lay 133 = .ok (.getfield 74, 3) := dk_180 (by decide +kernel)
theorem dX5_lay_136 : decode cX5_lay 136 = .ok (.getfield 131, 3) := dk_180 (by decide +kernel)
theorem dX5_lay_139 : decode cX5_lay 139 = .ok (.if_icmp .ge 58, 3) := dk_162 (by decide +kernel)
theorem dX5_lay_142 : decode cX5_lay 142 = .ok (.iload_n 1, 1) := dk_27 (by decide +kernel)
theorem dX5_lay_143 : decode cX5_lay 143 = .ok (.ifCond .eq 17, 3) := dk_153 (by decide +kernel)
theorem dX5_lay_146 : decode cX5_lay 146 = .ok (.aload_n 0, 1) := dk_42 (by decide +kernel)
theorem dX5_lay_147 : decode cX5_lay 147 = .ok (.getfield 74, 3) := dk_180 (by decide +kernel)
theorem dX5_lay_150 : decode cX5_lay 150 = .ok (.getfield 134, 3) := dk_180 (by decide +kernel)
theorem dX5_lay_153 : decode cX5_lay 153 = .ok (.iload 6, 2) := dk_21 (by decide +kernel)
theorem dX5_lay_155 : decode cX5_lay 155 = .ok (.iaload, 1) := dk_46 (by decide +kernel)
theorem dX5_lay_156 : decode cX5_lay 156 = .ok (.iconst 1, 1) := dk_4 (by decide +kernel)
theorem dX5_lay_157 : decode cX5_lay 157 = .ok (.if_icmp .ne 34, 3) := dk_160 (by decide +kernel)
theorem dX5_lay_160 : decode cX5_lay 160 = .ok (.aload_n 0, 1) := dk_42 (by decide +kernel)
theorem dX5_lay_161 : decode cX5_lay 161 = .ok (.iload 5, 2) := dk_21 (by decide +kernel)
theorem dX5_lay_163 : decode cX5_lay 163 = .ok (.iload 6, 2) := dk_21 (by decide +kernel)
theorem dX5_lay_165 : decode cX5_lay 165 = .ok (.iload_n 1, 1) := dk_27 (by decide +kernel)
theorem dX5_lay_166 : decode cX5_lay 166 = .ok (.ifCond .eq 7, 3) := dk_153 (by decide +kernel)
theorem dX5_lay_169 : decode cX5_lay 169 = .ok (.iconst 0, 1) := dk_3 (by decide +kernel)
theorem dX5_lay_170 : decode cX5_lay 170 = .ok (.goto 10, 3) := dk_167 (by decide +kernel)
theorem dX5_lay_173 : decode cX5_lay 173 = .ok (.aload_n 0, 1) := dk_42 (by decide +kernel)
theorem dX5_lay_174 : decode cX5_lay 174 = .ok (.getfield 41, 3) := dk_180 (by decide +kernel)
theorem dX5_lay_177 : decode cX5_lay 177 = .ok (.iload 6, 2) := dk_21 (by decide +kernel)
theorem dX5_lay_179 : decode cX5_lay 179 = .ok (.iaload, 1) := dk_46 (by decide +kernel)
theorem dX5_lay_180 : decode cX5_lay 180 = .ok (.invokevirtual 173, 3) := dk_182 (by decide +kernel)
theorem dX5_lay_183 : decode cX5_lay 183 = .ok (.ifCond .ne 5, 3) := dk_154 (by decide +kernel)
theorem dX5_lay_186 : decode cX5_lay 186 = .ok (.iconst 0, 1) := dk_3 (by decide +kernel)
theorem dX5_lay_187 : decode cX5_lay 187 = .ok (.ireturn, 1) := dk_172 (by decide +kernel)
theorem dX5_lay_188 : decode cX5_lay 188 = .ok (.iinc 5 1, 3) := dk_132 (by decide +kernel)
theorem dX5_lay_191 : decode cX5_lay 191 = .ok (.iinc 6 1, 3) := dk_132 (by decide +kernel)
theorem dX5_lay_194 : decode cX5_lay 194 = .ok (.goto (-64), 3) := dk_167 (by decide +kernel)
theorem dX5_lay_197 : decode cX5_lay 197 = .ok (.iconst 0, 1) := dk_3 (by decide +kernel)
theorem dX5_lay_198 : decode cX5_lay 198 = .ok (.istore 6, 2) := dk_54 (by decide +kernel)
theorem dX5_lay_200 : decode cX5_lay 200 = .ok (.iload 6, 2) := dk_21 (by decide +kernel)
theorem dX5_lay_202 : decode cX5_lay 202 = .ok (.aload_n 0, 1) := dk_42 (by decide +kernel)
theorem dX5_lay_203 : decode cX5_lay 203 = .ok (.getfield 74, 3) := dk_180 (by decide +kernel)
theorem dX5_lay_206 : decode cX5_lay 206 = .ok (.getfield 112, 3) := dk_180 (by decide +kernel)
theorem dX5_lay_209 : decode cX5_lay 209 = .ok (.if_icmp .ge 80, 3) := dk_162 (by decide +kernel)
theorem dX5_lay_212 : decode cX5_lay 212 = .ok (.aload_n 0, 1) := dk_42 (by decide +kernel)
theorem dX5_lay_213 : decode cX5_lay 213 = .ok (.getfield 38, 3) := dk_180 (by decide +kernel)
theorem dX5_lay_216 : decode cX5_lay 216 = .ok (.iload 6, 2) := dk_21 (by decide +kernel)
theorem dX5_lay_218 : decode cX5_lay 218 = .ok (.iaload, 1) := dk_46 (by decide +kernel)
theorem dX5_lay_219 : decode cX5_lay 219 = .ok (.iconst (-1), 1) := dk_2 (by decide +kernel)
theorem dX5_lay_220 : decode cX5_lay 220 = .ok (.if_icmp .eq 63, 3) := dk_159 (by decide +kernel)
theorem dX5_lay_223 : decode cX5_lay 223 = .ok (.aload_n 0, 1) := dk_42 (by decide +kernel)
theorem dX5_lay_224 : decode cX5_lay 224 = .ok (.getfield 12, 3) := dk_180 (by decide +kernel)
theorem dX5_lay_227 : decode cX5_lay 227 = .ok (.iload 5, 2) := dk_21 (by decide +kernel)
theorem dX5_lay_229 : decode cX5_lay 229 = .ok (.iconst 0, 1) := dk_3 (by decide +kernel)
theorem dX5_lay_230 : decode cX5_lay 230 = .ok (.invokevirtual 177, 3) := dk_182 (by decide +kernel)
theorem dX5_lay_233 : decode cX5_lay 233 = .ok (.aload_n 0, 1) := dk_42 (by decide +kernel)
theorem dX5_lay_234 : decode cX5_lay 234 = .ok (.getfield 74, 3) := dk_180 (by decide +kernel)
theorem dX5_lay_237 : decode cX5_lay 237 = .ok (.getfield 181, 3) := dk_180 (by decide +kernel)
theorem dX5_lay_240 : decode cX5_lay 240 = .ok (.iload 6, 2) := dk_21 (by decide +kernel)
theorem dX5_lay_242 : decode cX5_lay 242 = .ok (.iaload, 1) := dk_46 (by decide +kernel)
theorem dX5_lay_243 : decode cX5_lay 243 = .ok (.aload_n 0, 1) := dk_42 (by decide +kernel)
theorem dX5_lay_244 : decode cX5_lay 244 = .ok (.getfield 74, 3) := dk_180 (by decide +kernel)
theorem dX5_lay_247 : decode cX5_lay 247 = .ok (.getfield 150, 3) := dk_180 (by decide +kernel)
theorem dX5_lay_250 : decode cX5_lay 250 = .ok (.iload 6, 2) := dk_21 (by decide +kernel)
theorem dX5_lay_252 : decode cX5_lay 252 = .ok (.iaload, 1) := dk_46 (by decide +kernel)
theorem dX5_lay_253 : decode cX5_lay 253 = .ok (.isub, 1) := dk_100 (by decide +kernel)
theorem dX5_lay_254 : decode cX5_lay 254 = .ok (.i2l, 1) := dk_133 (by decide +kernel)
theorem dX5_lay_255 : decode cX5_lay 255 = .ok (.invokevirtual 184, 3) := dk_182 (by decide +kernel)
theorem dX5_lay_258 : decode cX5_lay 258 = .ok (.aload_n 0, 1) := dk_42 (by decide +kernel)
theorem dX5_lay_259 : decode cX5_lay 259 = .ok (.getfield 12, 3) := dk_180 (by decide +kernel)
theorem dX5_lay_262 : decode cX5_lay 262 = .ok (.iload 5, 2) := dk_21 (by decide +kernel)
theorem dX5_lay_264 : decode cX5_lay 264 = .ok (.aload_n 0, 1) := dk_42 (by decide +kernel)
theorem dX5_lay_265 : decode cX5_lay 265 = .ok (.getfield 38, 3) := dk_180 (by decide +kernel)
theorem dX5_lay_268 : decode cX5_lay 268 = .ok (.iload 6, 2) := dk_21 (by decide +kernel)
theorem dX5_lay_270 : decode cX5_lay 270 = .ok (.iaload, 1) := dk_46 (by decide +kernel)
theorem dX5_lay_271 : decode cX5_lay 271 = .ok (.invokevirtual 177, 3) := dk_182 (by decide +kernel)
theorem dX5_lay_274 : decode cX5_lay 274 = .ok (.ldc2_w 188, 3) := dk_20 (by decide +kernel)
theorem dX5_lay_277 : decode cX5_lay 277 = .ok (.invokevirtual 184, 3) := dk_182 (by decide +kernel)
theorem dX5_lay_280 : decode cX5_lay 280 = .ok (.iinc 5 1, 3) := dk_132 (by decide +kernel)
theorem dX5_lay_283 : decode cX5_lay 283 = .ok (.iinc 6 1, 3) := dk_132 (by decide +kernel)
theorem dX5_lay_286 : decode cX5_lay 286 = .ok (.goto (-86), 3) := dk_167 (by decide +kernel)
theorem dX5_lay_289 : decode cX5_lay 289 = .ok (.iconst 0, 1) := dk_3 (by decide +kernel)
theorem dX5_lay_290 : decode cX5_lay 290 = .ok (.istore 6, 2) := dk_54 (by decide +kernel)
theorem dX5_lay_292 : decode cX5_lay 292 = .ok (.iload 6, 2) := dk_21 (by decide +kernel)
theorem dX5_lay_294 : decode cX5_lay 294 = .ok (.iload_n 2, 1) := dk_28 (by decide +kernel)
theorem dX5_lay_295 : decode cX5_lay 295 = .ok (.if_icmp .ge 20, 3) := dk_162 (by decide +kernel)
theorem dX5_lay_298 : decode cX5_lay 298 = .ok (.aload_n 0, 1) := dk_42 (by decide +kernel)
theorem dX5_lay_299 : decode cX5_lay 299 = .ok (.iload 5, 2) := dk_21 (by decide +kernel)
theorem dX5_lay_301 : decode cX5_lay 301 = .ok (.iload 6, 2) := dk_21 (by decide +kernel)
theorem dX5_lay_303 : decode cX5_lay 303 = .ok (.iadd, 1) := dk_96 (by decide +kernel)
theorem dX5_lay_304 : decode cX5_lay 304 = .ok (.iload 6, 2) := dk_21 (by decide +kernel)
theorem dX5_lay_306 : decode cX5_lay 306 = .ok (.invokevirtual 190, 3) := dk_182 (by decide +kernel)
theorem dX5_lay_309 : decode cX5_lay 309 = .ok (.iinc 6 1, 3) := dk_132 (by decide +kernel)
theorem dX5_lay_312 : decode cX5_lay 312 = .ok (.goto (-20), 3) := dk_167 (by decide +kernel)
theorem dX5_lay_315 : decode cX5_lay 315 = .ok (.iconst 1, 1) := dk_4 (by decide +kernel)
theorem dX5_lay_316 : decode cX5_lay 316 = .ok (.ireturn, 1) := dk_172 (by decide +kernel)
def wsMX5_lay : List Cond := .code yX5_lay cX5_lay 7 (some .boolean) :: ([.fieldLink RX5 74 "OptimaWorks$Solver" "model" "LOptimaWorks$Model;", .fieldLink RX5 112 "OptimaWorks$Model" "variables" "I", .fieldLink RX5 38 "OptimaWorks$Solver" "column" "[I", .fieldLink RX5 35 "OptimaWorks$Solver" "start" "[I", .fieldLink RX5 150 "OptimaWorks$Model" "from" "[I", .fieldLink RX5 143 "OptimaWorks$Model" "whole" "[Z", .fieldLink RX5 131 "OptimaWorks$Model" "rows" "I", .fieldLink RX5 166 "OptimaWorks$Model" "plainRows" "I", .fieldLink RX5 12 "OptimaWorks$Solver" "tableau" "LOptimaWorks$Tableau;", .fieldLink RX5 181 "OptimaWorks$Model" "to" "[I", .constantLong RX5 188 (-1), .fieldLink RX5 41 "OptimaWorks$Solver" "chosen" "[I", .fieldLink RX5 134 "OptimaWorks$Model" "ways" "[I"] ++ wsX10 ++ wsX50 ++ (wsV RX5 169 RX6 yX6_begin wsMX6_begin) ++ (wsV RX5 177 RX6 yX6_cellAt wsMX6_cellAt) ++ (wsV RX5 184 RX8 yX8_setLong wsMX8_setLong) ++ (wsV RX5 190 RX5 yX5_layGoal wsMX5_layGoal) ++ (wsV RX5 173 RX5 yX5_layWay wsMX5_layWay))
theorem iwsMX5_lay_in1 : ∀ w ∈ wsX10, w ∈ wsMX5_lay := fun _ h => List.mem_cons_of_mem _ (List.mem_append_left _ (List.mem_append_left _ (List.mem_append_left _ (List.mem_append_left _ (List.mem_append_left _ (List.mem_append_left _ (List.mem_append_right _ h)))))))
theorem iwsMX5_lay_in5 : ∀ w ∈ wsX50, w ∈ wsMX5_lay := fun _ h => List.mem_cons_of_mem _ (List.mem_append_left _ (List.mem_append_left _ (List.mem_append_left _ (List.mem_append_left _ (List.mem_append_left _ (List.mem_append_right _ h))))))
theorem gwsMX5_lay_0 : GoodIn wsMX5_lay (wsV RX5 169 RX6 yX6_begin wsMX6_begin) := goodIn_sub (fun _ h => List.mem_cons_of_mem _ (List.mem_append_left _ (List.mem_append_left _ (List.mem_append_left _ (List.mem_append_left _ (List.mem_append_right _ h)))))) (gdV (by decide +kernel) gdwsMX6_begin)
theorem gwsMX5_lay_1 : GoodIn wsMX5_lay (wsV RX5 177 RX6 yX6_cellAt wsMX6_cellAt) := goodIn_sub (fun _ h => List.mem_cons_of_mem _ (List.mem_append_left _ (List.mem_append_left _ (List.mem_append_left _ (List.mem_append_right _ h))))) (gdV (by decide +kernel) gdwsMX6_cellAt)
theorem gwsMX5_lay_2 : GoodIn wsMX5_lay (wsV RX5 184 RX8 yX8_setLong wsMX8_setLong) := goodIn_sub (fun _ h => List.mem_cons_of_mem _ (List.mem_append_left _ (List.mem_append_left _ (List.mem_append_right _ h)))) (gdV (by decide +kernel) gdwsMX8_setLong)
theorem gwsMX5_lay_3 : GoodIn wsMX5_lay (wsV RX5 190 RX5 yX5_layGoal wsMX5_layGoal) := goodIn_sub (fun _ h => List.mem_cons_of_mem _ (List.mem_append_left _ (List.mem_append_right _ h))) (gdV (by decide +kernel) gdwsMX5_layGoal)
theorem gwsMX5_lay_4 : GoodIn wsMX5_lay (wsV RX5 173 RX5 yX5_layWay wsMX5_layWay) := goodIn_sub (fun _ h => List.mem_cons_of_mem _ (List.mem_append_right _ h)) (gdV (by decide +kernel) gdwsMX5_layWay)
theorem gdwsMX5_lay : wsMX5_lay.all goodWord = true := gdC rfl (gdA (gdA (gdA (gdA (gdA (gdA (gdA (by decide +kernel : ([.fieldLink RX5 74 "OptimaWorks$Solver" "model" "LOptimaWorks$Model;", .fieldLink RX5 112 "OptimaWorks$Model" "variables" "I", .fieldLink RX5 38 "OptimaWorks$Solver" "column" "[I", .fieldLink RX5 35 "OptimaWorks$Solver" "start" "[I", .fieldLink RX5 150 "OptimaWorks$Model" "from" "[I", .fieldLink RX5 143 "OptimaWorks$Model" "whole" "[Z", .fieldLink RX5 131 "OptimaWorks$Model" "rows" "I", .fieldLink RX5 166 "OptimaWorks$Model" "plainRows" "I", .fieldLink RX5 12 "OptimaWorks$Solver" "tableau" "LOptimaWorks$Tableau;", .fieldLink RX5 181 "OptimaWorks$Model" "to" "[I", .constantLong RX5 188 (-1), .fieldLink RX5 41 "OptimaWorks$Solver" "chosen" "[I", .fieldLink RX5 134 "OptimaWorks$Model" "ways" "[I"] : List Cond).all goodWord = true) gdwsX10) gdwsX50) (gdV (by decide +kernel) gdwsMX6_begin)) (gdV (by decide +kernel) gdwsMX6_cellAt)) (gdV (by decide +kernel) gdwsMX8_setLong)) (gdV (by decide +kernel) gdwsMX5_layGoal)) (gdV (by decide +kernel) gdwsMX5_layWay))
set_option maxHeartbeats 4000000 in
set_option maxRecDepth 100000 in
/-- a case is laid out -/
theorem m_X5_lay (l : Launch) (dC : Nat → ClassId) (dI : Nat → Nat → Nat) (hO : Nat → Nat) (aO : Nat → Nat) (kO : Nat → ClassId) (hM : Nat → Nat) (hQ : Nat → Nat) (hw : Nat → Nat) (iO_answered : Int32) (iO_searched : Int32) (iO_searchedRelaxed : Int32) (iO_counted : Int32) (fO_countedCase : Nat → Int32) (gO_goalNumber : Nat → Int64) (gO_goalScale : Nat → Int64) (fO_start : Nat → Int32) (fO_column : Nat → Int32) (fO_chosen : Nat → Int32) (aM : Nat → Nat) (kM : Nat → ClassId) (iM_stands : Int32) (iM_variables : Int32) (iM_rows : Int32) (iM_goals : Int32) (iM_differents : Int32) (iM_cases : Int32) (fM_from : Nat → Int32) (fM_to : Nat → Int32) (fM_whole : Nat → Int32) (fM_ways : Nat → Int32) (iM_plainRows : Int32) (fM_plainRow : Nat → Int32) (fM_kept : Nat → Int32) (fM_goalOver : Nat → Int32) (fM_goalUnder : Nat → Int32) (fM_goalMax : Nat → Int32) (fM_different : Nat → Int32) (aQ : Nat → Nat) (kQ : Nat → ClassId) (fQ_inside : Nat → Int32) (fQ_outside : Nat → Int32) (fQ_shut : Nat → Int32) (iQ_rows : Int32) (iQ_allRows : Int32) (iQ_columns : Int32) (nW : Nat) (lw : Nat → Nat) (kw : ClassId) (wl : Nat → Int32) (wb : Nat → Int32) (wG : Nat → Nat → Int64) (p1 : Int32) (p2 : Int32) (b_iO_answered : 0 ≤ iO_answered.toInt ∧ iO_answered.toInt ≤ 1) (b_iO_searched : 0 ≤ iO_searched.toInt ∧ iO_searched.toInt ≤ 1) (b_iO_searchedRelaxed : 0 ≤ iO_searchedRelaxed.toInt ∧ iO_searchedRelaxed.toInt ≤ 1) (b_iO_counted : (-1) ≤ iO_counted.toInt ∧ iO_counted.toInt ≤ 64) (b_fO_countedCase : ∀ q : Nat, 0 ≤ (fO_countedCase q).toInt ∧ (fO_countedCase q).toInt ≤ 200000) (b_fO_column : ∀ q : Nat, (-1) ≤ (fO_column q).toInt ∧ (fO_column q).toInt ≤ 8) (b_fO_chosen : ∀ q : Nat, 0 ≤ (fO_chosen q).toInt ∧ (fO_chosen q).toInt ≤ 2) (b_iM_stands : 0 ≤ iM_stands.toInt ∧ iM_stands.toInt ≤ 1) (b_iM_variables : 0 ≤ iM_variables.toInt ∧ iM_variables.toInt ≤ 8) (b_iM_rows : 0 ≤ iM_rows.toInt ∧ iM_rows.toInt ≤ 12) (b_iM_goals : 0 ≤ iM_goals.toInt ∧ iM_goals.toInt ≤ 3) (b_iM_differents : 0 ≤ iM_differents.toInt ∧ iM_differents.toInt ≤ 8) (b_iM_cases : 0 ≤ iM_cases.toInt ∧ iM_cases.toInt ≤ 200000) (b_fM_ways : ∀ q : Nat, 0 ≤ (fM_ways q).toInt ∧ (fM_ways q).toInt ≤ 3) (b_iM_plainRows : 0 ≤ iM_plainRows.toInt ∧ iM_plainRows.toInt ≤ 12) (b_fM_plainRow : ∀ q : Nat, 0 ≤ (fM_plainRow q).toInt ∧ (fM_plainRow q).toInt ≤ 11) (b_pr : iM_plainRows.toInt ≤ iM_rows.toInt) (b_iQ_rows : 0 ≤ iQ_rows.toInt ∧ iQ_rows.toInt ≤ 40) (b_iQ_allRows : 0 ≤ iQ_allRows.toInt ∧ iQ_allRows.toInt ≤ 40) (b_iQ_columns : 0 ≤ iQ_columns.toInt ∧ iQ_columns.toInt ≤ 40) (b_tb : TbO iQ_rows iQ_allRows iQ_columns) (b_wl : ∀ q : Nat, 0 ≤ (wl q).toInt ∧ (wl q).toInt ≤ 14) (b_wb : ∀ q : Nat, 0 ≤ (wb q).toInt ∧ (wb q).toInt ≤ 1) (b_p2 : 0 ≤ p2.toInt ∧ p2.toInt ≤ 3) (hnW : 432 ≤ nW) (sz : Nat) : Met l yX5_lay wsMX5_lay ({ frames := 5, cells := 0, slots := 0, locals := 111 }) (va_Pc [.ref (hO 0), .int p1, .int p2] (fun U => U.heap.size = sz ∧ va_P (dC, dI) vwCl (WO hO aO kO hM hQ hw iO_answered iO_searched iO_searchedRelaxed iO_counted fO_countedCase gO_goalNumber gO_goalScale fO_start fO_column fO_chosen ++ (WM hM aM kM iM_stands iM_variables iM_rows iM_goals iM_differents iM_cases fM_from fM_to fM_whole fM_ways iM_plainRows fM_plainRow fM_kept fM_goalOver fM_goalUnder fM_goalMax fM_different ++ (WQ hQ aQ kQ hw fQ_inside fQ_outside fQ_shut iQ_rows iQ_allRows iQ_columns ++ (WW nW hw lw kw wl wb wG)))) U.heap ∧ va_K (dC, dI) vwCl (tO kO ++ (tM kM ++ (tQ kQ ++ (tW kw)))) U ∧ va_D (fun _ => True) (WO hO aO kO hM hQ hw iO_answered iO_searched iO_searchedRelaxed iO_counted fO_countedCase gO_goalNumber gO_goalScale fO_start fO_column fO_chosen ++ (WM hM aM kM iM_stands iM_variables iM_rows iM_goals iM_differents iM_cases fM_from fM_to fM_whole fM_ways iM_plainRows fM_plainRow fM_kept fM_goalOver fM_goalUnder fM_goalMax fM_different ++ (WQ hQ aQ kQ hw fQ_inside fQ_outside fQ_shut iQ_rows iQ_allRows iQ_columns ++ (WW nW hw lw kw wl wb wG)))))) (va_Qi (fun (r : Int32) (u : (Nat → Int32) × (Nat → Int32) × (Nat → Int32) × (Nat → Int32) × (Nat → Int32) × (Int32) × (Int32) × (Int32) × (Nat → Int32) × (Nat → Int32) × (Nat → Nat → Int64)) => (∀ q : Nat, (-1) ≤ ((u.2.1) q).toInt ∧ ((u.2.1) q).toInt ≤ 8) ∧ (0 ≤ (u.2.2.2.2.2.1).toInt ∧ (u.2.2.2.2.2.1).toInt ≤ 40) ∧ (0 ≤ (u.2.2.2.2.2.2.1).toInt ∧ (u.2.2.2.2.2.2.1).toInt ≤ 40) ∧ (0 ≤ (u.2.2.2.2.2.2.2.1).toInt ∧ (u.2.2.2.2.2.2.2.1).toInt ≤ 40) ∧ (∀ q : Nat, 0 ≤ ((u.2.2.2.2.2.2.2.2.1) q).toInt ∧ ((u.2.2.2.2.2.2.2.2.1) q).toInt ≤ 14) ∧ (∀ q : Nat, 0 ≤ ((u.2.2.2.2.2.2.2.2.2.1) q).toInt ∧ ((u.2.2.2.2.2.2.2.2.2.1) q).toInt ≤ 1) ∧ (TbO (u.2.2.2.2.2.1) (u.2.2.2.2.2.2.1) (u.2.2.2.2.2.2.2.1)) ∧ (0 ≤ r.toInt ∧ r.toInt ≤ 1) ∧ ((u.2.2.2.2.2.2.2.1).toInt ≤ 8) ∧ ((u.2.2.2.2.2.1).toInt ≤ 20)) (fun (u : (Nat → Int32) × (Nat → Int32) × (Nat → Int32) × (Nat → Int32) × (Nat → Int32) × (Int32) × (Int32) × (Int32) × (Nat → Int32) × (Nat → Int32) × (Nat → Nat → Int64)) t => va_P (dC, dI) vwCl (WO hO aO kO hM hQ hw iO_answered iO_searched iO_searchedRelaxed iO_counted fO_countedCase gO_goalNumber gO_goalScale (u.1) (u.2.1) fO_chosen ++ (WM hM aM kM iM_stands iM_variables iM_rows iM_goals iM_differents iM_cases fM_from fM_to fM_whole fM_ways iM_plainRows fM_plainRow fM_kept fM_goalOver fM_goalUnder fM_goalMax fM_different ++ (WQ hQ aQ kQ hw (u.2.2.1) (u.2.2.2.1) (u.2.2.2.2.1) (u.2.2.2.2.2.1) (u.2.2.2.2.2.2.1) (u.2.2.2.2.2.2.2.1) ++ (WW nW hw lw kw (u.2.2.2.2.2.2.2.2.1) (u.2.2.2.2.2.2.2.2.2.1) (u.2.2.2.2.2.2.2.2.2.2))))) t.heap ∧ va_D (va_A (WO hO aO kO hM hQ hw iO_answered iO_searched iO_searchedRelaxed iO_counted fO_countedCase gO_goalNumber gO_goalScale fO_start fO_column fO_chosen ++ (WM hM aM kM iM_stands iM_variables iM_rows iM_goals iM_differents iM_cases fM_from fM_to fM_whole fM_ways iM_plainRows fM_plainRow fM_kept fM_goalOver fM_goalUnder fM_goalMax fM_different ++ (WQ hQ aQ kQ hw fQ_inside fQ_outside fQ_shut iQ_rows iQ_allRows iQ_columns ++ (WW nW hw lw kw wl wb wG)))) sz) (WO hO aO kO hM hQ hw iO_answered iO_searched iO_searchedRelaxed iO_counted fO_countedCase gO_goalNumber gO_goalScale (u.1) (u.2.1) fO_chosen ++ (WM hM aM kM iM_stands iM_variables iM_rows iM_goals iM_differents iM_cases fM_from fM_to fM_whole fM_ways iM_plainRows fM_plainRow fM_kept fM_goalOver fM_goalUnder fM_goalMax fM_different ++ (WQ hQ aQ kQ hw (u.2.2.1) (u.2.2.2.1) (u.2.2.2.2.1) (u.2.2.2.2.2.1) (u.2.2.2.2.2.2.1) (u.2.2.2.2.2.2.2.1) ++ (WW nW hw lw kw (u.2.2.2.2.2.2.2.2.1) (u.2.2.2.2.2.2.2.2.2.1) (u.2.2.2.2.2.2.2.2.2.2)))))) (va_A (WO hO aO kO hM hQ hw iO_answered iO_searched iO_searchedRelaxed iO_counted fO_countedCase gO_goalNumber gO_goalScale fO_start fO_column fO_chosen ++ (WM hM aM kM iM_stands iM_variables iM_rows iM_goals iM_differents iM_cases fM_from fM_to fM_whole fM_ways iM_plainRows fM_plainRow fM_kept fM_goalOver fM_goalUnder fM_goalMax fM_different ++ (WQ hQ aQ kQ hw fQ_inside fQ_outside fQ_shut iQ_rows iQ_allRows iQ_columns ++ (WW nW hw lw kw wl wb wG)))) sz)) 0 0 (va_A (WO hO aO kO hM hQ hw iO_answered iO_searched iO_searchedRelaxed iO_counted fO_countedCase gO_goalNumber gO_goalScale fO_start fO_column fO_chosen ++ (WM hM aM kM iM_stands iM_variables iM_rows iM_goals iM_differents iM_cases fM_from fM_to fM_whole fM_ways iM_plainRows fM_plainRow fM_kept fM_goalOver fM_goalUnder fM_goalMax fM_different ++ (WQ hQ aQ kQ hw fQ_inside fQ_outside fQ_shut iQ_rows iQ_allRows iQ_columns ++ (WW nW hw lw kw wl wb wG)))) sz) := by
  refine Met.ofW (cc := cX5_lay) (maxL := 7) (ret := (some .boolean)) (by decide) rfl ?_
  intro p e s m args below meth c s₁ B hml hv
  obtain ⟨rfl, hsz, hP, hK, hD0⟩ := hv
  have hx := B.exec
  have hb := B.bytes
  have hr := B.returns
  have hts := atoms_spec (ws := wsMX5_lay) B.pre
  have hown : s.vm.findClass RX5 = some m.cls := findClass_of_methodNamed B.named
  have hlocks := B.notSynchronized
  subst hsz
  have hD := hD0.self (sz := s.heap.size)
  generalize hAe : va_A (WO hO aO kO hM hQ hw iO_answered iO_searched iO_searchedRelaxed iO_counted fO_countedCase gO_goalNumber gO_goalScale fO_start fO_column fO_chosen ++ (WM hM aM kM iM_stands iM_variables iM_rows iM_goals iM_differents iM_cases fM_from fM_to fM_whole fM_ways iM_plainRows fM_plainRow fM_kept fM_goalOver fM_goalUnder fM_goalMax fM_different ++ (WQ hQ aQ kQ hw fQ_inside fQ_outside fQ_shut iQ_rows iQ_allRows iQ_columns ++ (WW nW hw lw kw wl wb wG)))) s.heap.size = A at hD ⊢
  have hA : ∀ q : Nat, s.heap.size ≤ q → A q := fun q h => by rw [← hAe]; exact Or.inr h
  have hS : va_S A s.heap s.heap [] := va_S.rf
  have hl := lv_entry ([.ref (hO 0), .int p1, .int p2]) (n := 7) (Nat.le_of_ble_eq_true rfl)
  rw [lg_entry_eq]
  generalize (lg_sl ([.ref (hO 0), .int p1, .int p2]) ++ List.replicate (7 - (lg_sl ([.ref (hO 0), .int p1, .int p2])).length) Slot.unset).toArray = ls at hl ⊢
  have hl : lv_has ls 7 [(0, .ref (hO 0)), (1, .int p1), (2, .int p2)] := hl
  refine lv_iconst (v := 0) hx hb dX5_lay_0 (by decide) ?_
  refine lv_istore_n hx hb dX5_lay_1 rfl hl (by decide) rfl (fun ls (hl : lv_has ls _ ([(3, .int 0), (0, .ref (hO 0)), (1, .int p1), (2, .int p2)])) => ?_)
  refine lv_iconst (v := 0) hx hb dX5_lay_2 (by decide) ?_
  refine lv_istore hx hb dX5_lay_3 hl (by decide) rfl (fun ls (hl : lv_has ls _ ([(4, .int 0), (3, .int 0), (0, .ref (hO 0)), (1, .int p1), (2, .int p2)])) => ?_)
  have hl : lv_has _ _ ([(4, .int 0), (3, .int 0), (0, .ref (hO 0)), (1, .int p1), (2, .int p2)]) := lv_sub hl [0, 1, 2, 3, 4] rfl
  refine (fun (loop : ∀ (n9 : Nat) (fO_start_x5 : Nat → Int32) (fO_column_x5 : Nat → Int32) (l4_x5 : Int32) (l3_x5 : Int32) (H : Heap) (locs : List Loc) (ls : Array Slot), (∀ q : Nat, (-1) ≤ (fO_column_x5 q).toInt ∧ (fO_column_x5 q).toInt ≤ 8) → (0 ≤ l4_x5.toInt ∧ l4_x5.toInt ≤ 8) → (0 ≤ l3_x5.toInt ∧ l3_x5.toInt ≤ 8) → (l3_x5.toInt ≤ l4_x5.toInt) → (8 - l4_x5.toInt < ((n9 : Nat) : Int)) → va_P (dC, dI) vwCl (WO hO aO kO hM hQ hw iO_answered iO_searched iO_searchedRelaxed iO_counted fO_countedCase gO_goalNumber gO_goalScale fO_start_x5 fO_column_x5 fO_chosen ++ (WM hM aM kM iM_stands iM_variables iM_rows iM_goals iM_differents iM_cases fM_from fM_to fM_whole fM_ways iM_plainRows fM_plainRow fM_kept fM_goalOver fM_goalUnder fM_goalMax fM_different ++ (WQ hQ aQ kQ hw fQ_inside fQ_outside fQ_shut iQ_rows iQ_allRows iQ_columns ++ (WW nW hw lw kw wl wb wG)))) H → va_D A (WO hO aO kO hM hQ hw iO_answered iO_searched iO_searchedRelaxed iO_counted fO_countedCase gO_goalNumber gO_goalScale fO_start_x5 fO_column_x5 fO_chosen ++ (WM hM aM kM iM_stands iM_variables iM_rows iM_goals iM_differents iM_cases fM_from fM_to fM_whole fM_ways iM_plainRows fM_plainRow fM_kept fM_goalOver fM_goalUnder fM_goalMax fM_different ++ (WQ hQ aQ kQ hw fQ_inside fQ_outside fQ_shut iQ_rows iQ_allRows iQ_columns ++ (WW nW hw lw kw wl wb wG)))) → va_S A s.heap H locs → lv_has ls 7 [(4, .int l4_x5), (3, .int l3_x5), (0, .ref (hO 0)), (1, .int p1), (2, .int p2)] → W p l e _ s m _ below meth c H locs 0 0 _ (F0 m 5 ls [])) => loop (9) fO_start fO_column 0 0 _ _ _ b_fO_column (show 0 ≤ (0 : Int32).toInt ∧ (0 : Int32).toInt ≤ 8 from by decide) (show 0 ≤ (0 : Int32).toInt ∧ (0 : Int32).toInt ≤ 8 from by decide) (show (0 : Int32).toInt ≤ (0 : Int32).toInt from by decide) ((by have e9 : (0 : Int32).toInt = 0 := (by decide : (0 : Int32).toInt = 0); omega)) hP hD hS hl) ?_
  intro n9
  induction n9 with
  | zero => intro fO_start_x5 fO_column_x5 l4_x5 l3_x5 H locs ls b_fO_column_x5 b_l4_x5 b_l3_x5 hc1 hf9; exact False.elim (by omega)
  | succ n9 ihx5 =>
    intro fO_start_x5 fO_column_x5 l4_x5 l3_x5 H locs ls b_fO_column_x5 b_l4_x5 b_l3_x5 hc1 hfx5 hP hD hS hl
    refine lv_iload hx hb dX5_lay_5 (lv_at hl 0 rfl) ?_
    refine lv_aload_n hx hb dX5_lay_7 rfl (lv_at hl 2 rfl) ?_
    refine va_get (D := (dC, dI)) (ci := 5) (v := .ref (hM 0)) (C := RX5) (T := TX5) (N := 19) hx hb hts iwsMX5_lay_in5 hown hK hP 0 rfl rfl 0 (by decide) (hts (.fieldLink RX5 74 "OptimaWorks$Solver" "model" "LOptimaWorks$Model;") (by decide +kernel)) (fun _ h9 => h9) rfl dX5_lay_8 ?_
    refine va_get (D := (dC, dI)) (ci := 1) (v := .int iM_variables) (C := RX1) (T := TX1) (N := 17) hx hb hts iwsMX5_lay_in1 hown hK hP 11 rfl rfl 1 (by decide) (hts (.fieldLink RX5 112 "OptimaWorks$Model" "variables" "I") (by decide +kernel)) (fun _ h9 => h9) rfl dX5_lay_11 ?_
    refine lv_icmp_ge (tgt := 88) hx hb dX5_lay_14 (by decide) (fun c_14 => ?_) (fun c_14 => ?_)
    · have t_14 : l4_x5.toInt ≥ iM_variables.toInt := toI_ge c_14 rfl rfl
      refine lv_iload_n hx hb dX5_lay_88 rfl (lv_at hl 3 rfl) ?_
      refine W.cut (pc := 109) (fun H locs ls stk => ∃ (k0_j36 : Int32), (0 ≤ k0_j36.toInt ∧ k0_j36.toInt ≤ 12) ∧  stk = [.int k0_j36] ∧ va_P (dC, dI) vwCl (WO hO aO kO hM hQ hw iO_answered iO_searched iO_searchedRelaxed iO_counted fO_countedCase gO_goalNumber gO_goalScale fO_start_x5 fO_column_x5 fO_chosen ++ (WM hM aM kM iM_stands iM_variables iM_rows iM_goals iM_differents iM_cases fM_from fM_to fM_whole fM_ways iM_plainRows fM_plainRow fM_kept fM_goalOver fM_goalUnder fM_goalMax fM_different ++ (WQ hQ aQ kQ hw fQ_inside fQ_outside fQ_shut iQ_rows iQ_allRows iQ_columns ++ (WW nW hw lw kw wl wb wG)))) H ∧ va_D A (WO hO aO kO hM hQ hw iO_answered iO_searched iO_searchedRelaxed iO_counted fO_countedCase gO_goalNumber gO_goalScale fO_start_x5 fO_column_x5 fO_chosen ++ (WM hM aM kM iM_stands iM_variables iM_rows iM_goals iM_differents iM_cases fM_from fM_to fM_whole fM_ways iM_plainRows fM_plainRow fM_kept fM_goalOver fM_goalUnder fM_goalMax fM_different ++ (WQ hQ aQ kQ hw fQ_inside fQ_outside fQ_shut iQ_rows iQ_allRows iQ_columns ++ (WW nW hw lw kw wl wb wG)))) ∧ va_S A s.heap H locs ∧ lv_has ls 7 [(4, .int l4_x5), (3, .int l3_x5), (0, .ref (hO 0)), (1, .int p1), (2, .int p2)]) (fun join36 => ?_) ?_
      · refine lv_if_eq (tgt := 102) hx hb dX5_lay_89 (by decide) (fun c_89 => ?_) (fun c_89 => ?_)
        · have t_89 : p1.toInt = 0 := toI_eq c_89 rfl (by decide : (0 : Int32).toInt = 0)
          refine lv_aload_n hx hb dX5_lay_102 rfl (lv_at hl 2 rfl) ?_
          refine va_get (D := (dC, dI)) (ci := 5) (v := .ref (hM 0)) (C := RX5) (T := TX5) (N := 19) hx hb hts iwsMX5_lay_in5 hown hK hP 0 rfl rfl 0 (by decide) (hts (.fieldLink RX5 74 "OptimaWorks$Solver" "model" "LOptimaWorks$Model;") (by decide +kernel)) (fun _ h9 => h9) rfl dX5_lay_103 ?_
          refine va_get (D := (dC, dI)) (ci := 1) (v := .int iM_rows) (C := RX1) (T := TX1) (N := 17) hx hb hts iwsMX5_lay_in1 hown hK hP 11 rfl rfl 2 (by decide) (hts (.fieldLink RX5 131 "OptimaWorks$Model" "rows" "I") (by decide +kernel)) (fun _ h9 => h9) rfl dX5_lay_106 ?_
          have hl : lv_has _ _ ([(4, .int l4_x5), (3, .int l3_x5), (0, .ref (hO 0)), (1, .int p1), (2, .int p2)]) := lv_sub hl [0, 1, 2, 3, 4] rfl
          exact join36 _ _ _ _ ⟨iM_rows, (b_iM_rows), rfl, hP, hD, hS, hl⟩
        · have t_89 : ¬ p1.toInt = 0 := toI_neq c_89 rfl (by decide : (0 : Int32).toInt = 0)
          refine lv_aload_n hx hb dX5_lay_92 rfl (lv_at hl 2 rfl) ?_
          refine va_get (D := (dC, dI)) (ci := 5) (v := .ref (hM 0)) (C := RX5) (T := TX5) (N := 19) hx hb hts iwsMX5_lay_in5 hown hK hP 0 rfl rfl 0 (by decide) (hts (.fieldLink RX5 74 "OptimaWorks$Solver" "model" "LOptimaWorks$Model;") (by decide +kernel)) (fun _ h9 => h9) rfl dX5_lay_93 ?_
          refine va_get (D := (dC, dI)) (ci := 1) (v := .int iM_plainRows) (C := RX1) (T := TX1) (N := 17) hx hb hts iwsMX5_lay_in1 hown hK hP 11 rfl rfl 10 (by decide) (hts (.fieldLink RX5 166 "OptimaWorks$Model" "plainRows" "I") (by decide +kernel)) (fun _ h9 => h9) rfl dX5_lay_96 ?_
          refine lv_goto (tgt := 109) hx hb dX5_lay_99 (by decide) ?_
          have hl : lv_has _ _ ([(4, .int l4_x5), (3, .int l3_x5), (0, .ref (hO 0)), (1, .int p1), (2, .int p2)]) := lv_sub hl [0, 1, 2, 3, 4] rfl
          exact join36 _ _ _ _ ⟨iM_plainRows, (b_iM_plainRows), rfl, hP, hD, hS, hl⟩
      · rintro H locs ls stk ⟨k0_j36, b_k0_j36, rfl, hP, hD, hS, hl⟩
        refine lv_istore hx hb dX5_lay_109 hl (by decide) rfl (fun ls (hl : lv_has ls _ ([(4, .int k0_j36), (3, .int l3_x5), (0, .ref (hO 0)), (1, .int p1), (2, .int p2)])) => ?_)
        refine lv_aload_n hx hb dX5_lay_111 rfl (lv_at hl 2 rfl) ?_
        refine va_get (D := (dC, dI)) (ci := 5) (v := .ref (hQ 0)) (C := RX5) (T := TX5) (N := 19) hx hb hts iwsMX5_lay_in5 hown hK hP 0 rfl rfl 1 (by decide) (hts (.fieldLink RX5 12 "OptimaWorks$Solver" "tableau" "LOptimaWorks$Tableau;") (by decide +kernel)) (fun _ h9 => h9) rfl dX5_lay_112 ?_
        refine lv_iload hx hb dX5_lay_115 (lv_at hl 0 rfl) ?_
        refine lv_iload_n hx hb dX5_lay_117 rfl (lv_at hl 1 rfl) ?_
        refine lv_iadd hx hb dX5_lay_118 ?_
        refine lv_topi (fun y673 hy673 => ?_)
        obtain rfl : (iI (k0_j36.toInt + l3_x5.toInt)) = y673 := (hy673.trans (iI_add2 (iI_of _) (iI_of _))).symm
        refine lv_iload_n hx hb dX5_lay_119 rfl (lv_at hl 4 rfl) ?_
        refine lv_iload_n hx hb dX5_lay_120 rfl (lv_at hl 1 rfl) ?_
        have p9 : List.Perm (WO hO aO kO hM hQ hw iO_answered iO_searched iO_searchedRelaxed iO_counted fO_countedCase gO_goalNumber gO_goalScale fO_start_x5 fO_column_x5 fO_chosen ++ (WM hM aM kM iM_stands iM_variables iM_rows iM_goals iM_differents iM_cases fM_from fM_to fM_whole fM_ways iM_plainRows fM_plainRow fM_kept fM_goalOver fM_goalUnder fM_goalMax fM_different ++ (WQ hQ aQ kQ hw fQ_inside fQ_outside fQ_shut iQ_rows iQ_allRows iQ_columns ++ (WW nW hw lw kw wl wb wG)))) ((WQ hQ aQ kQ hw fQ_inside fQ_outside fQ_shut iQ_rows iQ_allRows iQ_columns ++ (WW nW hw lw kw wl wb wG)) ++ (WO hO aO kO hM hQ hw iO_answered iO_searched iO_searchedRelaxed iO_counted fO_countedCase gO_goalNumber gO_goalScale fO_start_x5 fO_column_x5 fO_chosen ++ (WM hM aM kM iM_stands iM_variables iM_rows iM_goals iM_differents iM_cases fM_from fM_to fM_whole fM_ways iM_plainRows fM_plainRow fM_kept fM_goalOver fM_goalUnder fM_goalMax fM_different))) := ((((List.Perm.append_left _ ((List.Perm.append_left _ (List.perm_append_comm)).trans (List.perm_append_comm_assoc _ _ _))).trans (List.perm_append_comm_assoc _ _ _)).trans ((List.Perm.append_left _ ((List.Perm.append_left _ (List.perm_append_comm)).trans (List.perm_append_comm_assoc _ _ _))).trans (List.perm_append_comm_assoc _ _ _))).trans (List.Perm.of_eq (by simp only [List.append_assoc])))
        have hPc := hP.mem (fun q h => p9.mem_iff.mpr (List.mem_append_left _ h))
        have hDc := (hD.perm p9).left
        have hKc : va_K (dC, dI) vwCl (tQ kQ ++ (tW kw)) _ := hK.sub [20, 21, 22, 23, 24] rfl
        have hFc := freeG p9 hD hS hA
        refine va_callv (va_runV (As := [.int (iI (k0_j36.toInt + l3_x5.toInt)), .int p2, .int l3_x5]) (rest := []) ⟨hx, hb, hml, hown, hts⟩ (m_X6_begin l dC dI hQ aQ kQ hw fQ_inside fQ_outside fQ_shut iQ_rows iQ_allRows iQ_columns nW lw kw wl wb wG (iI (k0_j36.toInt + l3_x5.toInt)) p2 l3_x5 (b_iQ_rows) (b_iQ_allRows) (b_iQ_columns) (by first | with_reducible assumption | omega | assumption) b_wl b_wb (iI_rng (Int.le_trans (by decide) (Int.add_le_add (b_k0_j36.1) (b_l3_x5.1))) (Int.le_trans (Int.add_le_add (b_k0_j36.2) (b_l3_x5.2)) (by decide)) (by decide) (by decide)) (⟨b_p2.1, Int.le_trans b_p2.2 (by decide)⟩) (⟨b_l3_x5.1, Int.le_trans b_l3_x5.2 (by decide)⟩) (by omega) (by (try rw [iI_t (by omega) (by omega)]); omega) (mul40 (by rw [iI_t (by omega) (by omega)]; omega) (by rw [iI_t (by omega) (by omega)]; omega) (by omega) (by omega)) H.size) (cwV 3 hts gwsMX5_lay_0 rfl rfl rfl hd_yX6_begin_RX6 (by decide +kernel)) (fz_pre (va_recv hK hP (ci := 6) (q0 := 22) rfl rfl) hPc hKc hDc) rfl rfl hl.1 rfl (lv_room (Nat.le_of_ble_eq_true rfl)) dX5_lay_121 (by decide +kernel)) hS (fun q _ h => hFc q h) hFc (fun u t9_ H locs ht hvm hw9 hB9 hz1 hk1 hS => ?_)
        revert u hw9 hB9
        refine fz_p9 ?_
        intro fQ_inside_674 fQ_outside_674 fQ_shut_674 iQ_rows_674 iQ_allRows_674 iQ_columns_674 wl_674 wb_674 wG_674 hw9 hB9
        try dsimp only at hw9 hB9
        revert hw9
        refine fz_a9 ?_
        intro b_iQ_rows_674 b_iQ_allRows_674 b_iQ_columns_674 b_wl_674 b_wb_674 b_tb_674 f674_0 f674_1 f674_2
        have p8 : List.Perm (WO hO aO kO hM hQ hw iO_answered iO_searched iO_searchedRelaxed iO_counted fO_countedCase gO_goalNumber gO_goalScale fO_start_x5 fO_column_x5 fO_chosen ++ (WM hM aM kM iM_stands iM_variables iM_rows iM_goals iM_differents iM_cases fM_from fM_to fM_whole fM_ways iM_plainRows fM_plainRow fM_kept fM_goalOver fM_goalUnder fM_goalMax fM_different ++ (WQ hQ aQ kQ hw fQ_inside_674 fQ_outside_674 fQ_shut_674 iQ_rows_674 iQ_allRows_674 iQ_columns_674 ++ (WW nW hw lw kw wl_674 wb_674 wG_674)))) ((WQ hQ aQ kQ hw fQ_inside_674 fQ_outside_674 fQ_shut_674 iQ_rows_674 iQ_allRows_674 iQ_columns_674 ++ (WW nW hw lw kw wl_674 wb_674 wG_674)) ++ (WO hO aO kO hM hQ hw iO_answered iO_searched iO_searchedRelaxed iO_counted fO_countedCase gO_goalNumber gO_goalScale fO_start_x5 fO_column_x5 fO_chosen ++ (WM hM aM kM iM_stands iM_variables iM_rows iM_goals iM_differents iM_cases fM_from fM_to fM_whole fM_ways iM_plainRows fM_plainRow fM_kept fM_goalOver fM_goalUnder fM_goalMax fM_different))) := ((((List.Perm.append_left _ ((List.Perm.append_left _ (List.perm_append_comm)).trans (List.perm_append_comm_assoc _ _ _))).trans (List.perm_append_comm_assoc _ _ _)).trans ((List.Perm.append_left _ ((List.Perm.append_left _ (List.perm_append_comm)).trans (List.perm_append_comm_assoc _ _ _))).trans (List.perm_append_comm_assoc _ _ _))).trans (List.Perm.of_eq (by simp only [List.append_assoc])))
        obtain ⟨hP, hD⟩ := frameG p9 p8 hP hD hk1 hFc (fz_P ht hB9.1) hB9.2
        have hP : va_P (dC, dI) vwCl (WO hO aO kO hM hQ hw iO_answered iO_searched iO_searchedRelaxed iO_counted fO_countedCase gO_goalNumber gO_goalScale fO_start_x5 fO_column_x5 fO_chosen ++ (WM hM aM kM iM_stands iM_variables iM_rows iM_goals iM_differents iM_cases fM_from fM_to fM_whole fM_ways iM_plainRows fM_plainRow fM_kept fM_goalOver fM_goalUnder fM_goalMax fM_different ++ (WQ hQ aQ kQ hw fQ_inside_674 fQ_outside_674 fQ_shut_674 iQ_rows_674 iQ_allRows_674 iQ_columns_674 ++ (WW nW hw lw kw wl_674 wb_674 wG_674)))) H := hP
        have hD : va_D A (WO hO aO kO hM hQ hw iO_answered iO_searched iO_searchedRelaxed iO_counted fO_countedCase gO_goalNumber gO_goalScale fO_start_x5 fO_column_x5 fO_chosen ++ (WM hM aM kM iM_stands iM_variables iM_rows iM_goals iM_differents iM_cases fM_from fM_to fM_whole fM_ways iM_plainRows fM_plainRow fM_kept fM_goalOver fM_goalUnder fM_goalMax fM_different ++ (WQ hQ aQ kQ hw fQ_inside_674 fQ_outside_674 fQ_shut_674 iQ_rows_674 iQ_allRows_674 iQ_columns_674 ++ (WW nW hw lw kw wl_674 wb_674 wG_674)))) := hD
        have hb1 := f674_0
        have hb3 := f674_2
        rw [iI_t (by omega) (by omega)] at hb1
        refine lv_iconst (v := 0) hx hb dX5_lay_124 (by decide) ?_
        refine lv_istore hx hb dX5_lay_125 hl (by decide) rfl (fun ls (hl : lv_has ls _ ([(5, .int 0), (4, .int k0_j36), (3, .int l3_x5), (0, .ref (hO 0)), (1, .int p1), (2, .int p2)])) => ?_)
        refine lv_iconst (v := 0) hx hb dX5_lay_127 (by decide) ?_
        refine lv_istore hx hb dX5_lay_128 hl (by decide) rfl (fun ls (hl : lv_has ls _ ([(6, .int 0), (5, .int 0), (4, .int k0_j36), (3, .int l3_x5), (0, .ref (hO 0)), (1, .int p1), (2, .int p2)])) => ?_)
        have hl : lv_has _ _ ([(6, .int 0), (5, .int 0), (4, .int k0_j36), (3, .int l3_x5), (0, .ref (hO 0)), (1, .int p1), (2, .int p2)]) := lv_sub hl [0, 1, 2, 3, 4, 5, 6] rfl
        refine (fun (loop : ∀ (n9 : Nat) (wl_x130 : Nat → Int32) (wb_x130 : Nat → Int32) (wG_x130 : Nat → Nat → Int64) (l6_x130 : Int32) (l5_x130 : Int32) (H : Heap) (locs : List Loc) (ls : Array Slot), (∀ q : Nat, 0 ≤ (wl_x130 q).toInt ∧ (wl_x130 q).toInt ≤ 14) → (∀ q : Nat, 0 ≤ (wb_x130 q).toInt ∧ (wb_x130 q).toInt ≤ 1) → (0 ≤ l6_x130.toInt ∧ l6_x130.toInt ≤ 12) → (0 ≤ l5_x130.toInt ∧ l5_x130.toInt ≤ 20) → (l5_x130.toInt ≤ l6_x130.toInt) → (12 - l6_x130.toInt < ((n9 : Nat) : Int)) → va_P (dC, dI) vwCl (WO hO aO kO hM hQ hw iO_answered iO_searched iO_searchedRelaxed iO_counted fO_countedCase gO_goalNumber gO_goalScale fO_start_x5 fO_column_x5 fO_chosen ++ (WM hM aM kM iM_stands iM_variables iM_rows iM_goals iM_differents iM_cases fM_from fM_to fM_whole fM_ways iM_plainRows fM_plainRow fM_kept fM_goalOver fM_goalUnder fM_goalMax fM_different ++ (WQ hQ aQ kQ hw fQ_inside_674 fQ_outside_674 fQ_shut_674 iQ_rows_674 iQ_allRows_674 iQ_columns_674 ++ (WW nW hw lw kw wl_x130 wb_x130 wG_x130)))) H → va_D A (WO hO aO kO hM hQ hw iO_answered iO_searched iO_searchedRelaxed iO_counted fO_countedCase gO_goalNumber gO_goalScale fO_start_x5 fO_column_x5 fO_chosen ++ (WM hM aM kM iM_stands iM_variables iM_rows iM_goals iM_differents iM_cases fM_from fM_to fM_whole fM_ways iM_plainRows fM_plainRow fM_kept fM_goalOver fM_goalUnder fM_goalMax fM_different ++ (WQ hQ aQ kQ hw fQ_inside_674 fQ_outside_674 fQ_shut_674 iQ_rows_674 iQ_allRows_674 iQ_columns_674 ++ (WW nW hw lw kw wl_x130 wb_x130 wG_x130)))) → va_S A s.heap H locs → lv_has ls 7 [(6, .int l6_x130), (5, .int l5_x130), (4, .int k0_j36), (3, .int l3_x5), (0, .ref (hO 0)), (1, .int p1), (2, .int p2)] → W p l e _ s m _ below meth c H locs 0 0 _ (F0 m 130 ls [])) => loop (13) wl_674 wb_674 wG_674 0 0 _ _ _ b_wl_674 b_wb_674 (show 0 ≤ (0 : Int32).toInt ∧ (0 : Int32).toInt ≤ 12 from by decide) (show 0 ≤ (0 : Int32).toInt ∧ (0 : Int32).toInt ≤ 20 from by decide) (show (0 : Int32).toInt ≤ (0 : Int32).toInt from by decide) ((by have e9 : (0 : Int32).toInt = 0 := (by decide : (0 : Int32).toInt = 0); omega)) hP hD hS hl) ?_
        intro n9
        induction n9 with
        | zero => intro wl_x130 wb_x130 wG_x130 l6_x130 l5_x130 H locs ls b_wl_x130 b_wb_x130 b_l6_x130 b_l5_x130 hl1 hf9; exact False.elim (by omega)
        | succ n9 ihx130 =>
          intro wl_x130 wb_x130 wG_x130 l6_x130 l5_x130 H locs ls b_wl_x130 b_wb_x130 b_l6_x130 b_l5_x130 hl1 hfx130 hP hD hS hl
          refine lv_iload hx hb dX5_lay_130 (lv_at hl 0 rfl) ?_
          refine lv_aload_n hx hb dX5_lay_132 rfl (lv_at hl 4 rfl) ?_
          refine va_get (D := (dC, dI)) (ci := 5) (v := .ref (hM 0)) (C := RX5) (T := TX5) (N := 19) hx hb hts iwsMX5_lay_in5 hown hK hP 0 rfl rfl 0 (by decide) (hts (.fieldLink RX5 74 "OptimaWorks$Solver" "model" "LOptimaWorks$Model;") (by decide +kernel)) (fun _ h9 => h9) rfl dX5_lay_133 ?_
          refine va_get (D := (dC, dI)) (ci := 1) (v := .int iM_rows) (C := RX1) (T := TX1) (N := 17) hx hb hts iwsMX5_lay_in1 hown hK hP 11 rfl rfl 2 (by decide) (hts (.fieldLink RX5 131 "OptimaWorks$Model" "rows" "I") (by decide +kernel)) (fun _ h9 => h9) rfl dX5_lay_136 ?_
          refine lv_icmp_ge (tgt := 197) hx hb dX5_lay_139 (by decide) (fun c_139 => ?_) (fun c_139 => ?_)
          · have t_139 : l6_x130.toInt ≥ iM_rows.toInt := toI_ge c_139 rfl rfl
            refine lv_iconst (v := 0) hx hb dX5_lay_197 (by decide) ?_
            refine lv_istore hx hb dX5_lay_198 hl (by decide) rfl (fun ls (hl : lv_has ls _ ([(6, .int 0), (5, .int l5_x130), (4, .int k0_j36), (3, .int l3_x5), (0, .ref (hO 0)), (1, .int p1), (2, .int p2)])) => ?_)
            have hl : lv_has _ _ ([(6, .int 0), (5, .int l5_x130), (4, .int k0_j36), (3, .int l3_x5), (0, .ref (hO 0)), (1, .int p1), (2, .int p2)]) := lv_sub hl [0, 1, 2, 3, 4, 5, 6] rfl
            refine (fun (loop : ∀ (n9 : Nat) (wl_x200 : Nat → Int32) (wb_x200 : Nat → Int32) (wG_x200 : Nat → Nat → Int64) (l6_x200 : Int32) (l5_x200 : Int32) (H : Heap) (locs : List Loc) (ls : Array Slot), (∀ q : Nat, 0 ≤ (wl_x200 q).toInt ∧ (wl_x200 q).toInt ≤ 14) → (∀ q : Nat, 0 ≤ (wb_x200 q).toInt ∧ (wb_x200 q).toInt ≤ 1) → (0 ≤ l6_x200.toInt ∧ l6_x200.toInt ≤ 8) → (0 ≤ l5_x200.toInt ∧ l5_x200.toInt ≤ 20) → (l5_x200.toInt ≤ 12 + l6_x200.toInt) → (8 - l6_x200.toInt < ((n9 : Nat) : Int)) → va_P (dC, dI) vwCl (WO hO aO kO hM hQ hw iO_answered iO_searched iO_searchedRelaxed iO_counted fO_countedCase gO_goalNumber gO_goalScale fO_start_x5 fO_column_x5 fO_chosen ++ (WM hM aM kM iM_stands iM_variables iM_rows iM_goals iM_differents iM_cases fM_from fM_to fM_whole fM_ways iM_plainRows fM_plainRow fM_kept fM_goalOver fM_goalUnder fM_goalMax fM_different ++ (WQ hQ aQ kQ hw fQ_inside_674 fQ_outside_674 fQ_shut_674 iQ_rows_674 iQ_allRows_674 iQ_columns_674 ++ (WW nW hw lw kw wl_x200 wb_x200 wG_x200)))) H → va_D A (WO hO aO kO hM hQ hw iO_answered iO_searched iO_searchedRelaxed iO_counted fO_countedCase gO_goalNumber gO_goalScale fO_start_x5 fO_column_x5 fO_chosen ++ (WM hM aM kM iM_stands iM_variables iM_rows iM_goals iM_differents iM_cases fM_from fM_to fM_whole fM_ways iM_plainRows fM_plainRow fM_kept fM_goalOver fM_goalUnder fM_goalMax fM_different ++ (WQ hQ aQ kQ hw fQ_inside_674 fQ_outside_674 fQ_shut_674 iQ_rows_674 iQ_allRows_674 iQ_columns_674 ++ (WW nW hw lw kw wl_x200 wb_x200 wG_x200)))) → va_S A s.heap H locs → lv_has ls 7 [(6, .int l6_x200), (5, .int l5_x200), (4, .int k0_j36), (3, .int l3_x5), (0, .ref (hO 0)), (1, .int p1), (2, .int p2)] → W p l e _ s m _ below meth c H locs 0 0 _ (F0 m 200 ls [])) => loop (9) wl_x130 wb_x130 wG_x130 0 l5_x130 _ _ _ b_wl_x130 b_wb_x130 (show 0 ≤ (0 : Int32).toInt ∧ (0 : Int32).toInt ≤ 8 from by decide) (b_l5_x130) (show l5_x130.toInt ≤ 12 + (0 : Int32).toInt from by have h9 : (0 : Int32).toInt = 0 := (by decide); omega) ((by have e9 : (0 : Int32).toInt = 0 := (by decide : (0 : Int32).toInt = 0); omega)) hP hD hS hl) ?_
            intro n9
            induction n9 with
            | zero => intro wl_x200 wb_x200 wG_x200 l6_x200 l5_x200 H locs ls b_wl_x200 b_wb_x200 b_l6_x200 b_l5_x200 hl2 hf9; exact False.elim (by omega)
            | succ n9 ihx200 =>
              intro wl_x200 wb_x200 wG_x200 l6_x200 l5_x200 H locs ls b_wl_x200 b_wb_x200 b_l6_x200 b_l5_x200 hl2 hfx200 hP hD hS hl
              refine lv_iload hx hb dX5_lay_200 (lv_at hl 0 rfl) ?_
              refine lv_aload_n hx hb dX5_lay_202 rfl (lv_at hl 4 rfl) ?_
              refine va_get (D := (dC, dI)) (ci := 5) (v := .ref (hM 0)) (C := RX5) (T := TX5) (N := 19) hx hb hts iwsMX5_lay_in5 hown hK hP 0 rfl rfl 0 (by decide) (hts (.fieldLink RX5 74 "OptimaWorks$Solver" "model" "LOptimaWorks$Model;") (by decide +kernel)) (fun _ h9 => h9) rfl dX5_lay_203 ?_
              refine va_get (D := (dC, dI)) (ci := 1) (v := .int iM_variables) (C := RX1) (T := TX1) (N := 17) hx hb hts iwsMX5_lay_in1 hown hK hP 11 rfl rfl 1 (by decide) (hts (.fieldLink RX5 112 "OptimaWorks$Model" "variables" "I") (by decide +kernel)) (fun _ h9 => h9) rfl dX5_lay_206 ?_
              refine lv_icmp_ge (tgt := 289) hx hb dX5_lay_209 (by decide) (fun c_209 => ?_) (fun c_209 => ?_)
              · have t_209 : l6_x200.toInt ≥ iM_variables.toInt := toI_ge c_209 rfl rfl
                refine lv_iconst (v := 0) hx hb dX5_lay_289 (by decide) ?_
                refine lv_istore hx hb dX5_lay_290 hl (by decide) rfl (fun ls (hl : lv_has ls _ ([(6, .int 0), (5, .int l5_x200), (4, .int k0_j36), (3, .int l3_x5), (0, .ref (hO 0)), (1, .int p1), (2, .int p2)])) => ?_)
                have hl : lv_has _ _ ([(6, .int 0), (5, .int l5_x200), (4, .int k0_j36), (3, .int l3_x5), (0, .ref (hO 0)), (1, .int p1), (2, .int p2)]) := lv_sub hl [0, 1, 2, 3, 4, 5, 6] rfl
                refine (fun (loop : ∀ (n9 : Nat) (wl_x292 : Nat → Int32) (wb_x292 : Nat → Int32) (wG_x292 : Nat → Nat → Int64) (l6_x292 : Int32) (H : Heap) (locs : List Loc) (ls : Array Slot), (∀ q : Nat, 0 ≤ (wl_x292 q).toInt ∧ (wl_x292 q).toInt ≤ 14) → (∀ q : Nat, 0 ≤ (wb_x292 q).toInt ∧ (wb_x292 q).toInt ≤ 1) → (0 ≤ l6_x292.toInt ∧ l6_x292.toInt ≤ 3) → (3 - l6_x292.toInt < ((n9 : Nat) : Int)) → va_P (dC, dI) vwCl (WO hO aO kO hM hQ hw iO_answered iO_searched iO_searchedRelaxed iO_counted fO_countedCase gO_goalNumber gO_goalScale fO_start_x5 fO_column_x5 fO_chosen ++ (WM hM aM kM iM_stands iM_variables iM_rows iM_goals iM_differents iM_cases fM_from fM_to fM_whole fM_ways iM_plainRows fM_plainRow fM_kept fM_goalOver fM_goalUnder fM_goalMax fM_different ++ (WQ hQ aQ kQ hw fQ_inside_674 fQ_outside_674 fQ_shut_674 iQ_rows_674 iQ_allRows_674 iQ_columns_674 ++ (WW nW hw lw kw wl_x292 wb_x292 wG_x292)))) H → va_D A (WO hO aO kO hM hQ hw iO_answered iO_searched iO_searchedRelaxed iO_counted fO_countedCase gO_goalNumber gO_goalScale fO_start_x5 fO_column_x5 fO_chosen ++ (WM hM aM kM iM_stands iM_variables iM_rows iM_goals iM_differents iM_cases fM_from fM_to fM_whole fM_ways iM_plainRows fM_plainRow fM_kept fM_goalOver fM_goalUnder fM_goalMax fM_different ++ (WQ hQ aQ kQ hw fQ_inside_674 fQ_outside_674 fQ_shut_674 iQ_rows_674 iQ_allRows_674 iQ_columns_674 ++ (WW nW hw lw kw wl_x292 wb_x292 wG_x292)))) → va_S A s.heap H locs → lv_has ls 7 [(6, .int l6_x292), (5, .int l5_x200), (4, .int k0_j36), (3, .int l3_x5), (0, .ref (hO 0)), (1, .int p1), (2, .int p2)] → W p l e _ s m _ below meth c H locs 0 0 _ (F0 m 292 ls [])) => loop (4) wl_x200 wb_x200 wG_x200 0 _ _ _ b_wl_x200 b_wb_x200 (show 0 ≤ (0 : Int32).toInt ∧ (0 : Int32).toInt ≤ 3 from by decide) ((by have e9 : (0 : Int32).toInt = 0 := (by decide : (0 : Int32).toInt = 0); omega)) hP hD hS hl) ?_
                intro n9
                induction n9 with
                | zero => intro wl_x292 wb_x292 wG_x292 l6_x292 H locs ls b_wl_x292 b_wb_x292 b_l6_x292 hf9; exact False.elim (by omega)
                | succ n9 ihx292 =>
                  intro wl_x292 wb_x292 wG_x292 l6_x292 H locs ls b_wl_x292 b_wb_x292 b_l6_x292 hfx292 hP hD hS hl
                  refine lv_iload hx hb dX5_lay_292 (lv_at hl 0 rfl) ?_
                  refine lv_iload_n hx hb dX5_lay_294 rfl (lv_at hl 6 rfl) ?_
                  refine lv_icmp_ge (tgt := 315) hx hb dX5_lay_295 (by decide) (fun c_295 => ?_) (fun c_295 => ?_)
                  · have t_295 : l6_x292.toInt ≥ p2.toInt := toI_ge c_295 rfl rfl
                    refine lv_iconst (v := 1) hx hb dX5_lay_315 (by decide) ?_
                    refine W.widen (k := 0) (n := 0) (by decide +kernel) (by decide +kernel) ?_
                    exact W.zret (v := 1) hx hb hr rfl (fun t9_ ht hW => ⟨⟨(1 : Int32), (fO_start_x5, fO_column_x5, fQ_inside_674, fQ_outside_674, fQ_shut_674, iQ_rows_674, iQ_allRows_674, iQ_columns_674, wl_x292, wb_x292, wG_x292), rfl, ⟨b_fO_column_x5, (by (try dsimp only); exact (b_iQ_rows_674)), (by (try dsimp only); exact (b_iQ_allRows_674)), (by (try dsimp only); exact (b_iQ_columns_674)), b_wl_x292, b_wb_x292, (by (try dsimp only); exact (by first | with_reducible assumption | omega | assumption)), (show 0 ≤ (1 : Int32).toInt ∧ (1 : Int32).toInt ≤ 1 from by decide), (by (try dsimp only); omega), (by (try dsimp only); omega)⟩, by rw [ht]; exact hP, hD⟩, hS.F ht⟩) hS.2.2 dX5_lay_316
                  · have t_295 : ¬ l6_x292.toInt ≥ p2.toInt := toI_nge c_295 rfl rfl
                    refine lv_aload_n hx hb dX5_lay_298 rfl (lv_at hl 4 rfl) ?_
                    refine lv_iload hx hb dX5_lay_299 (lv_at hl 1 rfl) ?_
                    refine lv_iload hx hb dX5_lay_301 (lv_at hl 0 rfl) ?_
                    refine lv_iadd hx hb dX5_lay_303 ?_
                    refine lv_topi (fun y965 hy965 => ?_)
                    obtain rfl : (iI (l5_x200.toInt + l6_x292.toInt)) = y965 := (hy965.trans (iI_add2 (iI_of _) (iI_of _))).symm
                    refine lv_iload hx hb dX5_lay_304 (lv_at hl 0 rfl) ?_
                    have hFc := allFree hD hS hA
                    refine va_callv (va_runV (As := [.int (iI (l5_x200.toInt + l6_x292.toInt)), .int l6_x292]) (rest := []) ⟨hx, hb, hml, hown, hts⟩ (m_X5_layGoal l dC dI hO aO kO hM hQ hw iO_answered iO_searched iO_searchedRelaxed iO_counted fO_countedCase gO_goalNumber gO_goalScale fO_start_x5 fO_column_x5 fO_chosen aM kM iM_stands iM_variables iM_rows iM_goals iM_differents iM_cases fM_from fM_to fM_whole fM_ways iM_plainRows fM_plainRow fM_kept fM_goalOver fM_goalUnder fM_goalMax fM_different aQ kQ fQ_inside_674 fQ_outside_674 fQ_shut_674 iQ_rows_674 iQ_allRows_674 iQ_columns_674 nW lw kw wl_x292 wb_x292 wG_x292 (iI (l5_x200.toInt + l6_x292.toInt)) l6_x292 (b_iO_answered) (b_iO_searched) (b_iO_searchedRelaxed) (b_iO_counted) b_fO_countedCase b_fO_column_x5 b_fO_chosen (b_iM_stands) (b_iM_variables) (b_iM_rows) (b_iM_goals) (b_iM_differents) (b_iM_cases) b_fM_ways (b_iM_plainRows) b_fM_plainRow (by first | with_reducible assumption | omega | assumption) (b_iQ_rows_674) (b_iQ_allRows_674) (b_iQ_columns_674) (by first | with_reducible assumption | omega | assumption) b_wl_x292 b_wb_x292 (iI_rng (Int.le_trans (by decide) (Int.add_le_add (b_l5_x200.1) (b_l6_x292.1))) (Int.le_trans (Int.add_le_add (b_l5_x200.2) (b_l6_x292.2)) (by decide)) (by decide) (by decide)) (by first | exact b_l6_x292 | with_reducible assumption | exact ⟨by omega, by omega⟩ | assumption) (by omega) (by omega) H.size) (cwV 2 hts gwsMX5_lay_3 rfl rfl rfl hd_yX5_layGoal_RX5 (by decide +kernel)) (fz_pre (va_recv hK hP (ci := 5) (q0 := 0) rfl rfl) hP hK hD) rfl rfl hl.1 rfl (lv_room (Nat.le_of_ble_eq_true rfl)) dX5_lay_306 (by decide +kernel)) hS (fun q _ h => hFc q h) hFc (fun u t9_ H locs ht hvm hw9 hB9 hz1 hk1 hS => ?_)
                    revert u hw9 hB9
                    refine fz_p3 ?_
                    intro wl_966 wb_966 wG_966 hw9 hB9
                    try dsimp only at hw9 hB9
                    revert hw9
                    refine fz_a2 ?_
                    intro b_wl_966 b_wb_966
                    have hP : va_P (dC, dI) vwCl (WO hO aO kO hM hQ hw iO_answered iO_searched iO_searchedRelaxed iO_counted fO_countedCase gO_goalNumber gO_goalScale fO_start_x5 fO_column_x5 fO_chosen ++ (WM hM aM kM iM_stands iM_variables iM_rows iM_goals iM_differents iM_cases fM_from fM_to fM_whole fM_ways iM_plainRows fM_plainRow fM_kept fM_goalOver fM_goalUnder fM_goalMax fM_different ++ (WQ hQ aQ kQ hw fQ_inside_674 fQ_outside_674 fQ_shut_674 iQ_rows_674 iQ_allRows_674 iQ_columns_674 ++ (WW nW hw lw kw wl_966 wb_966 wG_966)))) H := fz_P ht hB9.1
                    have hD : va_D A (WO hO aO kO hM hQ hw iO_answered iO_searched iO_searchedRelaxed iO_counted fO_countedCase gO_goalNumber gO_goalScale fO_start_x5 fO_column_x5 fO_chosen ++ (WM hM aM kM iM_stands iM_variables iM_rows iM_goals iM_differents iM_cases fM_from fM_to fM_whole fM_ways iM_plainRows fM_plainRow fM_kept fM_goalOver fM_goalUnder fM_goalMax fM_different ++ (WQ hQ aQ kQ hw fQ_inside_674 fQ_outside_674 fQ_shut_674 iQ_rows_674 iQ_allRows_674 iQ_columns_674 ++ (WW nW hw lw kw wl_966 wb_966 wG_966)))) := hB9.2.weaken (fun _ q _ h => hFc q.1 h)
                    refine lv_iinc (v := (iI (l6_x292.toInt + 1))) hx hb dX5_lay_309 hl (k := 0) rfl (iI_add2 (iI_of _) (by decide : (1 : Int32) = iI 1)) (by decide) rfl (fun ls (hl : lv_has ls _ ([(6, .int (iI (l6_x292.toInt + 1))), (5, .int l5_x200), (4, .int k0_j36), (3, .int l3_x5), (0, .ref (hO 0)), (1, .int p1), (2, .int p2)])) => ?_)
                    refine lv_goto (tgt := 292) hx hb dX5_lay_312 (by decide) ?_
                    have hl : lv_has _ _ ([(6, .int (iI (l6_x292.toInt + 1))), (5, .int l5_x200), (4, .int k0_j36), (3, .int l3_x5), (0, .ref (hO 0)), (1, .int p1), (2, .int p2)]) := lv_sub hl [0, 1, 2, 3, 4, 5, 6] rfl
                    exact ihx292 wl_966 wb_966 wG_966 (iI (l6_x292.toInt + 1)) _ _ _ b_wl_966 b_wb_966 (iI_rng (Int.le_trans (by decide) (Int.add_le_add (b_l6_x292.1) (Int.le_refl _))) (by omega) (by decide) (by decide)) (by have e9 : ((iI (l6_x292.toInt + 1))).toInt = (l6_x292.toInt + 1) := (iI_t (Int.le_trans (by decide) (Int.add_le_add (b_l6_x292.1) (Int.le_refl _))) (Int.le_trans (Int.add_le_add (b_l6_x292.2) (Int.le_refl _)) (by decide))); omega) hP hD hS hl
              · have t_209 : ¬ l6_x200.toInt ≥ iM_variables.toInt := toI_nge c_209 rfl rfl
                refine lv_aload_n hx hb dX5_lay_212 rfl (lv_at hl 4 rfl) ?_
                refine va_get (D := (dC, dI)) (ci := 5) (v := .ref (aO 4)) (C := RX5) (T := TX5) (N := 19) hx hb hts iwsMX5_lay_in5 hown hK hP 0 rfl rfl 10 (by decide) (hts (.fieldLink RX5 38 "OptimaWorks$Solver" "column" "[I") (by decide +kernel)) (fun _ h9 => h9) rfl dX5_lay_213 ?_
                refine lv_iload hx hb dX5_lay_216 (lv_at hl 0 rfl) ?_
                refine va_iald (cA := kO 4) (n := 8) (f := fO_column_x5) hx hb hK hP 5 4 rfl rfl (vp_in_iff.mpr ⟨b_l6_x200.1, (Int.lt_of_lt_of_le (Int.not_le.mp t_209) (Int.le_trans b_iM_variables.2 (by decide)))⟩) dX5_lay_218 ?_
                refine lv_topi (fun v967 hv967 => ?_)
                have b_v967 : (-1) ≤ v967.toInt ∧ v967.toInt ≤ 8 := by rw [hv967]; exact b_fO_column_x5 _
                have b1_v967 : v967 = fO_column_x5 (l6_x200).toNatClampNeg := hv967
                clear hv967
                refine lv_iconst (v := (-1)) hx hb dX5_lay_219 (by decide) ?_
                refine lv_icmp_eq (tgt := 283) hx hb dX5_lay_220 (by decide) (fun c_220 => ?_) (fun c_220 => ?_)
                · have t_220 : v967.toInt = (-1) := toI_eq c_220 rfl (by decide : ((-1) : Int32).toInt = (-1))
                  refine lv_iinc (v := (iI (l6_x200.toInt + 1))) hx hb dX5_lay_283 hl (k := 0) rfl (iI_add2 (iI_of _) (by decide : (1 : Int32) = iI 1)) (by decide) rfl (fun ls (hl : lv_has ls _ ([(6, .int (iI (l6_x200.toInt + 1))), (5, .int l5_x200), (4, .int k0_j36), (3, .int l3_x5), (0, .ref (hO 0)), (1, .int p1), (2, .int p2)])) => ?_)
                  refine lv_goto (tgt := 200) hx hb dX5_lay_286 (by decide) ?_
                  have hl : lv_has _ _ ([(6, .int (iI (l6_x200.toInt + 1))), (5, .int l5_x200), (4, .int k0_j36), (3, .int l3_x5), (0, .ref (hO 0)), (1, .int p1), (2, .int p2)]) := lv_sub hl [0, 1, 2, 3, 4, 5, 6] rfl
                  exact ihx200 wl_x200 wb_x200 wG_x200 (iI (l6_x200.toInt + 1)) l5_x200 _ _ _ b_wl_x200 b_wb_x200 (iI_rng (Int.le_trans (by decide) (Int.add_le_add (b_l6_x200.1) (Int.le_refl _))) (by omega) (by decide) (by decide)) (b_l5_x200) (show l5_x200.toInt ≤ 12 + (iI (l6_x200.toInt + 1)).toInt from by (try rw [iI_t (E := l3_x5.toInt + 1) (by omega) (by omega)]); (try rw [iI_t (E := l4_x5.toInt + 1) (by omega) (by omega)]); (try rw [iI_t (E := l5_x130.toInt + 1) (by omega) (by omega)]); (try rw [iI_t (E := l6_x130.toInt + 1) (by omega) (by omega)]); (try rw [iI_t (E := l5_x200.toInt + 1) (by omega) (by omega)]); (try rw [iI_t (E := l6_x200.toInt + 1) (by omega) (by omega)]); omega) (by have e9 : ((iI (l6_x200.toInt + 1))).toInt = (l6_x200.toInt + 1) := (iI_t (Int.le_trans (by decide) (Int.add_le_add (b_l6_x200.1) (Int.le_refl _))) (Int.le_trans (Int.add_le_add (b_l6_x200.2) (Int.le_refl _)) (by decide))); omega) hP hD hS hl
                · have t_220 : ¬ v967.toInt = (-1) := toI_neq c_220 rfl (by decide : ((-1) : Int32).toInt = (-1))
                  refine lv_aload_n hx hb dX5_lay_223 rfl (lv_at hl 4 rfl) ?_
                  refine va_get (D := (dC, dI)) (ci := 5) (v := .ref (hQ 0)) (C := RX5) (T := TX5) (N := 19) hx hb hts iwsMX5_lay_in5 hown hK hP 0 rfl rfl 1 (by decide) (hts (.fieldLink RX5 12 "OptimaWorks$Solver" "tableau" "LOptimaWorks$Tableau;") (by decide +kernel)) (fun _ h9 => h9) rfl dX5_lay_224 ?_
                  refine lv_iload hx hb dX5_lay_227 (lv_at hl 1 rfl) ?_
                  refine lv_iconst (v := 0) hx hb dX5_lay_229 (by decide) ?_
                  have p9 : List.Perm (WO hO aO kO hM hQ hw iO_answered iO_searched iO_searchedRelaxed iO_counted fO_countedCase gO_goalNumber gO_goalScale fO_start_x5 fO_column_x5 fO_chosen ++ (WM hM aM kM iM_stands iM_variables iM_rows iM_goals iM_differents iM_cases fM_from fM_to fM_whole fM_ways iM_plainRows fM_plainRow fM_kept fM_goalOver fM_goalUnder fM_goalMax fM_different ++ (WQ hQ aQ kQ hw fQ_inside_674 fQ_outside_674 fQ_shut_674 iQ_rows_674 iQ_allRows_674 iQ_columns_674 ++ (WW nW hw lw kw wl_x200 wb_x200 wG_x200)))) ((WQ hQ aQ kQ hw fQ_inside_674 fQ_outside_674 fQ_shut_674 iQ_rows_674 iQ_allRows_674 iQ_columns_674 ++ (WW nW hw lw kw wl_x200 wb_x200 wG_x200)) ++ (WO hO aO kO hM hQ hw iO_answered iO_searched iO_searchedRelaxed iO_counted fO_countedCase gO_goalNumber gO_goalScale fO_start_x5 fO_column_x5 fO_chosen ++ (WM hM aM kM iM_stands iM_variables iM_rows iM_goals iM_differents iM_cases fM_from fM_to fM_whole fM_ways iM_plainRows fM_plainRow fM_kept fM_goalOver fM_goalUnder fM_goalMax fM_different))) := ((((List.Perm.append_left _ ((List.Perm.append_left _ (List.perm_append_comm)).trans (List.perm_append_comm_assoc _ _ _))).trans (List.perm_append_comm_assoc _ _ _)).trans ((List.Perm.append_left _ ((List.Perm.append_left _ (List.perm_append_comm)).trans (List.perm_append_comm_assoc _ _ _))).trans (List.perm_append_comm_assoc _ _ _))).trans (List.Perm.of_eq (by simp only [List.append_assoc])))
                  have hPc := hP.mem (fun q h => p9.mem_iff.mpr (List.mem_append_left _ h))
                  have hDc := (hD.perm p9).left
                  have hKc : va_K (dC, dI) vwCl (tQ kQ ++ (tW kw)) _ := hK.sub [20, 21, 22, 23, 24] rfl
                  have hFc := freeG p9 hD hS hA
                  refine va_callr (va_runV (As := [.int l5_x200, .int 0]) (rest := []) ⟨hx, hb, hml, hown, hts⟩ (m_X6_cellAt l dC dI hQ aQ kQ hw fQ_inside_674 fQ_outside_674 fQ_shut_674 iQ_rows_674 iQ_allRows_674 iQ_columns_674 nW lw kw wl_x200 wb_x200 wG_x200 l5_x200 0 (b_iQ_rows_674) (b_iQ_allRows_674) (b_iQ_columns_674) (by first | with_reducible assumption | omega | assumption) b_wl_x200 b_wb_x200 (⟨b_l5_x200.1, Int.le_trans b_l5_x200.2 (by decide)⟩) (show 0 ≤ (0 : Int32).toInt ∧ (0 : Int32).toInt ≤ 40 from by decide) (by omega) ((by have h9 := ix_small (i := l5_x200.toInt) (j := 0) (c := iQ_columns_674.toInt) (by omega) (by omega) (by omega) (by omega) (by omega) (by omega); have h8 : (0 : Int32).toInt = 0 := (by decide); rw [h8]; exact h9)) H.size) (cwV 2 hts gwsMX5_lay_1 rfl rfl rfl hd_yX6_cellAt_RX6 (by decide +kernel)) (fz_pre (va_recv hK hP (ci := 6) (q0 := 22) rfl rfl) hPc hKc hDc) rfl rfl hl.1 rfl (lv_room (Nat.le_of_ble_eq_true rfl)) dX5_lay_230 (by decide +kernel)) hS (fun q _ h => hFc q h) hFc (fun kR_968 ra968 t9_ H locs ht hvm hw9 hB9 hz1 hk1 hS => ?_)
                  revert hB9
                  refine fz_a2 ?_
                  intro hra hB9
                  subst hra
                  have f968_0 := hw9
                  try dsimp only at f968_0
                  have p8 : List.Perm (WO hO aO kO hM hQ hw iO_answered iO_searched iO_searchedRelaxed iO_counted fO_countedCase gO_goalNumber gO_goalScale fO_start_x5 fO_column_x5 fO_chosen ++ (WM hM aM kM iM_stands iM_variables iM_rows iM_goals iM_differents iM_cases fM_from fM_to fM_whole fM_ways iM_plainRows fM_plainRow fM_kept fM_goalOver fM_goalUnder fM_goalMax fM_different ++ (WQ hQ aQ kQ hw fQ_inside_674 fQ_outside_674 fQ_shut_674 iQ_rows_674 iQ_allRows_674 iQ_columns_674 ++ (WW nW hw lw kw wl_x200 wb_x200 wG_x200)))) ((WQ hQ aQ kQ hw fQ_inside_674 fQ_outside_674 fQ_shut_674 iQ_rows_674 iQ_allRows_674 iQ_columns_674 ++ (WW nW hw lw kw wl_x200 wb_x200 wG_x200)) ++ (WO hO aO kO hM hQ hw iO_answered iO_searched iO_searchedRelaxed iO_counted fO_countedCase gO_goalNumber gO_goalScale fO_start_x5 fO_column_x5 fO_chosen ++ (WM hM aM kM iM_stands iM_variables iM_rows iM_goals iM_differents iM_cases fM_from fM_to fM_whole fM_ways iM_plainRows fM_plainRow fM_kept fM_goalOver fM_goalUnder fM_goalMax fM_different))) := ((((List.Perm.append_left _ ((List.Perm.append_left _ (List.perm_append_comm)).trans (List.perm_append_comm_assoc _ _ _))).trans (List.perm_append_comm_assoc _ _ _)).trans ((List.Perm.append_left _ ((List.Perm.append_left _ (List.perm_append_comm)).trans (List.perm_append_comm_assoc _ _ _))).trans (List.perm_append_comm_assoc _ _ _))).trans (List.Perm.of_eq (by simp only [List.append_assoc])))
                  obtain ⟨hP, hD⟩ := frameG p9 p8 hP hD hk1 hFc (fz_P ht hB9.1) hB9.2
                  have hP : va_P (dC, dI) vwCl (WO hO aO kO hM hQ hw iO_answered iO_searched iO_searchedRelaxed iO_counted fO_countedCase gO_goalNumber gO_goalScale fO_start_x5 fO_column_x5 fO_chosen ++ (WM hM aM kM iM_stands iM_variables iM_rows iM_goals iM_differents iM_cases fM_from fM_to fM_whole fM_ways iM_plainRows fM_plainRow fM_kept fM_goalOver fM_goalUnder fM_goalMax fM_different ++ (WQ hQ aQ kQ hw fQ_inside_674 fQ_outside_674 fQ_shut_674 iQ_rows_674 iQ_allRows_674 iQ_columns_674 ++ (WW nW hw lw kw wl_x200 wb_x200 wG_x200)))) H := hP
                  have hD : va_D A (WO hO aO kO hM hQ hw iO_answered iO_searched iO_searchedRelaxed iO_counted fO_countedCase gO_goalNumber gO_goalScale fO_start_x5 fO_column_x5 fO_chosen ++ (WM hM aM kM iM_stands iM_variables iM_rows iM_goals iM_differents iM_cases fM_from fM_to fM_whole fM_ways iM_plainRows fM_plainRow fM_kept fM_goalOver fM_goalUnder fM_goalMax fM_different ++ (WQ hQ aQ kQ hw fQ_inside_674 fQ_outside_674 fQ_shut_674 iQ_rows_674 iQ_allRows_674 iQ_columns_674 ++ (WW nW hw lw kw wl_x200 wb_x200 wG_x200)))) := hD
                  refine lv_aload_n hx hb dX5_lay_233 rfl (lv_at hl 4 rfl) ?_
                  refine va_get (D := (dC, dI)) (ci := 5) (v := .ref (hM 0)) (C := RX5) (T := TX5) (N := 19) hx hb hts iwsMX5_lay_in5 hown hK hP 0 rfl rfl 0 (by decide) (hts (.fieldLink RX5 74 "OptimaWorks$Solver" "model" "LOptimaWorks$Model;") (by decide +kernel)) (fun _ h9 => h9) rfl dX5_lay_234 ?_
                  refine va_get (D := (dC, dI)) (ci := 1) (v := .ref (aM 1)) (C := RX1) (T := TX1) (N := 17) hx hb hts iwsMX5_lay_in1 hown hK hP 11 rfl rfl 7 (by decide) (hts (.fieldLink RX5 181 "OptimaWorks$Model" "to" "[I") (by decide +kernel)) (fun _ h9 => h9) rfl dX5_lay_237 ?_
                  refine lv_iload hx hb dX5_lay_240 (lv_at hl 0 rfl) ?_
                  refine va_iald (cA := kM 1) (n := 8) (f := fM_to) hx hb hK hP 13 11 rfl rfl (vp_in_iff.mpr ⟨b_l6_x200.1, (Int.lt_of_lt_of_le (Int.not_le.mp t_209) (Int.le_trans b_iM_variables.2 (by decide)))⟩) dX5_lay_242 ?_
                  refine lv_topi (fun v969 hv969 => ?_)
                  clear hv969
                  refine lv_aload_n hx hb dX5_lay_243 rfl (lv_at hl 4 rfl) ?_
                  refine va_get (D := (dC, dI)) (ci := 5) (v := .ref (hM 0)) (C := RX5) (T := TX5) (N := 19) hx hb hts iwsMX5_lay_in5 hown hK hP 0 rfl rfl 0 (by decide) (hts (.fieldLink RX5 74 "OptimaWorks$Solver" "model" "LOptimaWorks$Model;") (by decide +kernel)) (fun _ h9 => h9) rfl dX5_lay_244 ?_
                  refine va_get (D := (dC, dI)) (ci := 1) (v := .ref (aM 0)) (C := RX1) (T := TX1) (N := 17) hx hb hts iwsMX5_lay_in1 hown hK hP 11 rfl rfl 6 (by decide) (hts (.fieldLink RX5 150 "OptimaWorks$Model" "from" "[I") (by decide +kernel)) (fun _ h9 => h9) rfl dX5_lay_247 ?_
                  refine lv_iload hx hb dX5_lay_250 (lv_at hl 0 rfl) ?_
                  refine va_iald (cA := kM 0) (n := 8) (f := fM_from) hx hb hK hP 12 10 rfl rfl (vp_in_iff.mpr ⟨b_l6_x200.1, (Int.lt_of_lt_of_le (Int.not_le.mp t_209) (Int.le_trans b_iM_variables.2 (by decide)))⟩) dX5_lay_252 ?_
                  refine lv_topi (fun v970 hv970 => ?_)
                  clear hv970
                  refine lv_isub hx hb dX5_lay_253 ?_
                  refine lv_topi (fun y971 hy971 => ?_)
                  obtain rfl : (iI (v969.toInt - v970.toInt)) = y971 := (hy971.trans (iI_sub2 (iI_of _) (iI_of _))).symm
                  refine lv_i2l hx hb dX5_lay_254 rfl ?_
                  refine lv_topl (fun v972 hv972 => ?_)
                  clear hv972
                  have p9 : List.Perm (WO hO aO kO hM hQ hw iO_answered iO_searched iO_searchedRelaxed iO_counted fO_countedCase gO_goalNumber gO_goalScale fO_start_x5 fO_column_x5 fO_chosen ++ (WM hM aM kM iM_stands iM_variables iM_rows iM_goals iM_differents iM_cases fM_from fM_to fM_whole fM_ways iM_plainRows fM_plainRow fM_kept fM_goalOver fM_goalUnder fM_goalMax fM_different ++ (WQ hQ aQ kQ hw fQ_inside_674 fQ_outside_674 fQ_shut_674 iQ_rows_674 iQ_allRows_674 iQ_columns_674 ++ (WW nW hw lw kw wl_x200 wb_x200 wG_x200)))) ((WW nW hw lw kw wl_x200 wb_x200 wG_x200) ++ (WO hO aO kO hM hQ hw iO_answered iO_searched iO_searchedRelaxed iO_counted fO_countedCase gO_goalNumber gO_goalScale fO_start_x5 fO_column_x5 fO_chosen ++ (WM hM aM kM iM_stands iM_variables iM_rows iM_goals iM_differents iM_cases fM_from fM_to fM_whole fM_ways iM_plainRows fM_plainRow fM_kept fM_goalOver fM_goalUnder fM_goalMax fM_different ++ (WQ hQ aQ kQ hw fQ_inside_674 fQ_outside_674 fQ_shut_674 iQ_rows_674 iQ_allRows_674 iQ_columns_674)))) := ((List.Perm.append_left _ ((List.Perm.append_left _ (List.perm_append_comm)).trans (List.perm_append_comm_assoc _ _ _))).trans (List.perm_append_comm_assoc _ _ _))
                  have hPc := hP.mem (fun q h => p9.mem_iff.mpr (List.mem_append_left _ h))
                  have hDc := (hD.perm p9).left
                  have hKc : va_K (dC, dI) vwCl (tW kw) _ := hK.sub [24] rfl
                  have hFc := freeG p9 hD hS hA
                  refine va_callv (va_runV (As := [.long v972]) (rest := []) ⟨hx, hb, hml, hown, hts⟩ (m_X8_setLong l dC dI nW hw lw kw wl_x200 wb_x200 wG_x200 kR_968 v972 b_wl_x200 b_wb_x200 (by first | with_reducible assumption | omega | (rw [iI_t (by omega) (by omega)]; omega) | decide | assumption) H.size) (cwV 1 hts gwsMX5_lay_2 rfl rfl rfl hd_yX8_setLong_RX8 (by decide +kernel)) (fz_pre (va_recv hK hP (ci := 8) (q0 := 11 + (11 + (5 + (kR_968)))) rfl (apR rfl (apR rfl (apR rfl (WW_o (by omega)))))) hPc hKc hDc) rfl rfl hl.1 rfl (lv_room (Nat.le_of_ble_eq_true rfl)) dX5_lay_255 (by decide +kernel)) hS (fun q _ h => hFc q h) hFc (fun u t9_ H locs ht hvm hw9 hB9 hz1 hk1 hS => ?_)
                  revert u hw9 hB9
                  refine fz_p3 ?_
                  intro wl_973 wb_973 wG_973 hw9 hB9
                  try dsimp only at hw9 hB9
                  revert hw9
                  refine fz_a2 ?_
                  intro b_wl_973 b_wb_973
                  have p8 : List.Perm (WO hO aO kO hM hQ hw iO_answered iO_searched iO_searchedRelaxed iO_counted fO_countedCase gO_goalNumber gO_goalScale fO_start_x5 fO_column_x5 fO_chosen ++ (WM hM aM kM iM_stands iM_variables iM_rows iM_goals iM_differents iM_cases fM_from fM_to fM_whole fM_ways iM_plainRows fM_plainRow fM_kept fM_goalOver fM_goalUnder fM_goalMax fM_different ++ (WQ hQ aQ kQ hw fQ_inside_674 fQ_outside_674 fQ_shut_674 iQ_rows_674 iQ_allRows_674 iQ_columns_674 ++ (WW nW hw lw kw wl_973 wb_973 wG_973)))) ((WW nW hw lw kw wl_973 wb_973 wG_973) ++ (WO hO aO kO hM hQ hw iO_answered iO_searched iO_searchedRelaxed iO_counted fO_countedCase gO_goalNumber gO_goalScale fO_start_x5 fO_column_x5 fO_chosen ++ (WM hM aM kM iM_stands iM_variables iM_rows iM_goals iM_differents iM_cases fM_from fM_to fM_whole fM_ways iM_plainRows fM_plainRow fM_kept fM_goalOver fM_goalUnder fM_goalMax fM_different ++ (WQ hQ aQ kQ hw fQ_inside_674 fQ_outside_674 fQ_shut_674 iQ_rows_674 iQ_allRows_674 iQ_columns_674)))) := ((List.Perm.append_left _ ((List.Perm.append_left _ (List.perm_append_comm)).trans (List.perm_append_comm_assoc _ _ _))).trans (List.perm_append_comm_assoc _ _ _))
                  obtain ⟨hP, hD⟩ := frameG p9 p8 hP hD hk1 hFc (fz_P ht hB9.1) hB9.2
                  have hP : va_P (dC, dI) vwCl (WO hO aO kO hM hQ hw iO_answered iO_searched iO_searchedRelaxed iO_counted fO_countedCase gO_goalNumber gO_goalScale fO_start_x5 fO_column_x5 fO_chosen ++ (WM hM aM kM iM_stands iM_variables iM_rows iM_goals iM_differents iM_cases fM_from fM_to fM_whole fM_ways iM_plainRows fM_plainRow fM_kept fM_goalOver fM_goalUnder fM_goalMax fM_different ++ (WQ hQ aQ kQ hw fQ_inside_674 fQ_outside_674 fQ_shut_674 iQ_rows_674 iQ_allRows_674 iQ_columns_674 ++ (WW nW hw lw kw wl_973 wb_973 wG_973)))) H := hP
                  have hD : va_D A (WO hO aO kO hM hQ hw iO_answered iO_searched iO_searchedRelaxed iO_counted fO_countedCase gO_goalNumber gO_goalScale fO_start_x5 fO_column_x5 fO_chosen ++ (WM hM aM kM iM_stands iM_variables iM_rows iM_goals iM_differents iM_cases fM_from fM_to fM_whole fM_ways iM_plainRows fM_plainRow fM_kept fM_goalOver fM_goalUnder fM_goalMax fM_different ++ (WQ hQ aQ kQ hw fQ_inside_674 fQ_outside_674 fQ_shut_674 iQ_rows_674 iQ_allRows_674 iQ_columns_674 ++ (WW nW hw lw kw wl_973 wb_973 wG_973)))) := hD
                  refine lv_aload_n hx hb dX5_lay_258 rfl (lv_at hl 4 rfl) ?_
                  refine va_get (D := (dC, dI)) (ci := 5) (v := .ref (hQ 0)) (C := RX5) (T := TX5) (N := 19) hx hb hts iwsMX5_lay_in5 hown hK hP 0 rfl rfl 1 (by decide) (hts (.fieldLink RX5 12 "OptimaWorks$Solver" "tableau" "LOptimaWorks$Tableau;") (by decide +kernel)) (fun _ h9 => h9) rfl dX5_lay_259 ?_
                  refine lv_iload hx hb dX5_lay_262 (lv_at hl 1 rfl) ?_
                  refine lv_aload_n hx hb dX5_lay_264 rfl (lv_at hl 4 rfl) ?_
                  refine va_get (D := (dC, dI)) (ci := 5) (v := .ref (aO 4)) (C := RX5) (T := TX5) (N := 19) hx hb hts iwsMX5_lay_in5 hown hK hP 0 rfl rfl 10 (by decide) (hts (.fieldLink RX5 38 "OptimaWorks$Solver" "column" "[I") (by decide +kernel)) (fun _ h9 => h9) rfl dX5_lay_265 ?_
                  refine lv_iload hx hb dX5_lay_268 (lv_at hl 0 rfl) ?_
                  refine va_iald (cA := kO 4) (n := 8) (f := fO_column_x5) hx hb hK hP 5 4 rfl rfl (vp_in_iff.mpr ⟨b_l6_x200.1, (Int.lt_of_lt_of_le (Int.not_le.mp t_209) (Int.le_trans b_iM_variables.2 (by decide)))⟩) dX5_lay_270 ?_
                  refine lv_topi (fun v974 hv974 => ?_)
                  have b_v974 : (-1) ≤ v974.toInt ∧ v974.toInt ≤ 8 := by rw [hv974]; exact b_fO_column_x5 _
                  have b1_v974 : v974 = fO_column_x5 (l6_x200).toNatClampNeg := hv974
                  have b2_v974 : v974.toInt = v967.toInt := by rw [hv974]; exact (congrArg Int32.toInt b1_v967).symm
                  clear hv974
                  have p9 : List.Perm (WO hO aO kO hM hQ hw iO_answered iO_searched iO_searchedRelaxed iO_counted fO_countedCase gO_goalNumber gO_goalScale fO_start_x5 fO_column_x5 fO_chosen ++ (WM hM aM kM iM_stands iM_variables iM_rows iM_goals iM_differents iM_cases fM_from fM_to fM_whole fM_ways iM_plainRows fM_plainRow fM_kept fM_goalOver fM_goalUnder fM_goalMax fM_different ++ (WQ hQ aQ kQ hw fQ_inside_674 fQ_outside_674 fQ_shut_674 iQ_rows_674 iQ_allRows_674 iQ_columns_674 ++ (WW nW hw lw kw wl_973 wb_973 wG_973)))) ((WQ hQ aQ kQ hw fQ_inside_674 fQ_outside_674 fQ_shut_674 iQ_rows_674 iQ_allRows_674 iQ_columns_674 ++ (WW nW hw lw kw wl_973 wb_973 wG_973)) ++ (WO hO aO kO hM hQ hw iO_answered iO_searched iO_searchedRelaxed iO_counted fO_countedCase gO_goalNumber gO_goalScale fO_start_x5 fO_column_x5 fO_chosen ++ (WM hM aM kM iM_stands iM_variables iM_rows iM_goals iM_differents iM_cases fM_from fM_to fM_whole fM_ways iM_plainRows fM_plainRow fM_kept fM_goalOver fM_goalUnder fM_goalMax fM_different))) := ((((List.Perm.append_left _ ((List.Perm.append_left _ (List.perm_append_comm)).trans (List.perm_append_comm_assoc _ _ _))).trans (List.perm_append_comm_assoc _ _ _)).trans ((List.Perm.append_left _ ((List.Perm.append_left _ (List.perm_append_comm)).trans (List.perm_append_comm_assoc _ _ _))).trans (List.perm_append_comm_assoc _ _ _))).trans (List.Perm.of_eq (by simp only [List.append_assoc])))
                  have hPc := hP.mem (fun q h => p9.mem_iff.mpr (List.mem_append_left _ h))
                  have hDc := (hD.perm p9).left
                  have hKc : va_K (dC, dI) vwCl (tQ kQ ++ (tW kw)) _ := hK.sub [20, 21, 22, 23, 24] rfl
                  have hFc := freeG p9 hD hS hA
                  refine va_callr (va_runV (As := [.int l5_x200, .int v974]) (rest := []) ⟨hx, hb, hml, hown, hts⟩ (m_X6_cellAt l dC dI hQ aQ kQ hw fQ_inside_674 fQ_outside_674 fQ_shut_674 iQ_rows_674 iQ_allRows_674 iQ_columns_674 nW lw kw wl_973 wb_973 wG_973 l5_x200 v974 (b_iQ_rows_674) (b_iQ_allRows_674) (b_iQ_columns_674) (by first | with_reducible assumption | omega | assumption) b_wl_973 b_wb_973 (⟨b_l5_x200.1, Int.le_trans b_l5_x200.2 (by decide)⟩) (by first | exact b_v974 | with_reducible assumption | exact ⟨by omega, by omega⟩ | assumption) (by omega) ((by have h9 := ix_small (i := l5_x200.toInt) (j := v974.toInt) (c := iQ_columns_674.toInt) (by omega) (by omega) (by omega) (by omega) (by omega) (by omega); exact h9)) H.size) (cwV 2 hts gwsMX5_lay_1 rfl rfl rfl hd_yX6_cellAt_RX6 (by decide +kernel)) (fz_pre (va_recv hK hP (ci := 6) (q0 := 22) rfl rfl) hPc hKc hDc) rfl rfl hl.1 rfl (lv_room (Nat.le_of_ble_eq_true rfl)) dX5_lay_271 (by decide +kernel)) hS (fun q _ h => hFc q h) hFc (fun kR_975 ra975 t9_ H locs ht hvm hw9 hB9 hz1 hk1 hS => ?_)
                  revert hB9
                  refine fz_a2 ?_
                  intro hra hB9
                  subst hra
                  have f975_0 := hw9
                  try dsimp only at f975_0
                  have p8 : List.Perm (WO hO aO kO hM hQ hw iO_answered iO_searched iO_searchedRelaxed iO_counted fO_countedCase gO_goalNumber gO_goalScale fO_start_x5 fO_column_x5 fO_chosen ++ (WM hM aM kM iM_stands iM_variables iM_rows iM_goals iM_differents iM_cases fM_from fM_to fM_whole fM_ways iM_plainRows fM_plainRow fM_kept fM_goalOver fM_goalUnder fM_goalMax fM_different ++ (WQ hQ aQ kQ hw fQ_inside_674 fQ_outside_674 fQ_shut_674 iQ_rows_674 iQ_allRows_674 iQ_columns_674 ++ (WW nW hw lw kw wl_973 wb_973 wG_973)))) ((WQ hQ aQ kQ hw fQ_inside_674 fQ_outside_674 fQ_shut_674 iQ_rows_674 iQ_allRows_674 iQ_columns_674 ++ (WW nW hw lw kw wl_973 wb_973 wG_973)) ++ (WO hO aO kO hM hQ hw iO_answered iO_searched iO_searchedRelaxed iO_counted fO_countedCase gO_goalNumber gO_goalScale fO_start_x5 fO_column_x5 fO_chosen ++ (WM hM aM kM iM_stands iM_variables iM_rows iM_goals iM_differents iM_cases fM_from fM_to fM_whole fM_ways iM_plainRows fM_plainRow fM_kept fM_goalOver fM_goalUnder fM_goalMax fM_different))) := ((((List.Perm.append_left _ ((List.Perm.append_left _ (List.perm_append_comm)).trans (List.perm_append_comm_assoc _ _ _))).trans (List.perm_append_comm_assoc _ _ _)).trans ((List.Perm.append_left _ ((List.Perm.append_left _ (List.perm_append_comm)).trans (List.perm_append_comm_assoc _ _ _))).trans (List.perm_append_comm_assoc _ _ _))).trans (List.Perm.of_eq (by simp only [List.append_assoc])))
                  obtain ⟨hP, hD⟩ := frameG p9 p8 hP hD hk1 hFc (fz_P ht hB9.1) hB9.2
                  have hP : va_P (dC, dI) vwCl (WO hO aO kO hM hQ hw iO_answered iO_searched iO_searchedRelaxed iO_counted fO_countedCase gO_goalNumber gO_goalScale fO_start_x5 fO_column_x5 fO_chosen ++ (WM hM aM kM iM_stands iM_variables iM_rows iM_goals iM_differents iM_cases fM_from fM_to fM_whole fM_ways iM_plainRows fM_plainRow fM_kept fM_goalOver fM_goalUnder fM_goalMax fM_different ++ (WQ hQ aQ kQ hw fQ_inside_674 fQ_outside_674 fQ_shut_674 iQ_rows_674 iQ_allRows_674 iQ_columns_674 ++ (WW nW hw lw kw wl_973 wb_973 wG_973)))) H := hP
                  have hD : va_D A (WO hO aO kO hM hQ hw iO_answered iO_searched iO_searchedRelaxed iO_counted fO_countedCase gO_goalNumber gO_goalScale fO_start_x5 fO_column_x5 fO_chosen ++ (WM hM aM kM iM_stands iM_variables iM_rows iM_goals iM_differents iM_cases fM_from fM_to fM_whole fM_ways iM_plainRows fM_plainRow fM_kept fM_goalOver fM_goalUnder fM_goalMax fM_different ++ (WQ hQ aQ kQ hw fQ_inside_674 fQ_outside_674 fQ_shut_674 iQ_rows_674 iQ_allRows_674 iQ_columns_674 ++ (WW nW hw lw kw wl_973 wb_973 wG_973)))) := hD
                  refine lv_ldc2 (v := (-1)) hx hb hown (hts (.constantLong RX5 188 (-1)) (by decide +kernel)) dX5_lay_274 ?_
                  have p9 : List.Perm (WO hO aO kO hM hQ hw iO_answered iO_searched iO_searchedRelaxed iO_counted fO_countedCase gO_goalNumber gO_goalScale fO_start_x5 fO_column_x5 fO_chosen ++ (WM hM aM kM iM_stands iM_variables iM_rows iM_goals iM_differents iM_cases fM_from fM_to fM_whole fM_ways iM_plainRows fM_plainRow fM_kept fM_goalOver fM_goalUnder fM_goalMax fM_different ++ (WQ hQ aQ kQ hw fQ_inside_674 fQ_outside_674 fQ_shut_674 iQ_rows_674 iQ_allRows_674 iQ_columns_674 ++ (WW nW hw lw kw wl_973 wb_973 wG_973)))) ((WW nW hw lw kw wl_973 wb_973 wG_973) ++ (WO hO aO kO hM hQ hw iO_answered iO_searched iO_searchedRelaxed iO_counted fO_countedCase gO_goalNumber gO_goalScale fO_start_x5 fO_column_x5 fO_chosen ++ (WM hM aM kM iM_stands iM_variables iM_rows iM_goals iM_differents iM_cases fM_from fM_to fM_whole fM_ways iM_plainRows fM_plainRow fM_kept fM_goalOver fM_goalUnder fM_goalMax fM_different ++ (WQ hQ aQ kQ hw fQ_inside_674 fQ_outside_674 fQ_shut_674 iQ_rows_674 iQ_allRows_674 iQ_columns_674)))) := ((List.Perm.append_left _ ((List.Perm.append_left _ (List.perm_append_comm)).trans (List.perm_append_comm_assoc _ _ _))).trans (List.perm_append_comm_assoc _ _ _))
                  have hPc := hP.mem (fun q h => p9.mem_iff.mpr (List.mem_append_left _ h))
                  have hDc := (hD.perm p9).left
                  have hKc : va_K (dC, dI) vwCl (tW kw) _ := hK.sub [24] rfl
                  have hFc := freeG p9 hD hS hA
                  refine va_callv (va_runV (As := [.long (-1)]) (rest := []) ⟨hx, hb, hml, hown, hts⟩ (m_X8_setLong l dC dI nW hw lw kw wl_973 wb_973 wG_973 kR_975 (-1) b_wl_973 b_wb_973 (by first | with_reducible assumption | omega | (rw [iI_t (by omega) (by omega)]; omega) | decide | assumption) H.size) (cwV 1 hts gwsMX5_lay_2 rfl rfl rfl hd_yX8_setLong_RX8 (by decide +kernel)) (fz_pre (va_recv hK hP (ci := 8) (q0 := 11 + (11 + (5 + (kR_975)))) rfl (apR rfl (apR rfl (apR rfl (WW_o (by omega)))))) hPc hKc hDc) rfl rfl hl.1 rfl (lv_room (Nat.le_of_ble_eq_true rfl)) dX5_lay_277 (by decide +kernel)) hS (fun q _ h => hFc q h) hFc (fun u t9_ H locs ht hvm hw9 hB9 hz1 hk1 hS => ?_)
                  revert u hw9 hB9
                  refine fz_p3 ?_
                  intro wl_976 wb_976 wG_976 hw9 hB9
                  try dsimp only at hw9 hB9
                  revert hw9
                  refine fz_a2 ?_
                  intro b_wl_976 b_wb_976
                  have p8 : List.Perm (WO hO aO kO hM hQ hw iO_answered iO_searched iO_searchedRelaxed iO_counted fO_countedCase gO_goalNumber gO_goalScale fO_start_x5 fO_column_x5 fO_chosen ++ (WM hM aM kM iM_stands iM_variables iM_rows iM_goals iM_differents iM_cases fM_from fM_to fM_whole fM_ways iM_plainRows fM_plainRow fM_kept fM_goalOver fM_goalUnder fM_goalMax fM_different ++ (WQ hQ aQ kQ hw fQ_inside_674 fQ_outside_674 fQ_shut_674 iQ_rows_674 iQ_allRows_674 iQ_columns_674 ++ (WW nW hw lw kw wl_976 wb_976 wG_976)))) ((WW nW hw lw kw wl_976 wb_976 wG_976) ++ (WO hO aO kO hM hQ hw iO_answered iO_searched iO_searchedRelaxed iO_counted fO_countedCase gO_goalNumber gO_goalScale fO_start_x5 fO_column_x5 fO_chosen ++ (WM hM aM kM iM_stands iM_variables iM_rows iM_goals iM_differents iM_cases fM_from fM_to fM_whole fM_ways iM_plainRows fM_plainRow fM_kept fM_goalOver fM_goalUnder fM_goalMax fM_different ++ (WQ hQ aQ kQ hw fQ_inside_674 fQ_outside_674 fQ_shut_674 iQ_rows_674 iQ_allRows_674 iQ_columns_674)))) := ((List.Perm.append_left _ ((List.Perm.append_left _ (List.perm_append_comm)).trans (List.perm_append_comm_assoc _ _ _))).trans (List.perm_append_comm_assoc _ _ _))
                  obtain ⟨hP, hD⟩ := frameG p9 p8 hP hD hk1 hFc (fz_P ht hB9.1) hB9.2
                  have hP : va_P (dC, dI) vwCl (WO hO aO kO hM hQ hw iO_answered iO_searched iO_searchedRelaxed iO_counted fO_countedCase gO_goalNumber gO_goalScale fO_start_x5 fO_column_x5 fO_chosen ++ (WM hM aM kM iM_stands iM_variables iM_rows iM_goals iM_differents iM_cases fM_from fM_to fM_whole fM_ways iM_plainRows fM_plainRow fM_kept fM_goalOver fM_goalUnder fM_goalMax fM_different ++ (WQ hQ aQ kQ hw fQ_inside_674 fQ_outside_674 fQ_shut_674 iQ_rows_674 iQ_allRows_674 iQ_columns_674 ++ (WW nW hw lw kw wl_976 wb_976 wG_976)))) H := hP
                  have hD : va_D A (WO hO aO kO hM hQ hw iO_answered iO_searched iO_searchedRelaxed iO_counted fO_countedCase gO_goalNumber gO_goalScale fO_start_x5 fO_column_x5 fO_chosen ++ (WM hM aM kM iM_stands iM_variables iM_rows iM_goals iM_differents iM_cases fM_from fM_to fM_whole fM_ways iM_plainRows fM_plainRow fM_kept fM_goalOver fM_goalUnder fM_goalMax fM_different ++ (WQ hQ aQ kQ hw fQ_inside_674 fQ_outside_674 fQ_shut_674 iQ_rows_674 iQ_allRows_674 iQ_columns_674 ++ (WW nW hw lw kw wl_976 wb_976 wG_976)))) := hD
                  refine lv_iinc (v := (iI (l5_x200.toInt + 1))) hx hb dX5_lay_280 hl (k := 1) rfl (iI_add2 (iI_of _) (by decide : (1 : Int32) = iI 1)) (by decide) rfl (fun ls (hl : lv_has ls _ ([(5, .int (iI (l5_x200.toInt + 1))), (6, .int l6_x200), (4, .int k0_j36), (3, .int l3_x5), (0, .ref (hO 0)), (1, .int p1), (2, .int p2)])) => ?_)
                  refine lv_iinc (v := (iI (l6_x200.toInt + 1))) hx hb dX5_lay_283 hl (k := 1) rfl (iI_add2 (iI_of _) (by decide : (1 : Int32) = iI 1)) (by decide) rfl (fun ls (hl : lv_has ls _ ([(6, .int (iI (l6_x200.toInt + 1))), (5, .int (iI (l5_x200.toInt + 1))), (4, .int k0_j36), (3, .int l3_x5), (0, .ref (hO 0)), (1, .int p1), (2, .int p2)])) => ?_)
                  refine lv_goto (tgt := 200) hx hb dX5_lay_286 (by decide) ?_
                  have hl : lv_has _ _ ([(6, .int (iI (l6_x200.toInt + 1))), (5, .int (iI (l5_x200.toInt + 1))), (4, .int k0_j36), (3, .int l3_x5), (0, .ref (hO 0)), (1, .int p1), (2, .int p2)]) := lv_sub hl [0, 1, 2, 3, 4, 5, 6] rfl
                  exact ihx200 wl_976 wb_976 wG_976 (iI (l6_x200.toInt + 1)) (iI (l5_x200.toInt + 1)) _ _ _ b_wl_976 b_wb_976 (iI_rng (Int.le_trans (by decide) (Int.add_le_add (b_l6_x200.1) (Int.le_refl _))) (by omega) (by decide) (by decide)) (iI_rng (Int.le_trans (by decide) (Int.add_le_add (b_l5_x200.1) (Int.le_refl _))) (by omega) (by decide) (by decide)) (show (iI (l5_x200.toInt + 1)).toInt ≤ 12 + (iI (l6_x200.toInt + 1)).toInt from by (try rw [iI_t (E := l3_x5.toInt + 1) (by omega) (by omega)]); (try rw [iI_t (E := l4_x5.toInt + 1) (by omega) (by omega)]); (try rw [iI_t (E := l5_x130.toInt + 1) (by omega) (by omega)]); (try rw [iI_t (E := l6_x130.toInt + 1) (by omega) (by omega)]); (try rw [iI_t (E := l5_x200.toInt + 1) (by omega) (by omega)]); (try rw [iI_t (E := l6_x200.toInt + 1) (by omega) (by omega)]); omega) (by have e9 : ((iI (l6_x200.toInt + 1))).toInt = (l6_x200.toInt + 1) := (iI_t (Int.le_trans (by decide) (Int.add_le_add (b_l6_x200.1) (Int.le_refl _))) (Int.le_trans (Int.add_le_add (b_l6_x200.2) (Int.le_refl _)) (by decide))); omega) hP hD hS hl
          · have t_139 : ¬ l6_x130.toInt ≥ iM_rows.toInt := toI_nge c_139 rfl rfl
            refine lv_iload_n hx hb dX5_lay_142 rfl (lv_at hl 5 rfl) ?_
            refine lv_if_eq (tgt := 160) hx hb dX5_lay_143 (by decide) (fun c_143 => ?_) (fun c_143 => ?_)
            · have t_143 : p1.toInt = 0 := toI_eq c_143 rfl (by decide : (0 : Int32).toInt = 0)
              refine lv_aload_n hx hb dX5_lay_160 rfl (lv_at hl 4 rfl) ?_
              refine lv_iload hx hb dX5_lay_161 (lv_at hl 1 rfl) ?_
              refine lv_iload hx hb dX5_lay_163 (lv_at hl 0 rfl) ?_
              refine lv_iload_n hx hb dX5_lay_165 rfl (lv_at hl 5 rfl) ?_
              refine W.cut (pc := 180) (fun H locs ls stk => ∃ (k0_j41 : Int32), (0 ≤ k0_j41.toInt ∧ k0_j41.toInt ≤ 2) ∧  stk = [.int k0_j41, .int l6_x130, .int l5_x130, .ref (hO 0)] ∧ va_P (dC, dI) vwCl (WO hO aO kO hM hQ hw iO_answered iO_searched iO_searchedRelaxed iO_counted fO_countedCase gO_goalNumber gO_goalScale fO_start_x5 fO_column_x5 fO_chosen ++ (WM hM aM kM iM_stands iM_variables iM_rows iM_goals iM_differents iM_cases fM_from fM_to fM_whole fM_ways iM_plainRows fM_plainRow fM_kept fM_goalOver fM_goalUnder fM_goalMax fM_different ++ (WQ hQ aQ kQ hw fQ_inside_674 fQ_outside_674 fQ_shut_674 iQ_rows_674 iQ_allRows_674 iQ_columns_674 ++ (WW nW hw lw kw wl_x130 wb_x130 wG_x130)))) H ∧ va_D A (WO hO aO kO hM hQ hw iO_answered iO_searched iO_searchedRelaxed iO_counted fO_countedCase gO_goalNumber gO_goalScale fO_start_x5 fO_column_x5 fO_chosen ++ (WM hM aM kM iM_stands iM_variables iM_rows iM_goals iM_differents iM_cases fM_from fM_to fM_whole fM_ways iM_plainRows fM_plainRow fM_kept fM_goalOver fM_goalUnder fM_goalMax fM_different ++ (WQ hQ aQ kQ hw fQ_inside_674 fQ_outside_674 fQ_shut_674 iQ_rows_674 iQ_allRows_674 iQ_columns_674 ++ (WW nW hw lw kw wl_x130 wb_x130 wG_x130)))) ∧ va_S A s.heap H locs ∧ lv_has ls 7 [(6, .int l6_x130), (5, .int l5_x130), (4, .int k0_j36), (3, .int l3_x5), (0, .ref (hO 0)), (1, .int p1), (2, .int p2)]) (fun join41 => ?_) ?_
              · refine lv_if_eq (tgt := 173) hx hb dX5_lay_166 (by decide) (fun c_166 => ?_) (fun c_166 => ?_)
                · have t_166 : p1.toInt = 0 := toI_eq c_166 rfl (by decide : (0 : Int32).toInt = 0)
                  refine lv_aload_n hx hb dX5_lay_173 rfl (lv_at hl 4 rfl) ?_
                  refine va_get (D := (dC, dI)) (ci := 5) (v := .ref (aO 5)) (C := RX5) (T := TX5) (N := 19) hx hb hts iwsMX5_lay_in5 hown hK hP 0 rfl rfl 11 (by decide) (hts (.fieldLink RX5 41 "OptimaWorks$Solver" "chosen" "[I") (by decide +kernel)) (fun _ h9 => h9) rfl dX5_lay_174 ?_
                  refine lv_iload hx hb dX5_lay_177 (lv_at hl 0 rfl) ?_
                  refine va_iald (cA := kO 5) (n := 12) (f := fO_chosen) hx hb hK hP 6 5 rfl rfl (vp_in_iff.mpr ⟨b_l6_x130.1, (by omega)⟩) dX5_lay_179 ?_
                  refine lv_topi (fun v978 hv978 => ?_)
                  have b_v978 : 0 ≤ v978.toInt ∧ v978.toInt ≤ 2 := by rw [hv978]; exact b_fO_chosen _
                  clear hv978
                  have hl : lv_has _ _ ([(6, .int l6_x130), (5, .int l5_x130), (4, .int k0_j36), (3, .int l3_x5), (0, .ref (hO 0)), (1, .int p1), (2, .int p2)]) := lv_sub hl [0, 1, 2, 3, 4, 5, 6] rfl
                  exact join41 _ _ _ _ ⟨v978, (b_v978), rfl, hP, hD, hS, hl⟩
                · have t_166 : ¬ p1.toInt = 0 := toI_neq c_166 rfl (by decide : (0 : Int32).toInt = 0)
                  refine lv_iconst (v := 0) hx hb dX5_lay_169 (by decide) ?_
                  refine lv_goto (tgt := 180) hx hb dX5_lay_170 (by decide) ?_
                  have hl : lv_has _ _ ([(6, .int l6_x130), (5, .int l5_x130), (4, .int k0_j36), (3, .int l3_x5), (0, .ref (hO 0)), (1, .int p1), (2, .int p2)]) := lv_sub hl [0, 1, 2, 3, 4, 5, 6] rfl
                  exact join41 _ _ _ _ ⟨0, (show 0 ≤ (0 : Int32).toInt ∧ (0 : Int32).toInt ≤ 2 from by decide), rfl, hP, hD, hS, hl⟩
              · rintro H locs ls stk ⟨k0_j41, b_k0_j41, rfl, hP, hD, hS, hl⟩
                have hFc := allFree hD hS hA
                refine va_calli (va_runV (As := [.int l5_x130, .int l6_x130, .int k0_j41]) (rest := []) ⟨hx, hb, hml, hown, hts⟩ (m_X5_layWay l dC dI hO aO kO hM hQ hw iO_answered iO_searched iO_searchedRelaxed iO_counted fO_countedCase gO_goalNumber gO_goalScale fO_start_x5 fO_column_x5 fO_chosen aM kM iM_stands iM_variables iM_rows iM_goals iM_differents iM_cases fM_from fM_to fM_whole fM_ways iM_plainRows fM_plainRow fM_kept fM_goalOver fM_goalUnder fM_goalMax fM_different aQ kQ fQ_inside_674 fQ_outside_674 fQ_shut_674 iQ_rows_674 iQ_allRows_674 iQ_columns_674 nW lw kw wl_x130 wb_x130 wG_x130 l5_x130 l6_x130 k0_j41 (b_iO_answered) (b_iO_searched) (b_iO_searchedRelaxed) (b_iO_counted) b_fO_countedCase b_fO_column_x5 b_fO_chosen (b_iM_stands) (b_iM_variables) (b_iM_rows) (b_iM_goals) (b_iM_differents) (b_iM_cases) b_fM_ways (b_iM_plainRows) b_fM_plainRow (by first | with_reducible assumption | omega | assumption) (b_iQ_rows_674) (b_iQ_allRows_674) (b_iQ_columns_674) (by first | with_reducible assumption | omega | assumption) b_wl_x130 b_wb_x130 (⟨b_l5_x130.1, Int.le_trans b_l5_x130.2 (by decide)⟩) (by first | exact b_l6_x130 | with_reducible assumption | exact ⟨by omega, by omega⟩ | assumption) (b_k0_j41) (by omega) (by omega) H.size) (cwV 3 hts gwsMX5_lay_4 rfl rfl rfl hd_yX5_layWay_RX5 (by decide +kernel)) (fz_pre (va_recv hK hP (ci := 5) (q0 := 0) rfl rfl) hP hK hD) rfl rfl hl.1 rfl (lv_room (Nat.le_of_ble_eq_true rfl)) dX5_lay_180 (by decide +kernel)) hS (fun q _ h => hFc q h) hFc (fun r979 u t9_ H locs ht hvm hw9 hB9 hz1 hk1 hS => ?_)
                revert u hw9 hB9
                refine fz_p3 ?_
                intro wl_979 wb_979 wG_979 hw9 hB9
                try dsimp only at hw9 hB9
                revert hw9
                refine fz_a3 ?_
                intro b_wl_979 b_wb_979 b_r979
                have hP : va_P (dC, dI) vwCl (WO hO aO kO hM hQ hw iO_answered iO_searched iO_searchedRelaxed iO_counted fO_countedCase gO_goalNumber gO_goalScale fO_start_x5 fO_column_x5 fO_chosen ++ (WM hM aM kM iM_stands iM_variables iM_rows iM_goals iM_differents iM_cases fM_from fM_to fM_whole fM_ways iM_plainRows fM_plainRow fM_kept fM_goalOver fM_goalUnder fM_goalMax fM_different ++ (WQ hQ aQ kQ hw fQ_inside_674 fQ_outside_674 fQ_shut_674 iQ_rows_674 iQ_allRows_674 iQ_columns_674 ++ (WW nW hw lw kw wl_979 wb_979 wG_979)))) H := fz_P ht hB9.1
                have hD : va_D A (WO hO aO kO hM hQ hw iO_answered iO_searched iO_searchedRelaxed iO_counted fO_countedCase gO_goalNumber gO_goalScale fO_start_x5 fO_column_x5 fO_chosen ++ (WM hM aM kM iM_stands iM_variables iM_rows iM_goals iM_differents iM_cases fM_from fM_to fM_whole fM_ways iM_plainRows fM_plainRow fM_kept fM_goalOver fM_goalUnder fM_goalMax fM_different ++ (WQ hQ aQ kQ hw fQ_inside_674 fQ_outside_674 fQ_shut_674 iQ_rows_674 iQ_allRows_674 iQ_columns_674 ++ (WW nW hw lw kw wl_979 wb_979 wG_979)))) := hB9.2.weaken (fun _ q _ h => hFc q.1 h)
                refine lv_if_ne (tgt := 188) hx hb dX5_lay_183 (by decide) (fun c_183 => ?_) (fun c_183 => ?_)
                · have t_183 : r979.toInt ≠ 0 := toI_ne c_183 rfl (by decide : (0 : Int32).toInt = 0)
                  refine lv_iinc (v := (iI (l5_x130.toInt + 1))) hx hb dX5_lay_188 hl (k := 1) rfl (iI_add2 (iI_of _) (by decide : (1 : Int32) = iI 1)) (by decide) rfl (fun ls (hl : lv_has ls _ ([(5, .int (iI (l5_x130.toInt + 1))), (6, .int l6_x130), (4, .int k0_j36), (3, .int l3_x5), (0, .ref (hO 0)), (1, .int p1), (2, .int p2)])) => ?_)
                  refine lv_iinc (v := (iI (l6_x130.toInt + 1))) hx hb dX5_lay_191 hl (k := 1) rfl (iI_add2 (iI_of _) (by decide : (1 : Int32) = iI 1)) (by decide) rfl (fun ls (hl : lv_has ls _ ([(6, .int (iI (l6_x130.toInt + 1))), (5, .int (iI (l5_x130.toInt + 1))), (4, .int k0_j36), (3, .int l3_x5), (0, .ref (hO 0)), (1, .int p1), (2, .int p2)])) => ?_)
                  refine lv_goto (tgt := 130) hx hb dX5_lay_194 (by decide) ?_
                  have hl : lv_has _ _ ([(6, .int (iI (l6_x130.toInt + 1))), (5, .int (iI (l5_x130.toInt + 1))), (4, .int k0_j36), (3, .int l3_x5), (0, .ref (hO 0)), (1, .int p1), (2, .int p2)]) := lv_sub hl [0, 1, 2, 3, 4, 5, 6] rfl
                  exact ihx130 wl_979 wb_979 wG_979 (iI (l6_x130.toInt + 1)) (iI (l5_x130.toInt + 1)) _ _ _ b_wl_979 b_wb_979 (iI_rng (Int.le_trans (by decide) (Int.add_le_add (b_l6_x130.1) (Int.le_refl _))) (by omega) (by decide) (by decide)) (iI_rng (Int.le_trans (by decide) (Int.add_le_add (b_l5_x130.1) (Int.le_refl _))) (by omega) (by decide) (by decide)) (show (iI (l5_x130.toInt + 1)).toInt ≤ (iI (l6_x130.toInt + 1)).toInt from by (try rw [iI_t (E := l3_x5.toInt + 1) (by omega) (by omega)]); (try rw [iI_t (E := l4_x5.toInt + 1) (by omega) (by omega)]); (try rw [iI_t (E := l5_x130.toInt + 1) (by omega) (by omega)]); (try rw [iI_t (E := l6_x130.toInt + 1) (by omega) (by omega)]); (try rw [iI_t (E := l5_x200.toInt + 1) (by omega) (by omega)]); (try rw [iI_t (E := l6_x200.toInt + 1) (by omega) (by omega)]); omega) (by have e9 : ((iI (l6_x130.toInt + 1))).toInt = (l6_x130.toInt + 1) := (iI_t (Int.le_trans (by decide) (Int.add_le_add (b_l6_x130.1) (Int.le_refl _))) (Int.le_trans (Int.add_le_add (b_l6_x130.2) (Int.le_refl _)) (by decide))); omega) hP hD hS hl
                · have t_183 : r979.toInt = 0 := toI_nne c_183 rfl (by decide : (0 : Int32).toInt = 0)
                  refine lv_iconst (v := 0) hx hb dX5_lay_186 (by decide) ?_
                  refine W.widen (k := 0) (n := 0) (by decide +kernel) (by decide +kernel) ?_
                  exact W.zret (v := 0) hx hb hr rfl (fun t9_ ht hW => ⟨⟨(0 : Int32), (fO_start_x5, fO_column_x5, fQ_inside_674, fQ_outside_674, fQ_shut_674, iQ_rows_674, iQ_allRows_674, iQ_columns_674, wl_979, wb_979, wG_979), rfl, ⟨b_fO_column_x5, (by (try dsimp only); exact (b_iQ_rows_674)), (by (try dsimp only); exact (b_iQ_allRows_674)), (by (try dsimp only); exact (b_iQ_columns_674)), b_wl_979, b_wb_979, (by (try dsimp only); exact (by first | with_reducible assumption | omega | assumption)), (show 0 ≤ (0 : Int32).toInt ∧ (0 : Int32).toInt ≤ 1 from by decide), (by (try dsimp only); omega), (by (try dsimp only); omega)⟩, by rw [ht]; exact hP, hD⟩, hS.F ht⟩) hS.2.2 dX5_lay_187
            · have t_143 : ¬ p1.toInt = 0 := toI_neq c_143 rfl (by decide : (0 : Int32).toInt = 0)
              refine lv_aload_n hx hb dX5_lay_146 rfl (lv_at hl 4 rfl) ?_
              refine va_get (D := (dC, dI)) (ci := 5) (v := .ref (hM 0)) (C := RX5) (T := TX5) (N := 19) hx hb hts iwsMX5_lay_in5 hown hK hP 0 rfl rfl 0 (by decide) (hts (.fieldLink RX5 74 "OptimaWorks$Solver" "model" "LOptimaWorks$Model;") (by decide +kernel)) (fun _ h9 => h9) rfl dX5_lay_147 ?_
              refine va_get (D := (dC, dI)) (ci := 1) (v := .ref (aM 3)) (C := RX1) (T := TX1) (N := 17) hx hb hts iwsMX5_lay_in1 hown hK hP 11 rfl rfl 9 (by decide) (hts (.fieldLink RX5 134 "OptimaWorks$Model" "ways" "[I") (by decide +kernel)) (fun _ h9 => h9) rfl dX5_lay_150 ?_
              refine lv_iload hx hb dX5_lay_153 (lv_at hl 0 rfl) ?_
              refine va_iald (cA := kM 3) (n := 12) (f := fM_ways) hx hb hK hP 15 13 rfl rfl (vp_in_iff.mpr ⟨b_l6_x130.1, (by omega)⟩) dX5_lay_155 ?_
              refine lv_topi (fun v980 hv980 => ?_)
              have b_v980 : 0 ≤ v980.toInt ∧ v980.toInt ≤ 3 := by rw [hv980]; exact b_fM_ways _
              clear hv980
              refine lv_iconst (v := 1) hx hb dX5_lay_156 (by decide) ?_
              refine lv_icmp_ne (tgt := 191) hx hb dX5_lay_157 (by decide) (fun c_157 => ?_) (fun c_157 => ?_)
              · have t_157 : v980.toInt ≠ 1 := toI_ne c_157 rfl (by decide : (1 : Int32).toInt = 1)
                refine lv_iinc (v := (iI (l6_x130.toInt + 1))) hx hb dX5_lay_191 hl (k := 0) rfl (iI_add2 (iI_of _) (by decide : (1 : Int32) = iI 1)) (by decide) rfl (fun ls (hl : lv_has ls _ ([(6, .int (iI (l6_x130.toInt + 1))), (5, .int l5_x130), (4, .int k0_j36), (3, .int l3_x5), (0, .ref (hO 0)), (1, .int p1), (2, .int p2)])) => ?_)
                refine lv_goto (tgt := 130) hx hb dX5_lay_194 (by decide) ?_
                have hl : lv_has _ _ ([(6, .int (iI (l6_x130.toInt + 1))), (5, .int l5_x130), (4, .int k0_j36), (3, .int l3_x5), (0, .ref (hO 0)), (1, .int p1), (2, .int p2)]) := lv_sub hl [0, 1, 2, 3, 4, 5, 6] rfl
                exact ihx130 wl_x130 wb_x130 wG_x130 (iI (l6_x130.toInt + 1)) l5_x130 _ _ _ b_wl_x130 b_wb_x130 (iI_rng (Int.le_trans (by decide) (Int.add_le_add (b_l6_x130.1) (Int.le_refl _))) (by omega) (by decide) (by decide)) (b_l5_x130) (show l5_x130.toInt ≤ (iI (l6_x130.toInt + 1)).toInt from by (try rw [iI_t (E := l3_x5.toInt + 1) (by omega) (by omega)]); (try rw [iI_t (E := l4_x5.toInt + 1) (by omega) (by omega)]); (try rw [iI_t (E := l5_x130.toInt + 1) (by omega) (by omega)]); (try rw [iI_t (E := l6_x130.toInt + 1) (by omega) (by omega)]); (try rw [iI_t (E := l5_x200.toInt + 1) (by omega) (by omega)]); (try rw [iI_t (E := l6_x200.toInt + 1) (by omega) (by omega)]); omega) (by have e9 : ((iI (l6_x130.toInt + 1))).toInt = (l6_x130.toInt + 1) := (iI_t (Int.le_trans (by decide) (Int.add_le_add (b_l6_x130.1) (Int.le_refl _))) (Int.le_trans (Int.add_le_add (b_l6_x130.2) (Int.le_refl _)) (by decide))); omega) hP hD hS hl
              · have t_157 : v980.toInt = 1 := toI_nne c_157 rfl (by decide : (1 : Int32).toInt = 1)
                refine lv_aload_n hx hb dX5_lay_160 rfl (lv_at hl 4 rfl) ?_
                refine lv_iload hx hb dX5_lay_161 (lv_at hl 1 rfl) ?_
                refine lv_iload hx hb dX5_lay_163 (lv_at hl 0 rfl) ?_
                refine lv_iload_n hx hb dX5_lay_165 rfl (lv_at hl 5 rfl) ?_
                refine W.cut (pc := 180) (fun H locs ls stk => ∃ (k0_j42 : Int32), (0 ≤ k0_j42.toInt ∧ k0_j42.toInt ≤ 2) ∧  stk = [.int k0_j42, .int l6_x130, .int l5_x130, .ref (hO 0)] ∧ va_P (dC, dI) vwCl (WO hO aO kO hM hQ hw iO_answered iO_searched iO_searchedRelaxed iO_counted fO_countedCase gO_goalNumber gO_goalScale fO_start_x5 fO_column_x5 fO_chosen ++ (WM hM aM kM iM_stands iM_variables iM_rows iM_goals iM_differents iM_cases fM_from fM_to fM_whole fM_ways iM_plainRows fM_plainRow fM_kept fM_goalOver fM_goalUnder fM_goalMax fM_different ++ (WQ hQ aQ kQ hw fQ_inside_674 fQ_outside_674 fQ_shut_674 iQ_rows_674 iQ_allRows_674 iQ_columns_674 ++ (WW nW hw lw kw wl_x130 wb_x130 wG_x130)))) H ∧ va_D A (WO hO aO kO hM hQ hw iO_answered iO_searched iO_searchedRelaxed iO_counted fO_countedCase gO_goalNumber gO_goalScale fO_start_x5 fO_column_x5 fO_chosen ++ (WM hM aM kM iM_stands iM_variables iM_rows iM_goals iM_differents iM_cases fM_from fM_to fM_whole fM_ways iM_plainRows fM_plainRow fM_kept fM_goalOver fM_goalUnder fM_goalMax fM_different ++ (WQ hQ aQ kQ hw fQ_inside_674 fQ_outside_674 fQ_shut_674 iQ_rows_674 iQ_allRows_674 iQ_columns_674 ++ (WW nW hw lw kw wl_x130 wb_x130 wG_x130)))) ∧ va_S A s.heap H locs ∧ lv_has ls 7 [(6, .int l6_x130), (5, .int l5_x130), (4, .int k0_j36), (3, .int l3_x5), (0, .ref (hO 0)), (1, .int p1), (2, .int p2)]) (fun join42 => ?_) ?_
                · refine lv_if_eq (tgt := 173) hx hb dX5_lay_166 (by decide) (fun c_166 => ?_) (fun c_166 => ?_)
                  · have t_166 : p1.toInt = 0 := toI_eq c_166 rfl (by decide : (0 : Int32).toInt = 0)
                    refine lv_aload_n hx hb dX5_lay_173 rfl (lv_at hl 4 rfl) ?_
                    refine va_get (D := (dC, dI)) (ci := 5) (v := .ref (aO 5)) (C := RX5) (T := TX5) (N := 19) hx hb hts iwsMX5_lay_in5 hown hK hP 0 rfl rfl 11 (by decide) (hts (.fieldLink RX5 41 "OptimaWorks$Solver" "chosen" "[I") (by decide +kernel)) (fun _ h9 => h9) rfl dX5_lay_174 ?_
                    refine lv_iload hx hb dX5_lay_177 (lv_at hl 0 rfl) ?_
                    refine va_iald (cA := kO 5) (n := 12) (f := fO_chosen) hx hb hK hP 6 5 rfl rfl (vp_in_iff.mpr ⟨b_l6_x130.1, (by omega)⟩) dX5_lay_179 ?_
                    refine lv_topi (fun v982 hv982 => ?_)
                    have b_v982 : 0 ≤ v982.toInt ∧ v982.toInt ≤ 2 := by rw [hv982]; exact b_fO_chosen _
                    clear hv982
                    have hl : lv_has _ _ ([(6, .int l6_x130), (5, .int l5_x130), (4, .int k0_j36), (3, .int l3_x5), (0, .ref (hO 0)), (1, .int p1), (2, .int p2)]) := lv_sub hl [0, 1, 2, 3, 4, 5, 6] rfl
                    exact join42 _ _ _ _ ⟨v982, (b_v982), rfl, hP, hD, hS, hl⟩
                  · have t_166 : ¬ p1.toInt = 0 := toI_neq c_166 rfl (by decide : (0 : Int32).toInt = 0)
                    refine lv_iconst (v := 0) hx hb dX5_lay_169 (by decide) ?_
                    refine lv_goto (tgt := 180) hx hb dX5_lay_170 (by decide) ?_
                    have hl : lv_has _ _ ([(6, .int l6_x130), (5, .int l5_x130), (4, .int k0_j36), (3, .int l3_x5), (0, .ref (hO 0)), (1, .int p1), (2, .int p2)]) := lv_sub hl [0, 1, 2, 3, 4, 5, 6] rfl
                    exact join42 _ _ _ _ ⟨0, (show 0 ≤ (0 : Int32).toInt ∧ (0 : Int32).toInt ≤ 2 from by decide), rfl, hP, hD, hS, hl⟩
                · rintro H locs ls stk ⟨k0_j42, b_k0_j42, rfl, hP, hD, hS, hl⟩
                  have hFc := allFree hD hS hA
                  refine va_calli (va_runV (As := [.int l5_x130, .int l6_x130, .int k0_j42]) (rest := []) ⟨hx, hb, hml, hown, hts⟩ (m_X5_layWay l dC dI hO aO kO hM hQ hw iO_answered iO_searched iO_searchedRelaxed iO_counted fO_countedCase gO_goalNumber gO_goalScale fO_start_x5 fO_column_x5 fO_chosen aM kM iM_stands iM_variables iM_rows iM_goals iM_differents iM_cases fM_from fM_to fM_whole fM_ways iM_plainRows fM_plainRow fM_kept fM_goalOver fM_goalUnder fM_goalMax fM_different aQ kQ fQ_inside_674 fQ_outside_674 fQ_shut_674 iQ_rows_674 iQ_allRows_674 iQ_columns_674 nW lw kw wl_x130 wb_x130 wG_x130 l5_x130 l6_x130 k0_j42 (b_iO_answered) (b_iO_searched) (b_iO_searchedRelaxed) (b_iO_counted) b_fO_countedCase b_fO_column_x5 b_fO_chosen (b_iM_stands) (b_iM_variables) (b_iM_rows) (b_iM_goals) (b_iM_differents) (b_iM_cases) b_fM_ways (b_iM_plainRows) b_fM_plainRow (by first | with_reducible assumption | omega | assumption) (b_iQ_rows_674) (b_iQ_allRows_674) (b_iQ_columns_674) (by first | with_reducible assumption | omega | assumption) b_wl_x130 b_wb_x130 (⟨b_l5_x130.1, Int.le_trans b_l5_x130.2 (by decide)⟩) (by first | exact b_l6_x130 | with_reducible assumption | exact ⟨by omega, by omega⟩ | assumption) (b_k0_j42) (by omega) (by omega) H.size) (cwV 3 hts gwsMX5_lay_4 rfl rfl rfl hd_yX5_layWay_RX5 (by decide +kernel)) (fz_pre (va_recv hK hP (ci := 5) (q0 := 0) rfl rfl) hP hK hD) rfl rfl hl.1 rfl (lv_room (Nat.le_of_ble_eq_true rfl)) dX5_lay_180 (by decide +kernel)) hS (fun q _ h => hFc q h) hFc (fun r983 u t9_ H locs ht hvm hw9 hB9 hz1 hk1 hS => ?_)
                  revert u hw9 hB9
                  refine fz_p3 ?_
                  intro wl_983 wb_983 wG_983 hw9 hB9
                  try dsimp only at hw9 hB9
                  revert hw9
                  refine fz_a3 ?_
                  intro b_wl_983 b_wb_983 b_r983
                  have hP : va_P (dC, dI) vwCl (WO hO aO kO hM hQ hw iO_answered iO_searched iO_searchedRelaxed iO_counted fO_countedCase gO_goalNumber gO_goalScale fO_start_x5 fO_column_x5 fO_chosen ++ (WM hM aM kM iM_stands iM_variables iM_rows iM_goals iM_differents iM_cases fM_from fM_to fM_whole fM_ways iM_plainRows fM_plainRow fM_kept fM_goalOver fM_goalUnder fM_goalMax fM_different ++ (WQ hQ aQ kQ hw fQ_inside_674 fQ_outside_674 fQ_shut_674 iQ_rows_674 iQ_allRows_674 iQ_columns_674 ++ (WW nW hw lw kw wl_983 wb_983 wG_983)))) H := fz_P ht hB9.1
                  have hD : va_D A (WO hO aO kO hM hQ hw iO_answered iO_searched iO_searchedRelaxed iO_counted fO_countedCase gO_goalNumber gO_goalScale fO_start_x5 fO_column_x5 fO_chosen ++ (WM hM aM kM iM_stands iM_variables iM_rows iM_goals iM_differents iM_cases fM_from fM_to fM_whole fM_ways iM_plainRows fM_plainRow fM_kept fM_goalOver fM_goalUnder fM_goalMax fM_different ++ (WQ hQ aQ kQ hw fQ_inside_674 fQ_outside_674 fQ_shut_674 iQ_rows_674 iQ_allRows_674 iQ_columns_674 ++ (WW nW hw lw kw wl_983 wb_983 wG_983)))) := hB9.2.weaken (fun _ q _ h => hFc q.1 h)
                  refine lv_if_ne (tgt := 188) hx hb dX5_lay_183 (by decide) (fun c_183 => ?_) (fun c_183 => ?_)
                  · have t_183 : r983.toInt ≠ 0 := toI_ne c_183 rfl (by decide : (0 : Int32).toInt = 0)
                    refine lv_iinc (v := (iI (l5_x130.toInt + 1))) hx hb dX5_lay_188 hl (k := 1) rfl (iI_add2 (iI_of _) (by decide : (1 : Int32) = iI 1)) (by decide) rfl (fun ls (hl : lv_has ls _ ([(5, .int (iI (l5_x130.toInt + 1))), (6, .int l6_x130), (4, .int k0_j36), (3, .int l3_x5), (0, .ref (hO 0)), (1, .int p1), (2, .int p2)])) => ?_)
                    refine lv_iinc (v := (iI (l6_x130.toInt + 1))) hx hb dX5_lay_191 hl (k := 1) rfl (iI_add2 (iI_of _) (by decide : (1 : Int32) = iI 1)) (by decide) rfl (fun ls (hl : lv_has ls _ ([(6, .int (iI (l6_x130.toInt + 1))), (5, .int (iI (l5_x130.toInt + 1))), (4, .int k0_j36), (3, .int l3_x5), (0, .ref (hO 0)), (1, .int p1), (2, .int p2)])) => ?_)
                    refine lv_goto (tgt := 130) hx hb dX5_lay_194 (by decide) ?_
                    have hl : lv_has _ _ ([(6, .int (iI (l6_x130.toInt + 1))), (5, .int (iI (l5_x130.toInt + 1))), (4, .int k0_j36), (3, .int l3_x5), (0, .ref (hO 0)), (1, .int p1), (2, .int p2)]) := lv_sub hl [0, 1, 2, 3, 4, 5, 6] rfl
                    exact ihx130 wl_983 wb_983 wG_983 (iI (l6_x130.toInt + 1)) (iI (l5_x130.toInt + 1)) _ _ _ b_wl_983 b_wb_983 (iI_rng (Int.le_trans (by decide) (Int.add_le_add (b_l6_x130.1) (Int.le_refl _))) (by omega) (by decide) (by decide)) (iI_rng (Int.le_trans (by decide) (Int.add_le_add (b_l5_x130.1) (Int.le_refl _))) (by omega) (by decide) (by decide)) (show (iI (l5_x130.toInt + 1)).toInt ≤ (iI (l6_x130.toInt + 1)).toInt from by (try rw [iI_t (E := l3_x5.toInt + 1) (by omega) (by omega)]); (try rw [iI_t (E := l4_x5.toInt + 1) (by omega) (by omega)]); (try rw [iI_t (E := l5_x130.toInt + 1) (by omega) (by omega)]); (try rw [iI_t (E := l6_x130.toInt + 1) (by omega) (by omega)]); (try rw [iI_t (E := l5_x200.toInt + 1) (by omega) (by omega)]); (try rw [iI_t (E := l6_x200.toInt + 1) (by omega) (by omega)]); omega) (by have e9 : ((iI (l6_x130.toInt + 1))).toInt = (l6_x130.toInt + 1) := (iI_t (Int.le_trans (by decide) (Int.add_le_add (b_l6_x130.1) (Int.le_refl _))) (Int.le_trans (Int.add_le_add (b_l6_x130.2) (Int.le_refl _)) (by decide))); omega) hP hD hS hl
                  · have t_183 : r983.toInt = 0 := toI_nne c_183 rfl (by decide : (0 : Int32).toInt = 0)
                    refine lv_iconst (v := 0) hx hb dX5_lay_186 (by decide) ?_
                    refine W.widen (k := 0) (n := 0) (by decide +kernel) (by decide +kernel) ?_
                    exact W.zret (v := 0) hx hb hr rfl (fun t9_ ht hW => ⟨⟨(0 : Int32), (fO_start_x5, fO_column_x5, fQ_inside_674, fQ_outside_674, fQ_shut_674, iQ_rows_674, iQ_allRows_674, iQ_columns_674, wl_983, wb_983, wG_983), rfl, ⟨b_fO_column_x5, (by (try dsimp only); exact (b_iQ_rows_674)), (by (try dsimp only); exact (b_iQ_allRows_674)), (by (try dsimp only); exact (b_iQ_columns_674)), b_wl_983, b_wb_983, (by (try dsimp only); exact (by first | with_reducible assumption | omega | assumption)), (show 0 ≤ (0 : Int32).toInt ∧ (0 : Int32).toInt ≤ 1 from by decide), (by (try dsimp only); omega), (by (try dsimp only); omega)⟩, by rw [ht]; exact hP, hD⟩, hS.F ht⟩) hS.2.2 dX5_lay_187
    · have t_14 : ¬ l4_x5.toInt ≥ iM_variables.toInt := toI_nge c_14 rfl rfl
      refine lv_iload_n hx hb dX5_lay_17 rfl (lv_at hl 3 rfl) ?_
      refine lv_if_ne (tgt := 34) hx hb dX5_lay_18 (by decide) (fun c_18 => ?_) (fun c_18 => ?_)
      · have t_18 : p1.toInt ≠ 0 := toI_ne c_18 rfl (by decide : (0 : Int32).toInt = 0)
        refine lv_iconst (v := 1) hx hb dX5_lay_34 (by decide) ?_
        refine lv_goto (tgt := 39) hx hb dX5_lay_35 (by decide) ?_
        refine lv_istore hx hb dX5_lay_39 hl (by decide) rfl (fun ls (hl : lv_has ls _ ([(5, .int 1), (4, .int l4_x5), (3, .int l3_x5), (0, .ref (hO 0)), (1, .int p1), (2, .int p2)])) => ?_)
        refine lv_aload_n hx hb dX5_lay_41 rfl (lv_at hl 3 rfl) ?_
        refine va_get (D := (dC, dI)) (ci := 5) (v := .ref (aO 4)) (C := RX5) (T := TX5) (N := 19) hx hb hts iwsMX5_lay_in5 hown hK hP 0 rfl rfl 10 (by decide) (hts (.fieldLink RX5 38 "OptimaWorks$Solver" "column" "[I") (by decide +kernel)) (fun _ h9 => h9) rfl dX5_lay_42 ?_
        refine lv_iload hx hb dX5_lay_45 (lv_at hl 1 rfl) ?_
        refine lv_iload hx hb dX5_lay_47 (lv_at hl 0 rfl) ?_
        refine lv_if_eq (tgt := 59) hx hb dX5_lay_49 (by decide) (fun c9 => absurd c9 (by decide)) (fun _ => ?_)
        refine lv_iinc (v := (iI (l3_x5.toInt + 1))) hx hb dX5_lay_52 hl (k := 2) rfl (iI_add2 (iI_of _) (by decide : (1 : Int32) = iI 1)) (by decide) rfl (fun ls (hl : lv_has ls _ ([(3, .int (iI (l3_x5.toInt + 1))), (5, .int 1), (4, .int l4_x5), (0, .ref (hO 0)), (1, .int p1), (2, .int p2)])) => ?_)
        refine lv_iload_n hx hb dX5_lay_55 rfl (lv_at hl 0 rfl) ?_
        refine lv_goto (tgt := 60) hx hb dX5_lay_56 (by decide) ?_
        refine va_iast (cA := kO 4) (n := 8) (f := fO_column_x5) hx hb hK hP hD hS 5 4 rfl rfl (vp_in_iff.mpr ⟨b_l4_x5.1, (Int.lt_of_lt_of_le (Int.not_le.mp t_14) (Int.le_trans b_iM_variables.2 (by decide)))⟩) dX5_lay_60 (fun H locs hP hD hS => ?_)
        obtain ⟨u984, hu984⟩ : ∃ f9, f9 = upd fO_column_x5 (l4_x5).toNatClampNeg (iI (l3_x5.toInt + 1)) := ⟨_, rfl⟩
        have hP : va_P (dC, dI) vwCl (WO hO aO kO hM hQ hw iO_answered iO_searched iO_searchedRelaxed iO_counted fO_countedCase gO_goalNumber gO_goalScale fO_start_x5 u984 fO_chosen ++ (WM hM aM kM iM_stands iM_variables iM_rows iM_goals iM_differents iM_cases fM_from fM_to fM_whole fM_ways iM_plainRows fM_plainRow fM_kept fM_goalOver fM_goalUnder fM_goalMax fM_different ++ (WQ hQ aQ kQ hw fQ_inside fQ_outside fQ_shut iQ_rows iQ_allRows iQ_columns ++ (WW nW hw lw kw wl wb wG)))) H := by rw [hu984]; exact hP
        have hD : va_D A (WO hO aO kO hM hQ hw iO_answered iO_searched iO_searchedRelaxed iO_counted fO_countedCase gO_goalNumber gO_goalScale fO_start_x5 u984 fO_chosen ++ (WM hM aM kM iM_stands iM_variables iM_rows iM_goals iM_differents iM_cases fM_from fM_to fM_whole fM_ways iM_plainRows fM_plainRow fM_kept fM_goalOver fM_goalUnder fM_goalMax fM_different ++ (WQ hQ aQ kQ hw fQ_inside fQ_outside fQ_shut iQ_rows iQ_allRows iQ_columns ++ (WW nW hw lw kw wl wb wG)))) := by rw [hu984]; exact hD
        have b_u984 : ∀ q : Nat, (-1) ≤ (u984 q).toInt ∧ (u984 q).toInt ≤ 8 := by rw [hu984]; exact upd_r b_fO_column_x5 (iI_rng (Int.le_trans (by decide) (Int.add_le_add (b_l3_x5.1) (Int.le_refl _))) (by omega) (by decide) (by decide))
        clear hu984
        refine lv_iload_n hx hb dX5_lay_61 rfl (lv_at hl 4 rfl) ?_
        refine lv_if_eq (tgt := 82) hx hb dX5_lay_62 (by decide) (fun c_62 => ?_) (fun c_62 => ?_)
        · have t_62 : p1.toInt = 0 := toI_eq c_62 rfl (by decide : (0 : Int32).toInt = 0)
          refine lv_iinc (v := (iI (l4_x5.toInt + 1))) hx hb dX5_lay_82 hl (k := 2) rfl (iI_add2 (iI_of _) (by decide : (1 : Int32) = iI 1)) (by decide) rfl (fun ls (hl : lv_has ls _ ([(4, .int (iI (l4_x5.toInt + 1))), (3, .int (iI (l3_x5.toInt + 1))), (5, .int 1), (0, .ref (hO 0)), (1, .int p1), (2, .int p2)])) => ?_)
          refine lv_goto (tgt := 5) hx hb dX5_lay_85 (by decide) ?_
          have hl : lv_has _ _ ([(4, .int (iI (l4_x5.toInt + 1))), (3, .int (iI (l3_x5.toInt + 1))), (0, .ref (hO 0)), (1, .int p1), (2, .int p2)]) := lv_sub hl [0, 1, 3, 4, 5] rfl
          exact ihx5 fO_start_x5 u984 (iI (l4_x5.toInt + 1)) (iI (l3_x5.toInt + 1)) _ _ _ b_u984 (iI_rng (Int.le_trans (by decide) (Int.add_le_add (b_l4_x5.1) (Int.le_refl _))) (by omega) (by decide) (by decide)) (iI_rng (Int.le_trans (by decide) (Int.add_le_add (b_l3_x5.1) (Int.le_refl _))) (by omega) (by decide) (by decide)) (show (iI (l3_x5.toInt + 1)).toInt ≤ (iI (l4_x5.toInt + 1)).toInt from by (try rw [iI_t (E := l3_x5.toInt + 1) (by omega) (by omega)]); (try rw [iI_t (E := l4_x5.toInt + 1) (by omega) (by omega)]); (try rw [iI_t (E := l5_x130.toInt + 1) (by omega) (by omega)]); (try rw [iI_t (E := l6_x130.toInt + 1) (by omega) (by omega)]); (try rw [iI_t (E := l5_x200.toInt + 1) (by omega) (by omega)]); (try rw [iI_t (E := l6_x200.toInt + 1) (by omega) (by omega)]); omega) (by have e9 : ((iI (l4_x5.toInt + 1))).toInt = (l4_x5.toInt + 1) := (iI_t (Int.le_trans (by decide) (Int.add_le_add (b_l4_x5.1) (Int.le_refl _))) (Int.le_trans (Int.add_le_add (b_l4_x5.2) (Int.le_refl _)) (by decide))); omega) hP hD hS hl
        · have t_62 : ¬ p1.toInt = 0 := toI_neq c_62 rfl (by decide : (0 : Int32).toInt = 0)
          refine lv_aload_n hx hb dX5_lay_65 rfl (lv_at hl 3 rfl) ?_
          refine va_get (D := (dC, dI)) (ci := 5) (v := .ref (aO 3)) (C := RX5) (T := TX5) (N := 19) hx hb hts iwsMX5_lay_in5 hown hK hP 0 rfl rfl 9 (by decide) (hts (.fieldLink RX5 35 "OptimaWorks$Solver" "start" "[I") (by decide +kernel)) (fun _ h9 => h9) rfl dX5_lay_66 ?_
          refine lv_iload hx hb dX5_lay_69 (lv_at hl 2 rfl) ?_
          refine lv_aload_n hx hb dX5_lay_71 rfl (lv_at hl 3 rfl) ?_
          refine va_get (D := (dC, dI)) (ci := 5) (v := .ref (hM 0)) (C := RX5) (T := TX5) (N := 19) hx hb hts iwsMX5_lay_in5 hown hK hP 0 rfl rfl 0 (by decide) (hts (.fieldLink RX5 74 "OptimaWorks$Solver" "model" "LOptimaWorks$Model;") (by decide +kernel)) (fun _ h9 => h9) rfl dX5_lay_72 ?_
          refine va_get (D := (dC, dI)) (ci := 1) (v := .ref (aM 0)) (C := RX1) (T := TX1) (N := 17) hx hb hts iwsMX5_lay_in1 hown hK hP 11 rfl rfl 6 (by decide) (hts (.fieldLink RX5 150 "OptimaWorks$Model" "from" "[I") (by decide +kernel)) (fun _ h9 => h9) rfl dX5_lay_75 ?_
          refine lv_iload hx hb dX5_lay_78 (lv_at hl 2 rfl) ?_
          refine va_iald (cA := kM 0) (n := 8) (f := fM_from) hx hb hK hP 12 10 rfl rfl (vp_in_iff.mpr ⟨b_l4_x5.1, (Int.lt_of_lt_of_le (Int.not_le.mp t_14) (Int.le_trans b_iM_variables.2 (by decide)))⟩) dX5_lay_80 ?_
          refine lv_topi (fun v985 hv985 => ?_)
          clear hv985
          refine va_iast (cA := kO 3) (n := 8) (f := fO_start_x5) hx hb hK hP hD hS 4 3 rfl rfl (vp_in_iff.mpr ⟨b_l4_x5.1, (Int.lt_of_lt_of_le (Int.not_le.mp t_14) (Int.le_trans b_iM_variables.2 (by decide)))⟩) dX5_lay_81 (fun H locs hP hD hS => ?_)
          obtain ⟨u986, hu986⟩ : ∃ f9, f9 = upd fO_start_x5 (l4_x5).toNatClampNeg v985 := ⟨_, rfl⟩
          have hP : va_P (dC, dI) vwCl (WO hO aO kO hM hQ hw iO_answered iO_searched iO_searchedRelaxed iO_counted fO_countedCase gO_goalNumber gO_goalScale u986 u984 fO_chosen ++ (WM hM aM kM iM_stands iM_variables iM_rows iM_goals iM_differents iM_cases fM_from fM_to fM_whole fM_ways iM_plainRows fM_plainRow fM_kept fM_goalOver fM_goalUnder fM_goalMax fM_different ++ (WQ hQ aQ kQ hw fQ_inside fQ_outside fQ_shut iQ_rows iQ_allRows iQ_columns ++ (WW nW hw lw kw wl wb wG)))) H := by rw [hu986]; exact hP
          have hD : va_D A (WO hO aO kO hM hQ hw iO_answered iO_searched iO_searchedRelaxed iO_counted fO_countedCase gO_goalNumber gO_goalScale u986 u984 fO_chosen ++ (WM hM aM kM iM_stands iM_variables iM_rows iM_goals iM_differents iM_cases fM_from fM_to fM_whole fM_ways iM_plainRows fM_plainRow fM_kept fM_goalOver fM_goalUnder fM_goalMax fM_different ++ (WQ hQ aQ kQ hw fQ_inside fQ_outside fQ_shut iQ_rows iQ_allRows iQ_columns ++ (WW nW hw lw kw wl wb wG)))) := by rw [hu986]; exact hD
          clear hu986
          refine lv_iinc (v := (iI (l4_x5.toInt + 1))) hx hb dX5_lay_82 hl (k := 2) rfl (iI_add2 (iI_of _) (by decide : (1 : Int32) = iI 1)) (by decide) rfl (fun ls (hl : lv_has ls _ ([(4, .int (iI (l4_x5.toInt + 1))), (3, .int (iI (l3_x5.toInt + 1))), (5, .int 1), (0, .ref (hO 0)), (1, .int p1), (2, .int p2)])) => ?_)
          refine lv_goto (tgt := 5) hx hb dX5_lay_85 (by decide) ?_
          have hl : lv_has _ _ ([(4, .int (iI (l4_x5.toInt + 1))), (3, .int (iI (l3_x5.toInt + 1))), (0, .ref (hO 0)), (1, .int p1), (2, .int p2)]) := lv_sub hl [0, 1, 3, 4, 5] rfl
          exact ihx5 u986 u984 (iI (l4_x5.toInt + 1)) (iI (l3_x5.toInt + 1)) _ _ _ b_u984 (iI_rng (Int.le_trans (by decide) (Int.add_le_add (b_l4_x5.1) (Int.le_refl _))) (by omega) (by decide) (by decide)) (iI_rng (Int.le_trans (by decide) (Int.add_le_add (b_l3_x5.1) (Int.le_refl _))) (by omega) (by decide) (by decide)) (show (iI (l3_x5.toInt + 1)).toInt ≤ (iI (l4_x5.toInt + 1)).toInt from by (try rw [iI_t (E := l3_x5.toInt + 1) (by omega) (by omega)]); (try rw [iI_t (E := l4_x5.toInt + 1) (by omega) (by omega)]); (try rw [iI_t (E := l5_x130.toInt + 1) (by omega) (by omega)]); (try rw [iI_t (E := l6_x130.toInt + 1) (by omega) (by omega)]); (try rw [iI_t (E := l5_x200.toInt + 1) (by omega) (by omega)]); (try rw [iI_t (E := l6_x200.toInt + 1) (by omega) (by omega)]); omega) (by have e9 : ((iI (l4_x5.toInt + 1))).toInt = (l4_x5.toInt + 1) := (iI_t (Int.le_trans (by decide) (Int.add_le_add (b_l4_x5.1) (Int.le_refl _))) (Int.le_trans (Int.add_le_add (b_l4_x5.2) (Int.le_refl _)) (by decide))); omega) hP hD hS hl
      · have t_18 : p1.toInt = 0 := toI_nne c_18 rfl (by decide : (0 : Int32).toInt = 0)
        refine lv_aload_n hx hb dX5_lay_21 rfl (lv_at hl 2 rfl) ?_
        refine va_get (D := (dC, dI)) (ci := 5) (v := .ref (hM 0)) (C := RX5) (T := TX5) (N := 19) hx hb hts iwsMX5_lay_in5 hown hK hP 0 rfl rfl 0 (by decide) (hts (.fieldLink RX5 74 "OptimaWorks$Solver" "model" "LOptimaWorks$Model;") (by decide +kernel)) (fun _ h9 => h9) rfl dX5_lay_22 ?_
        refine va_get (D := (dC, dI)) (ci := 1) (v := .ref (aM 2)) (C := RX1) (T := TX1) (N := 17) hx hb hts iwsMX5_lay_in1 hown hK hP 11 rfl rfl 8 (by decide) (hts (.fieldLink RX5 143 "OptimaWorks$Model" "whole" "[Z") (by decide +kernel)) (fun _ h9 => h9) rfl dX5_lay_25 ?_
        refine lv_iload hx hb dX5_lay_28 (lv_at hl 0 rfl) ?_
        refine va_zald (cA := kM 2) (n := 8) (f := fM_whole) hx hb hK hP 14 12 rfl rfl (vp_in_iff.mpr ⟨b_l4_x5.1, (Int.lt_of_lt_of_le (Int.not_le.mp t_14) (Int.le_trans b_iM_variables.2 (by decide)))⟩) dX5_lay_30 ?_
        refine lv_topi (fun v987 hv987 => ?_)
        clear hv987
        refine lv_if_ne (tgt := 38) hx hb dX5_lay_31 (by decide) (fun c_31 => ?_) (fun c_31 => ?_)
        · have t_31 : v987.toInt ≠ 0 := toI_ne c_31 rfl (by decide : (0 : Int32).toInt = 0)
          refine lv_iconst (v := 0) hx hb dX5_lay_38 (by decide) ?_
          refine lv_istore hx hb dX5_lay_39 hl (by decide) rfl (fun ls (hl : lv_has ls _ ([(5, .int 0), (4, .int l4_x5), (3, .int l3_x5), (0, .ref (hO 0)), (1, .int p1), (2, .int p2)])) => ?_)
          refine lv_aload_n hx hb dX5_lay_41 rfl (lv_at hl 3 rfl) ?_
          refine va_get (D := (dC, dI)) (ci := 5) (v := .ref (aO 4)) (C := RX5) (T := TX5) (N := 19) hx hb hts iwsMX5_lay_in5 hown hK hP 0 rfl rfl 10 (by decide) (hts (.fieldLink RX5 38 "OptimaWorks$Solver" "column" "[I") (by decide +kernel)) (fun _ h9 => h9) rfl dX5_lay_42 ?_
          refine lv_iload hx hb dX5_lay_45 (lv_at hl 1 rfl) ?_
          refine lv_iload hx hb dX5_lay_47 (lv_at hl 0 rfl) ?_
          refine lv_if_eq (tgt := 59) hx hb dX5_lay_49 (by decide) (fun _ => ?_) (fun c9 => absurd (by decide) c9)
          refine lv_iconst (v := (-1)) hx hb dX5_lay_59 (by decide) ?_
          refine va_iast (cA := kO 4) (n := 8) (f := fO_column_x5) hx hb hK hP hD hS 5 4 rfl rfl (vp_in_iff.mpr ⟨b_l4_x5.1, (Int.lt_of_lt_of_le (Int.not_le.mp t_14) (Int.le_trans b_iM_variables.2 (by decide)))⟩) dX5_lay_60 (fun H locs hP hD hS => ?_)
          obtain ⟨u988, hu988⟩ : ∃ f9, f9 = upd fO_column_x5 (l4_x5).toNatClampNeg ((-1) : Int32) := ⟨_, rfl⟩
          have hP : va_P (dC, dI) vwCl (WO hO aO kO hM hQ hw iO_answered iO_searched iO_searchedRelaxed iO_counted fO_countedCase gO_goalNumber gO_goalScale fO_start_x5 u988 fO_chosen ++ (WM hM aM kM iM_stands iM_variables iM_rows iM_goals iM_differents iM_cases fM_from fM_to fM_whole fM_ways iM_plainRows fM_plainRow fM_kept fM_goalOver fM_goalUnder fM_goalMax fM_different ++ (WQ hQ aQ kQ hw fQ_inside fQ_outside fQ_shut iQ_rows iQ_allRows iQ_columns ++ (WW nW hw lw kw wl wb wG)))) H := by rw [hu988]; exact hP
          have hD : va_D A (WO hO aO kO hM hQ hw iO_answered iO_searched iO_searchedRelaxed iO_counted fO_countedCase gO_goalNumber gO_goalScale fO_start_x5 u988 fO_chosen ++ (WM hM aM kM iM_stands iM_variables iM_rows iM_goals iM_differents iM_cases fM_from fM_to fM_whole fM_ways iM_plainRows fM_plainRow fM_kept fM_goalOver fM_goalUnder fM_goalMax fM_different ++ (WQ hQ aQ kQ hw fQ_inside fQ_outside fQ_shut iQ_rows iQ_allRows iQ_columns ++ (WW nW hw lw kw wl wb wG)))) := by rw [hu988]; exact hD
          have b_u988 : ∀ q : Nat, (-1) ≤ (u988 q).toInt ∧ (u988 q).toInt ≤ 8 := by rw [hu988]; exact upd_r b_fO_column_x5 (show (-1) ≤ ((-1) : Int32).toInt ∧ ((-1) : Int32).toInt ≤ 8 from by decide)
          clear hu988
          refine lv_iload_n hx hb dX5_lay_61 rfl (lv_at hl 4 rfl) ?_
          refine lv_if_eq (tgt := 82) hx hb dX5_lay_62 (by decide) (fun c_62 => ?_) (fun c_62 => ?_)
          · have t_62 : p1.toInt = 0 := toI_eq c_62 rfl (by decide : (0 : Int32).toInt = 0)
            refine lv_iinc (v := (iI (l4_x5.toInt + 1))) hx hb dX5_lay_82 hl (k := 1) rfl (iI_add2 (iI_of _) (by decide : (1 : Int32) = iI 1)) (by decide) rfl (fun ls (hl : lv_has ls _ ([(4, .int (iI (l4_x5.toInt + 1))), (5, .int 0), (3, .int l3_x5), (0, .ref (hO 0)), (1, .int p1), (2, .int p2)])) => ?_)
            refine lv_goto (tgt := 5) hx hb dX5_lay_85 (by decide) ?_
            have hl : lv_has _ _ ([(4, .int (iI (l4_x5.toInt + 1))), (3, .int l3_x5), (0, .ref (hO 0)), (1, .int p1), (2, .int p2)]) := lv_sub hl [0, 2, 3, 4, 5] rfl
            exact ihx5 fO_start_x5 u988 (iI (l4_x5.toInt + 1)) l3_x5 _ _ _ b_u988 (iI_rng (Int.le_trans (by decide) (Int.add_le_add (b_l4_x5.1) (Int.le_refl _))) (by omega) (by decide) (by decide)) (b_l3_x5) (show l3_x5.toInt ≤ (iI (l4_x5.toInt + 1)).toInt from by (try rw [iI_t (E := l3_x5.toInt + 1) (by omega) (by omega)]); (try rw [iI_t (E := l4_x5.toInt + 1) (by omega) (by omega)]); (try rw [iI_t (E := l5_x130.toInt + 1) (by omega) (by omega)]); (try rw [iI_t (E := l6_x130.toInt + 1) (by omega) (by omega)]); (try rw [iI_t (E := l5_x200.toInt + 1) (by omega) (by omega)]); (try rw [iI_t (E := l6_x200.toInt + 1) (by omega) (by omega)]); omega) (by have e9 : ((iI (l4_x5.toInt + 1))).toInt = (l4_x5.toInt + 1) := (iI_t (Int.le_trans (by decide) (Int.add_le_add (b_l4_x5.1) (Int.le_refl _))) (Int.le_trans (Int.add_le_add (b_l4_x5.2) (Int.le_refl _)) (by decide))); omega) hP hD hS hl
          · have t_62 : ¬ p1.toInt = 0 := toI_neq c_62 rfl (by decide : (0 : Int32).toInt = 0)
            refine lv_aload_n hx hb dX5_lay_65 rfl (lv_at hl 3 rfl) ?_
            refine va_get (D := (dC, dI)) (ci := 5) (v := .ref (aO 3)) (C := RX5) (T := TX5) (N := 19) hx hb hts iwsMX5_lay_in5 hown hK hP 0 rfl rfl 9 (by decide) (hts (.fieldLink RX5 35 "OptimaWorks$Solver" "start" "[I") (by decide +kernel)) (fun _ h9 => h9) rfl dX5_lay_66 ?_
            refine lv_iload hx hb dX5_lay_69 (lv_at hl 1 rfl) ?_
            refine lv_aload_n hx hb dX5_lay_71 rfl (lv_at hl 3 rfl) ?_
            refine va_get (D := (dC, dI)) (ci := 5) (v := .ref (hM 0)) (C := RX5) (T := TX5) (N := 19) hx hb hts iwsMX5_lay_in5 hown hK hP 0 rfl rfl 0 (by decide) (hts (.fieldLink RX5 74 "OptimaWorks$Solver" "model" "LOptimaWorks$Model;") (by decide +kernel)) (fun _ h9 => h9) rfl dX5_lay_72 ?_
            refine va_get (D := (dC, dI)) (ci := 1) (v := .ref (aM 0)) (C := RX1) (T := TX1) (N := 17) hx hb hts iwsMX5_lay_in1 hown hK hP 11 rfl rfl 6 (by decide) (hts (.fieldLink RX5 150 "OptimaWorks$Model" "from" "[I") (by decide +kernel)) (fun _ h9 => h9) rfl dX5_lay_75 ?_
            refine lv_iload hx hb dX5_lay_78 (lv_at hl 1 rfl) ?_
            refine va_iald (cA := kM 0) (n := 8) (f := fM_from) hx hb hK hP 12 10 rfl rfl (vp_in_iff.mpr ⟨b_l4_x5.1, (Int.lt_of_lt_of_le (Int.not_le.mp t_14) (Int.le_trans b_iM_variables.2 (by decide)))⟩) dX5_lay_80 ?_
            refine lv_topi (fun v989 hv989 => ?_)
            clear hv989
            refine va_iast (cA := kO 3) (n := 8) (f := fO_start_x5) hx hb hK hP hD hS 4 3 rfl rfl (vp_in_iff.mpr ⟨b_l4_x5.1, (Int.lt_of_lt_of_le (Int.not_le.mp t_14) (Int.le_trans b_iM_variables.2 (by decide)))⟩) dX5_lay_81 (fun H locs hP hD hS => ?_)
            obtain ⟨u990, hu990⟩ : ∃ f9, f9 = upd fO_start_x5 (l4_x5).toNatClampNeg v989 := ⟨_, rfl⟩
            have hP : va_P (dC, dI) vwCl (WO hO aO kO hM hQ hw iO_answered iO_searched iO_searchedRelaxed iO_counted fO_countedCase gO_goalNumber gO_goalScale u990 u988 fO_chosen ++ (WM hM aM kM iM_stands iM_variables iM_rows iM_goals iM_differents iM_cases fM_from fM_to fM_whole fM_ways iM_plainRows fM_plainRow fM_kept fM_goalOver fM_goalUnder fM_goalMax fM_different ++ (WQ hQ aQ kQ hw fQ_inside fQ_outside fQ_shut iQ_rows iQ_allRows iQ_columns ++ (WW nW hw lw kw wl wb wG)))) H := by rw [hu990]; exact hP
            have hD : va_D A (WO hO aO kO hM hQ hw iO_answered iO_searched iO_searchedRelaxed iO_counted fO_countedCase gO_goalNumber gO_goalScale u990 u988 fO_chosen ++ (WM hM aM kM iM_stands iM_variables iM_rows iM_goals iM_differents iM_cases fM_from fM_to fM_whole fM_ways iM_plainRows fM_plainRow fM_kept fM_goalOver fM_goalUnder fM_goalMax fM_different ++ (WQ hQ aQ kQ hw fQ_inside fQ_outside fQ_shut iQ_rows iQ_allRows iQ_columns ++ (WW nW hw lw kw wl wb wG)))) := by rw [hu990]; exact hD
            clear hu990
            refine lv_iinc (v := (iI (l4_x5.toInt + 1))) hx hb dX5_lay_82 hl (k := 1) rfl (iI_add2 (iI_of _) (by decide : (1 : Int32) = iI 1)) (by decide) rfl (fun ls (hl : lv_has ls _ ([(4, .int (iI (l4_x5.toInt + 1))), (5, .int 0), (3, .int l3_x5), (0, .ref (hO 0)), (1, .int p1), (2, .int p2)])) => ?_)
            refine lv_goto (tgt := 5) hx hb dX5_lay_85 (by decide) ?_
            have hl : lv_has _ _ ([(4, .int (iI (l4_x5.toInt + 1))), (3, .int l3_x5), (0, .ref (hO 0)), (1, .int p1), (2, .int p2)]) := lv_sub hl [0, 2, 3, 4, 5] rfl
            exact ihx5 u990 u988 (iI (l4_x5.toInt + 1)) l3_x5 _ _ _ b_u988 (iI_rng (Int.le_trans (by decide) (Int.add_le_add (b_l4_x5.1) (Int.le_refl _))) (by omega) (by decide) (by decide)) (b_l3_x5) (show l3_x5.toInt ≤ (iI (l4_x5.toInt + 1)).toInt from by (try rw [iI_t (E := l3_x5.toInt + 1) (by omega) (by omega)]); (try rw [iI_t (E := l4_x5.toInt + 1) (by omega) (by omega)]); (try rw [iI_t (E := l5_x130.toInt + 1) (by omega) (by omega)]); (try rw [iI_t (E := l6_x130.toInt + 1) (by omega) (by omega)]); (try rw [iI_t (E := l5_x200.toInt + 1) (by omega) (by omega)]); (try rw [iI_t (E := l6_x200.toInt + 1) (by omega) (by omega)]); omega) (by have e9 : ((iI (l4_x5.toInt + 1))).toInt = (l4_x5.toInt + 1) := (iI_t (Int.le_trans (by decide) (Int.add_le_add (b_l4_x5.1) (Int.le_refl _))) (Int.le_trans (Int.add_le_add (b_l4_x5.2) (Int.le_refl _)) (by decide))); omega) hP hD hS hl
        · have t_31 : v987.toInt = 0 := toI_nne c_31 rfl (by decide : (0 : Int32).toInt = 0)
          refine lv_iconst (v := 1) hx hb dX5_lay_34 (by decide) ?_
          refine lv_goto (tgt := 39) hx hb dX5_lay_35 (by decide) ?_
          refine lv_istore hx hb dX5_lay_39 hl (by decide) rfl (fun ls (hl : lv_has ls _ ([(5, .int 1), (4, .int l4_x5), (3, .int l3_x5), (0, .ref (hO 0)), (1, .int p1), (2, .int p2)])) => ?_)
          refine lv_aload_n hx hb dX5_lay_41 rfl (lv_at hl 3 rfl) ?_
          refine va_get (D := (dC, dI)) (ci := 5) (v := .ref (aO 4)) (C := RX5) (T := TX5) (N := 19) hx hb hts iwsMX5_lay_in5 hown hK hP 0 rfl rfl 10 (by decide) (hts (.fieldLink RX5 38 "OptimaWorks$Solver" "column" "[I") (by decide +kernel)) (fun _ h9 => h9) rfl dX5_lay_42 ?_
          refine lv_iload hx hb dX5_lay_45 (lv_at hl 1 rfl) ?_
          refine lv_iload hx hb dX5_lay_47 (lv_at hl 0 rfl) ?_
          refine lv_if_eq (tgt := 59) hx hb dX5_lay_49 (by decide) (fun c9 => absurd c9 (by decide)) (fun _ => ?_)
          refine lv_iinc (v := (iI (l3_x5.toInt + 1))) hx hb dX5_lay_52 hl (k := 2) rfl (iI_add2 (iI_of _) (by decide : (1 : Int32) = iI 1)) (by decide) rfl (fun ls (hl : lv_has ls _ ([(3, .int (iI (l3_x5.toInt + 1))), (5, .int 1), (4, .int l4_x5), (0, .ref (hO 0)), (1, .int p1), (2, .int p2)])) => ?_)
          refine lv_iload_n hx hb dX5_lay_55 rfl (lv_at hl 0 rfl) ?_
          refine lv_goto (tgt := 60) hx hb dX5_lay_56 (by decide) ?_
          refine va_iast (cA := kO 4) (n := 8) (f := fO_column_x5) hx hb hK hP hD hS 5 4 rfl rfl (vp_in_iff.mpr ⟨b_l4_x5.1, (Int.lt_of_lt_of_le (Int.not_le.mp t_14) (Int.le_trans b_iM_variables.2 (by decide)))⟩) dX5_lay_60 (fun H locs hP hD hS => ?_)
          obtain ⟨u991, hu991⟩ : ∃ f9, f9 = upd fO_column_x5 (l4_x5).toNatClampNeg (iI (l3_x5.toInt + 1)) := ⟨_, rfl⟩
          have hP : va_P (dC, dI) vwCl (WO hO aO kO hM hQ hw iO_answered iO_searched iO_searchedRelaxed iO_counted fO_countedCase gO_goalNumber gO_goalScale fO_start_x5 u991 fO_chosen ++ (WM hM aM kM iM_stands iM_variables iM_rows iM_goals iM_differents iM_cases fM_from fM_to fM_whole fM_ways iM_plainRows fM_plainRow fM_kept fM_goalOver fM_goalUnder fM_goalMax fM_different ++ (WQ hQ aQ kQ hw fQ_inside fQ_outside fQ_shut iQ_rows iQ_allRows iQ_columns ++ (WW nW hw lw kw wl wb wG)))) H := by rw [hu991]; exact hP
          have hD : va_D A (WO hO aO kO hM hQ hw iO_answered iO_searched iO_searchedRelaxed iO_counted fO_countedCase gO_goalNumber gO_goalScale fO_start_x5 u991 fO_chosen ++ (WM hM aM kM iM_stands iM_variables iM_rows iM_goals iM_differents iM_cases fM_from fM_to fM_whole fM_ways iM_plainRows fM_plainRow fM_kept fM_goalOver fM_goalUnder fM_goalMax fM_different ++ (WQ hQ aQ kQ hw fQ_inside fQ_outside fQ_shut iQ_rows iQ_allRows iQ_columns ++ (WW nW hw lw kw wl wb wG)))) := by rw [hu991]; exact hD
          have b_u991 : ∀ q : Nat, (-1) ≤ (u991 q).toInt ∧ (u991 q).toInt ≤ 8 := by rw [hu991]; exact upd_r b_fO_column_x5 (iI_rng (Int.le_trans (by decide) (Int.add_le_add (b_l3_x5.1) (Int.le_refl _))) (by omega) (by decide) (by decide))
          clear hu991
          refine lv_iload_n hx hb dX5_lay_61 rfl (lv_at hl 4 rfl) ?_
          refine lv_if_eq (tgt := 82) hx hb dX5_lay_62 (by decide) (fun c_62 => ?_) (fun c_62 => ?_)
          · have t_62 : p1.toInt = 0 := toI_eq c_62 rfl (by decide : (0 : Int32).toInt = 0)
            refine lv_iinc (v := (iI (l4_x5.toInt + 1))) hx hb dX5_lay_82 hl (k := 2) rfl (iI_add2 (iI_of _) (by decide : (1 : Int32) = iI 1)) (by decide) rfl (fun ls (hl : lv_has ls _ ([(4, .int (iI (l4_x5.toInt + 1))), (3, .int (iI (l3_x5.toInt + 1))), (5, .int 1), (0, .ref (hO 0)), (1, .int p1), (2, .int p2)])) => ?_)
            refine lv_goto (tgt := 5) hx hb dX5_lay_85 (by decide) ?_
            have hl : lv_has _ _ ([(4, .int (iI (l4_x5.toInt + 1))), (3, .int (iI (l3_x5.toInt + 1))), (0, .ref (hO 0)), (1, .int p1), (2, .int p2)]) := lv_sub hl [0, 1, 3, 4, 5] rfl
            exact ihx5 fO_start_x5 u991 (iI (l4_x5.toInt + 1)) (iI (l3_x5.toInt + 1)) _ _ _ b_u991 (iI_rng (Int.le_trans (by decide) (Int.add_le_add (b_l4_x5.1) (Int.le_refl _))) (by omega) (by decide) (by decide)) (iI_rng (Int.le_trans (by decide) (Int.add_le_add (b_l3_x5.1) (Int.le_refl _))) (by omega) (by decide) (by decide)) (show (iI (l3_x5.toInt + 1)).toInt ≤ (iI (l4_x5.toInt + 1)).toInt from by (try rw [iI_t (E := l3_x5.toInt + 1) (by omega) (by omega)]); (try rw [iI_t (E := l4_x5.toInt + 1) (by omega) (by omega)]); (try rw [iI_t (E := l5_x130.toInt + 1) (by omega) (by omega)]); (try rw [iI_t (E := l6_x130.toInt + 1) (by omega) (by omega)]); (try rw [iI_t (E := l5_x200.toInt + 1) (by omega) (by omega)]); (try rw [iI_t (E := l6_x200.toInt + 1) (by omega) (by omega)]); omega) (by have e9 : ((iI (l4_x5.toInt + 1))).toInt = (l4_x5.toInt + 1) := (iI_t (Int.le_trans (by decide) (Int.add_le_add (b_l4_x5.1) (Int.le_refl _))) (Int.le_trans (Int.add_le_add (b_l4_x5.2) (Int.le_refl _)) (by decide))); omega) hP hD hS hl
          · have t_62 : ¬ p1.toInt = 0 := toI_neq c_62 rfl (by decide : (0 : Int32).toInt = 0)
            refine lv_aload_n hx hb dX5_lay_65 rfl (lv_at hl 3 rfl) ?_
            refine va_get (D := (dC, dI)) (ci := 5) (v := .ref (aO 3)) (C := RX5) (T := TX5) (N := 19) hx hb hts iwsMX5_lay_in5 hown hK hP 0 rfl rfl 9 (by decide) (hts (.fieldLink RX5 35 "OptimaWorks$Solver" "start" "[I") (by decide +kernel)) (fun _ h9 => h9) rfl dX5_lay_66 ?_
            refine lv_iload hx hb dX5_lay_69 (lv_at hl 2 rfl) ?_
            refine lv_aload_n hx hb dX5_lay_71 rfl (lv_at hl 3 rfl) ?_
            refine va_get (D := (dC, dI)) (ci := 5) (v := .ref (hM 0)) (C := RX5) (T := TX5) (N := 19) hx hb hts iwsMX5_lay_in5 hown hK hP 0 rfl rfl 0 (by decide) (hts (.fieldLink RX5 74 "OptimaWorks$Solver" "model" "LOptimaWorks$Model;") (by decide +kernel)) (fun _ h9 => h9) rfl dX5_lay_72 ?_
            refine va_get (D := (dC, dI)) (ci := 1) (v := .ref (aM 0)) (C := RX1) (T := TX1) (N := 17) hx hb hts iwsMX5_lay_in1 hown hK hP 11 rfl rfl 6 (by decide) (hts (.fieldLink RX5 150 "OptimaWorks$Model" "from" "[I") (by decide +kernel)) (fun _ h9 => h9) rfl dX5_lay_75 ?_
            refine lv_iload hx hb dX5_lay_78 (lv_at hl 2 rfl) ?_
            refine va_iald (cA := kM 0) (n := 8) (f := fM_from) hx hb hK hP 12 10 rfl rfl (vp_in_iff.mpr ⟨b_l4_x5.1, (Int.lt_of_lt_of_le (Int.not_le.mp t_14) (Int.le_trans b_iM_variables.2 (by decide)))⟩) dX5_lay_80 ?_
            refine lv_topi (fun v992 hv992 => ?_)
            clear hv992
            refine va_iast (cA := kO 3) (n := 8) (f := fO_start_x5) hx hb hK hP hD hS 4 3 rfl rfl (vp_in_iff.mpr ⟨b_l4_x5.1, (Int.lt_of_lt_of_le (Int.not_le.mp t_14) (Int.le_trans b_iM_variables.2 (by decide)))⟩) dX5_lay_81 (fun H locs hP hD hS => ?_)
            obtain ⟨u993, hu993⟩ : ∃ f9, f9 = upd fO_start_x5 (l4_x5).toNatClampNeg v992 := ⟨_, rfl⟩
            have hP : va_P (dC, dI) vwCl (WO hO aO kO hM hQ hw iO_answered iO_searched iO_searchedRelaxed iO_counted fO_countedCase gO_goalNumber gO_goalScale u993 u991 fO_chosen ++ (WM hM aM kM iM_stands iM_variables iM_rows iM_goals iM_differents iM_cases fM_from fM_to fM_whole fM_ways iM_plainRows fM_plainRow fM_kept fM_goalOver fM_goalUnder fM_goalMax fM_different ++ (WQ hQ aQ kQ hw fQ_inside fQ_outside fQ_shut iQ_rows iQ_allRows iQ_columns ++ (WW nW hw lw kw wl wb wG)))) H := by rw [hu993]; exact hP
            have hD : va_D A (WO hO aO kO hM hQ hw iO_answered iO_searched iO_searchedRelaxed iO_counted fO_countedCase gO_goalNumber gO_goalScale u993 u991 fO_chosen ++ (WM hM aM kM iM_stands iM_variables iM_rows iM_goals iM_differents iM_cases fM_from fM_to fM_whole fM_ways iM_plainRows fM_plainRow fM_kept fM_goalOver fM_goalUnder fM_goalMax fM_different ++ (WQ hQ aQ kQ hw fQ_inside fQ_outside fQ_shut iQ_rows iQ_allRows iQ_columns ++ (WW nW hw lw kw wl wb wG)))) := by rw [hu993]; exact hD
            clear hu993
            refine lv_iinc (v := (iI (l4_x5.toInt + 1))) hx hb dX5_lay_82 hl (k := 2) rfl (iI_add2 (iI_of _) (by decide : (1 : Int32) = iI 1)) (by decide) rfl (fun ls (hl : lv_has ls _ ([(4, .int (iI (l4_x5.toInt + 1))), (3, .int (iI (l3_x5.toInt + 1))), (5, .int 1), (0, .ref (hO 0)), (1, .int p1), (2, .int p2)])) => ?_)
            refine lv_goto (tgt := 5) hx hb dX5_lay_85 (by decide) ?_
            have hl : lv_has _ _ ([(4, .int (iI (l4_x5.toInt + 1))), (3, .int (iI (l3_x5.toInt + 1))), (0, .ref (hO 0)), (1, .int p1), (2, .int p2)]) := lv_sub hl [0, 1, 3, 4, 5] rfl
            exact ihx5 u993 u991 (iI (l4_x5.toInt + 1)) (iI (l3_x5.toInt + 1)) _ _ _ b_u991 (iI_rng (Int.le_trans (by decide) (Int.add_le_add (b_l4_x5.1) (Int.le_refl _))) (by omega) (by decide) (by decide)) (iI_rng (Int.le_trans (by decide) (Int.add_le_add (b_l3_x5.1) (Int.le_refl _))) (by omega) (by decide) (by decide)) (show (iI (l3_x5.toInt + 1)).toInt ≤ (iI (l4_x5.toInt + 1)).toInt from by (try rw [iI_t (E := l3_x5.toInt + 1) (by omega) (by omega)]); (try rw [iI_t (E := l4_x5.toInt + 1) (by omega) (by omega)]); (try rw [iI_t (E := l5_x130.toInt + 1) (by omega) (by omega)]); (try rw [iI_t (E := l6_x130.toInt + 1) (by omega) (by omega)]); (try rw [iI_t (E := l5_x200.toInt + 1) (by omega) (by omega)]); (try rw [iI_t (E := l6_x200.toInt + 1) (by omega) (by omega)]); omega) (by have e9 : ((iI (l4_x5.toInt + 1))).toInt = (l4_x5.toInt + 1) := (iI_t (Int.le_trans (by decide) (Int.add_le_add (b_l4_x5.1) (Int.le_refl _))) (Int.le_trans (Int.add_le_add (b_l4_x5.2) (Int.le_refl _)) (by decide))); omega) hP hD hS hl
end

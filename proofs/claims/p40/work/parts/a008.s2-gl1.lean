section
theorem hd_yX5_scaledNumber_RX5 : yX5_scaledNumber.cls = RX5 ∧ yX5_scaledNumber.cls ≠ "java/lang/invoke/MethodHandle" ∧ yX5_scaledNumber.cls ≠ "java/lang/invoke/VarHandle" ∧ (parseMethodDescriptor yX5_scaledNumber.desc).map (fun d => d.parameters.length) = some 2 := by decide +kernel
theorem hd_yX5_addTimes_RX5 : yX5_addTimes.cls = RX5 ∧ yX5_addTimes.cls ≠ "java/lang/invoke/MethodHandle" ∧ yX5_addTimes.cls ≠ "java/lang/invoke/VarHandle" ∧ (parseMethodDescriptor yX5_addTimes.desc).map (fun d => d.parameters.length) = some 3 := by decide +kernel
theorem dX5_layWay_0 : decode cX5_layWay 0 = .ok (.aload_n 0, 1) := dk_42 (by decide +kernel)
theorem dX5_layWay_1 : decode cX5_layWay 1 = .ok (.getfield 74, 3) := dk_180 (by decide +kernel)
theorem dX5_layWay_4 : decode cX5_layWay 4 = .ok (.iload_n 2, 1) := dk_28 (by decide +kernel)
theorem dX5_layWay_5 : decode cX5_layWay 5 = .ok (.iload_n 3, 1) := dk_29 (by decide +kernel)
theorem dX5_layWay_6 : decode cX5_layWay 6 = .ok (.invokevirtual 194, 3) := dk_182 (by decide +kernel)
theorem dX5_layWay_9 : decode cX5_layWay 9 = .ok (.istore 4, 2) := dk_54 (by decide +kernel)
theorem dX5_layWay_11 : decode cX5_layWay 11 = .ok (.iload 4, 2) := dk_21 (by decide +kernel)
theorem dX5_layWay_13 : decode cX5_layWay 13 = .ok (.ifCond .ne 7, 3) := dk_154 (by decide +kernel)
theorem dX5_layWay_16 : decode cX5_layWay 16 = .ok (.iconst (-1), 1) := dk_2 (by decide +kernel)
theorem dX5_layWay_17 : decode cX5_layWay 17 = .ok (.goto 4, 3) := dk_167 (by decide +kernel)
theorem dX5_layWay_20 : decode cX5_layWay 20 = .ok (.iconst 1, 1) := dk_4 (by decide +kernel)
theorem dX5_layWay_21 : decode cX5_layWay 21 = .ok (.istore 5, 2) := dk_54 (by decide +kernel)
theorem dX5_layWay_23 : decode cX5_layWay 23 = .ok (.iload 5, 2) := dk_21 (by decide +kernel)
theorem dX5_layWay_25 : decode cX5_layWay 25 = .ok (.ineg, 1) := dk_116 (by decide +kernel)
theorem dX5_layWay_26 : decode cX5_layWay 26 = .ok (.aload_n 0, 1) := dk_42 (by decide +kernel)
theorem dX5_layWay_27 : decode cX5_layWay 27 = .ok (.getfield 74, 3) := dk_180 (by decide +kernel)
theorem dX5_layWay_30 : decode cX5_layWay 30 = .ok (.iload_n 2, 1) := dk_28 (by decide +kernel)
theorem dX5_layWay_31 : decode cX5_layWay 31 = .ok (.iload_n 3, 1) := dk_29 (by decide +kernel)
theorem dX5_layWay_32 : decode cX5_layWay 32 = .ok (.invokevirtual 197, 3) := dk_182 (by decide +kernel)
theorem dX5_layWay_35 : decode cX5_layWay 35 = .ok (.imul, 1) := dk_104 (by decide +kernel)
theorem dX5_layWay_36 : decode cX5_layWay 36 = .ok (.istore 6, 2) := dk_54 (by decide +kernel)
theorem dX5_layWay_38 : decode cX5_layWay 38 = .ok (.iconst 0, 1) := dk_3 (by decide +kernel)
theorem dX5_layWay_39 : decode cX5_layWay 39 = .ok (.istore 7, 2) := dk_54 (by decide +kernel)
theorem dX5_layWay_41 : decode cX5_layWay 41 = .ok (.iconst 0, 1) := dk_3 (by decide +kernel)
theorem dX5_layWay_42 : decode cX5_layWay 42 = .ok (.istore 8, 2) := dk_54 (by decide +kernel)
theorem dX5_layWay_44 : decode cX5_layWay 44 = .ok (.iconst 0, 1) := dk_3 (by decide +kernel)
theorem dX5_layWay_45 : decode cX5_layWay 45 = .ok (.istore 9, 2) := dk_54 (by decide +kernel)
theorem dX5_layWay_47 : decode cX5_layWay 47 = .ok (.iload 9, 2) := dk_21 (by decide +kernel)
theorem dX5_layWay_49 : decode cX5_layWay 49 = .ok (.aload_n 0, 1) := dk_42 (by decide +kernel)
theorem dX5_layWay_50 : decode cX5_layWay 50 = .ok (.getfield 74, 3) := dk_180 (by decide +kernel)
theorem dX5_layWay_53 : decode cX5_layWay 53 = .ok (.getfield 112, 3) := dk_180 (by decide +kernel)
theorem dX5_layWay_56 : decode cX5_layWay 56 = .ok (.if_icmp .ge 125, 3) := dk_162 (by decide +kernel)
theorem dX5_layWay_59 : decode cX5_layWay 59 = .ok (.iload 5, 2) := dk_21 (by decide +kernel)
theorem dX5_layWay_61 : decode cX5_layWay 61 = .ok (.aload_n 0, 1) := dk_42 (by decide +kernel)
theorem dX5_layWay_62 : decode cX5_layWay 62 = .ok (.getfield 74, 3) := dk_180 (by decide +kernel)
theorem dX5_layWay_65 : decode cX5_layWay 65 = .ok (.iload_n 2, 1) := dk_28 (by decide +kernel)
theorem dX5_layWay_66 : decode cX5_layWay 66 = .ok (.iload_n 3, 1) := dk_29 (by decide +kernel)
theorem dX5_layWay_67 : decode cX5_layWay 67 = .ok (.iload 9, 2) := dk_21 (by decide +kernel)
theorem dX5_layWay_69 : decode cX5_layWay 69 = .ok (.invokevirtual 200, 3) := dk_182 (by decide +kernel)
theorem dX5_layWay_72 : decode cX5_layWay 72 = .ok (.imul, 1) := dk_104 (by decide +kernel)
theorem dX5_layWay_73 : decode cX5_layWay 73 = .ok (.istore 10, 2) := dk_54 (by decide +kernel)
theorem dX5_layWay_75 : decode cX5_layWay 75 = .ok (.iload 6, 2) := dk_21 (by decide +kernel)
theorem dX5_layWay_77 : decode cX5_layWay 77 = .ok (.iload 10, 2) := dk_21 (by decide +kernel)
theorem dX5_layWay_79 : decode cX5_layWay 79 = .ok (.aload_n 0, 1) := dk_42 (by decide +kernel)
theorem dX5_layWay_80 : decode cX5_layWay 80 = .ok (.getfield 35, 3) := dk_180 (by decide +kernel)
theorem dX5_layWay_83 : decode cX5_layWay 83 = .ok (.iload 9, 2) := dk_21 (by decide +kernel)
theorem dX5_layWay_85 : decode cX5_layWay 85 = .ok (.iaload, 1) := dk_46 (by decide +kernel)
theorem dX5_layWay_86 : decode cX5_layWay 86 = .ok (.imul, 1) := dk_104 (by decide +kernel)
theorem dX5_layWay_87 : decode cX5_layWay 87 = .ok (.iadd, 1) := dk_96 (by decide +kernel)
theorem dX5_layWay_88 : decode cX5_layWay 88 = .ok (.istore 6, 2) := dk_54 (by decide +kernel)
theorem dX5_layWay_90 : decode cX5_layWay 90 = .ok (.iload 10, 2) := dk_21 (by decide +kernel)
theorem dX5_layWay_92 : decode cX5_layWay 92 = .ok (.ifCond .eq 83, 3) := dk_153 (by decide +kernel)
theorem dX5_layWay_95 : decode cX5_layWay 95 = .ok (.aload_n 0, 1) := dk_42 (by decide +kernel)
theorem dX5_layWay_96 : decode cX5_layWay 96 = .ok (.getfield 38, 3) := dk_180 (by decide +kernel)
theorem dX5_layWay_99 : decode cX5_layWay 99 = .ok (.iload 9, 2) := dk_21 (by decide +kernel)
theorem dX5_layWay_101 : decode cX5_layWay 101 = .ok (.iaload, 1) := dk_46 (by decide +kernel)
theorem dX5_layWay_102 : decode cX5_layWay 102 = .ok (.iconst (-1), 1) := dk_2 (by decide +kernel)
theorem dX5_layWay_103 : decode cX5_layWay 103 = .ok (.if_icmp .eq 72, 3) := dk_159 (by decide +kernel)
theorem dX5_layWay_106 : decode cX5_layWay 106 = .ok (.aload_n 0, 1) := dk_42 (by decide +kernel)
theorem dX5_layWay_107 : decode cX5_layWay 107 = .ok (.getfield 12, 3) := dk_180 (by decide +kernel)
theorem dX5_layWay_110 : decode cX5_layWay 110 = .ok (.iload_n 1, 1) := dk_27 (by decide +kernel)
theorem dX5_layWay_111 : decode cX5_layWay 111 = .ok (.aload_n 0, 1) := dk_42 (by decide +kernel)
theorem dX5_layWay_112 : decode cX5_layWay 112 = .ok (.getfield 38, 3) := dk_180 (by decide +kernel)
theorem dX5_layWay_115 : decode cX5_layWay 115 = .ok (.iload 9, 2) := dk_21 (by decide +kernel)
theorem dX5_layWay_117 : decode cX5_layWay 117 = .ok (.iaload, 1) := dk_46 (by decide +kernel)
theorem dX5_layWay_118 : decode cX5_layWay 118 = .ok (.invokevirtual 177, 3) := dk_182 (by decide +kernel)
theorem dX5_layWay_121 : decode cX5_layWay 121 = .ok (.iload 10, 2) := dk_21 (by decide +kernel)
theorem dX5_layWay_123 : decode cX5_layWay 123 = .ok (.i2l, 1) := dk_133 (by decide +kernel)
theorem dX5_layWay_124 : decode cX5_layWay 124 = .ok (.invokevirtual 184, 3) := dk_182 (by decide +kernel)
theorem dX5_layWay_127 : decode cX5_layWay 127 = .ok (.iload 10, 2) := dk_21 (by decide +kernel)
theorem dX5_layWay_129 : decode cX5_layWay 129 = .ok (.aload_n 0, 1) := dk_42 (by decide +kernel)
theorem dX5_layWay_130 : decode cX5_layWay 130 = .ok (.getfield 74, 3) := dk_180 (by decide +kernel)
theorem dX5_layWay_133 : decode cX5_layWay 133 = .ok (.getfield 181, 3) := dk_180 (by decide +kernel)
theorem dX5_layWay_136 : decode cX5_layWay 136 = .ok (.iload 9, 2) := dk_21 (by decide +kernel)
theorem dX5_layWay_138 : decode cX5_layWay 138 = .ok (.iaload, 1) := dk_46 (by decide +kernel)
theorem dX5_layWay_139 : decode cX5_layWay 139 = .ok (.aload_n 0, 1) := dk_42 (by decide +kernel)
theorem dX5_layWay_140 : decode cX5_layWay 140 = .ok (.getfield 74, 3) := dk_180 (by decide +kernel)
theorem dX5_layWay_143 : decode cX5_layWay 143 = .ok (.getfield 150, 3) := dk_180 (by decide +kernel)
theorem dX5_layWay_146 : decode cX5_layWay 146 = .ok (.iload 9, 2) := dk_21 (by decide +kernel)
theorem dX5_layWay_148 : decode cX5_layWay 148 = .ok (.iaload, 1) := dk_46 (by decide +kernel)
theorem dX5_layWay_149 : decode cX5_layWay 149 = .ok (.isub, 1) := dk_100 (by decide +kernel)
theorem dX5_layWay_150 : decode cX5_layWay 150 = .ok (.imul, 1) := dk_104 (by decide +kernel)
theorem dX5_layWay_151 : decode cX5_layWay 151 = .ok (.istore 11, 2) := dk_54 (by decide +kernel)
theorem dX5_layWay_153 : decode cX5_layWay 153 = .ok (.iload 7, 2) := dk_21 (by decide +kernel)
theorem dX5_layWay_155 : decode cX5_layWay 155 = .ok (.iload 11, 2) := dk_21 (by decide +kernel)
theorem dX5_layWay_157 : decode cX5_layWay 157 = .ok (.iconst 0, 1) := dk_3 (by decide +kernel)
theorem dX5_layWay_158 : decode cX5_layWay 158 = .ok (.invokestatic 204, 3) := dk_184 (by decide +kernel)
theorem dX5_layWay_161 : decode cX5_layWay 161 = .ok (.iadd, 1) := dk_96 (by decide +kernel)
theorem dX5_layWay_162 : decode cX5_layWay 162 = .ok (.istore 7, 2) := dk_54 (by decide +kernel)
theorem dX5_layWay_164 : decode cX5_layWay 164 = .ok (.iload 8, 2) := dk_21 (by decide +kernel)
theorem dX5_layWay_166 : decode cX5_layWay 166 = .ok (.iload 11, 2) := dk_21 (by decide +kernel)
theorem dX5_layWay_168 : decode cX5_layWay 168 = .ok (.iconst 0, 1) := dk_3 (by decide +kernel)
theorem dX5_layWay_169 : decode cX5_layWay 169 = .ok (.invokestatic 137, 3) := dk_184 (by decide +kernel)
theorem dX5_layWay_172 : decode cX5_layWay 172 = .ok (.iadd, 1) := dk_96 (by decide +kernel)
theorem dX5_layWay_173 : decode cX5_layWay 173 = .ok (.istore 8, 2) := dk_54 (by decide +kernel)
theorem dX5_layWay_175 : decode cX5_layWay 175 = .ok (.iinc 9 1, 3) := dk_132 (by decide +kernel)
theorem dX5_layWay_178 : decode cX5_layWay 178 = .ok (.goto (-131), 3) := dk_167 (by decide +kernel)
theorem dX5_layWay_181 : decode cX5_layWay 181 = .ok (.aload_n 0, 1) := dk_42 (by decide +kernel)
theorem dX5_layWay_182 : decode cX5_layWay 182 = .ok (.getfield 12, 3) := dk_180 (by decide +kernel)
theorem dX5_layWay_185 : decode cX5_layWay 185 = .ok (.iload_n 1, 1) := dk_27 (by decide +kernel)
theorem dX5_layWay_186 : decode cX5_layWay 186 = .ok (.iconst 0, 1) := dk_3 (by decide +kernel)
theorem dX5_layWay_187 : decode cX5_layWay 187 = .ok (.invokevirtual 177, 3) := dk_182 (by decide +kernel)
theorem dX5_layWay_190 : decode cX5_layWay 190 = .ok (.iload 6, 2) := dk_21 (by decide +kernel)
theorem dX5_layWay_192 : decode cX5_layWay 192 = .ok (.i2l, 1) := dk_133 (by decide +kernel)
theorem dX5_layWay_193 : decode cX5_layWay 193 = .ok (.invokevirtual 184, 3) := dk_182 (by decide +kernel)
theorem dX5_layWay_196 : decode cX5_layWay 196 = .ok (.iload 6, 2) := dk_21 (by decide +kernel)
theorem dX5_layWay_198 : decode cX5_layWay 198 = .ok (.iload 8, 2) := dk_21 (by decide +kernel)
theorem dX5_layWay_200 : decode cX5_layWay 200 = .ok (.iadd, 1) := dk_96 (by decide +kernel)
theorem dX5_layWay_201 : decode cX5_layWay 201 = .ok (.ifCond .lt 21, 3) := dk_155 (by decide +kernel)
theorem dX5_layWay_204 : decode cX5_layWay 204 = .ok (.iload 4, 2) := dk_21 (by decide +kernel)
theorem dX5_layWay_206 : decode cX5_layWay 206 = .ok (.iconst 2, 1) := dk_5 (by decide +kernel)
theorem dX5_layWay_207 : decode cX5_layWay 207 = .ok (.if_icmp .ne 11, 3) := dk_160 (by decide +kernel)
theorem dX5_layWay_210 : decode cX5_layWay 210 = .ok (.iload 6, 2) := dk_21 (by decide +kernel)
theorem dX5_layWay_212 : decode cX5_layWay 212 = .ok (.iload 7, 2) := dk_21 (by decide +kernel)
theorem dX5_layWay_214 : decode cX5_layWay 214 = .ok (.iadd, 1) := dk_96 (by decide +kernel)
theorem dX5_layWay_215 : decode cX5_layWay 215 = .ok (.ifCond .gt 7, 3) := dk_157 (by decide +kernel)
theorem dX5_layWay_218 : decode cX5_layWay 218 = .ok (.iconst 1, 1) := dk_4 (by decide +kernel)
theorem dX5_layWay_219 : decode cX5_layWay 219 = .ok (.goto 4, 3) := dk_167 (by decide +kernel)
theorem dX5_layWay_222 : decode cX5_layWay 222 = .ok (.iconst 0, 1) := dk_3 (by decide +kernel)
theorem dX5_layWay_223 : decode cX5_layWay 223 = .ok (.ireturn, 1) := dk_172 (by decide +kernel)
def wsMX5_layWay : List Cond := .code yX5_layWay cX5_layWay 12 (some .boolean) :: ([.fieldLink RX5 74 "OptimaWorks$Solver" "model" "LOptimaWorks$Model;", .fieldLink RX5 112 "OptimaWorks$Model" "variables" "I", .fieldLink RX5 35 "OptimaWorks$Solver" "start" "[I", .fieldLink RX5 38 "OptimaWorks$Solver" "column" "[I", .fieldLink RX5 12 "OptimaWorks$Solver" "tableau" "LOptimaWorks$Tableau;", .fieldLink RX5 181 "OptimaWorks$Model" "to" "[I", .fieldLink RX5 150 "OptimaWorks$Model" "from" "[I", .methodLink RX5 204 Lib.Math.min.name, .static Lib.Math.min.name, .initialized "java/lang/Math", .code Lib.Math.min.name Lib.Math.min.code 2 (some .int), .methodLink RX5 137 Lib.Math.max.name, .static Lib.Math.max.name, .code Lib.Math.max.name Lib.Math.max.code 2 (some .int)] ++ wsX10 ++ wsX50 ++ (wsV RX5 194 RX1 yX1_sign wsMX1_sign) ++ (wsV RX5 197 RX1 yX1_rightSide wsMX1_rightSide) ++ (wsV RX5 200 RX1 yX1_number wsMX1_number) ++ (wsV RX5 177 RX6 yX6_cellAt wsMX6_cellAt) ++ (wsV RX5 184 RX8 yX8_setLong wsMX8_setLong))
theorem iwsMX5_layWay_in1 : ∀ w ∈ wsX10, w ∈ wsMX5_layWay := fun _ h => List.mem_cons_of_mem _ (List.mem_append_left _ (List.mem_append_left _ (List.mem_append_left _ (List.mem_append_left _ (List.mem_append_left _ (List.mem_append_left _ (List.mem_append_right _ h)))))))
theorem iwsMX5_layWay_in5 : ∀ w ∈ wsX50, w ∈ wsMX5_layWay := fun _ h => List.mem_cons_of_mem _ (List.mem_append_left _ (List.mem_append_left _ (List.mem_append_left _ (List.mem_append_left _ (List.mem_append_left _ (List.mem_append_right _ h))))))
theorem gwsMX5_layWay_0 : GoodIn wsMX5_layWay (wsV RX5 194 RX1 yX1_sign wsMX1_sign) := goodIn_sub (fun _ h => List.mem_cons_of_mem _ (List.mem_append_left _ (List.mem_append_left _ (List.mem_append_left _ (List.mem_append_left _ (List.mem_append_right _ h)))))) (gdV (by decide +kernel) gdwsMX1_sign)
theorem gwsMX5_layWay_1 : GoodIn wsMX5_layWay (wsV RX5 197 RX1 yX1_rightSide wsMX1_rightSide) := goodIn_sub (fun _ h => List.mem_cons_of_mem _ (List.mem_append_left _ (List.mem_append_left _ (List.mem_append_left _ (List.mem_append_right _ h))))) (gdV (by decide +kernel) gdwsMX1_rightSide)
theorem gwsMX5_layWay_2 : GoodIn wsMX5_layWay (wsV RX5 200 RX1 yX1_number wsMX1_number) := goodIn_sub (fun _ h => List.mem_cons_of_mem _ (List.mem_append_left _ (List.mem_append_left _ (List.mem_append_right _ h)))) (gdV (by decide +kernel) gdwsMX1_number)
theorem gwsMX5_layWay_3 : GoodIn wsMX5_layWay (wsV RX5 177 RX6 yX6_cellAt wsMX6_cellAt) := goodIn_sub (fun _ h => List.mem_cons_of_mem _ (List.mem_append_left _ (List.mem_append_right _ h))) (gdV (by decide +kernel) gdwsMX6_cellAt)
theorem gwsMX5_layWay_4 : GoodIn wsMX5_layWay (wsV RX5 184 RX8 yX8_setLong wsMX8_setLong) := goodIn_sub (fun _ h => List.mem_cons_of_mem _ (List.mem_append_right _ h)) (gdV (by decide +kernel) gdwsMX8_setLong)
theorem gdwsMX5_layWay : wsMX5_layWay.all goodWord = true := gdC rfl (gdA (gdA (gdA (gdA (gdA (gdA (gdA (by decide +kernel : ([.fieldLink RX5 74 "OptimaWorks$Solver" "model" "LOptimaWorks$Model;", .fieldLink RX5 112 "OptimaWorks$Model" "variables" "I", .fieldLink RX5 35 "OptimaWorks$Solver" "start" "[I", .fieldLink RX5 38 "OptimaWorks$Solver" "column" "[I", .fieldLink RX5 12 "OptimaWorks$Solver" "tableau" "LOptimaWorks$Tableau;", .fieldLink RX5 181 "OptimaWorks$Model" "to" "[I", .fieldLink RX5 150 "OptimaWorks$Model" "from" "[I", .methodLink RX5 204 Lib.Math.min.name, .static Lib.Math.min.name, .initialized "java/lang/Math", .code Lib.Math.min.name Lib.Math.min.code 2 (some .int), .methodLink RX5 137 Lib.Math.max.name, .static Lib.Math.max.name, .code Lib.Math.max.name Lib.Math.max.code 2 (some .int)] : List Cond).all goodWord = true) gdwsX10) gdwsX50) (gdV (by decide +kernel) gdwsMX1_sign)) (gdV (by decide +kernel) gdwsMX1_rightSide)) (gdV (by decide +kernel) gdwsMX1_number)) (gdV (by decide +kernel) gdwsMX6_cellAt)) (gdV (by decide +kernel) gdwsMX8_setLong))
theorem hm_m_X5_layWay_0 : (.fieldLink RX5 74 "OptimaWorks$Solver" "model" "LOptimaWorks$Model;" : Cond) ∈ wsMX5_layWay := by decide +kernel
theorem hm_m_X5_layWay_1 : (.fieldLink RX5 12 "OptimaWorks$Solver" "tableau" "LOptimaWorks$Tableau;" : Cond) ∈ wsMX5_layWay := by decide +kernel
theorem hm_m_X5_layWay_2 : (.fieldLink RX5 38 "OptimaWorks$Solver" "column" "[I" : Cond) ∈ wsMX5_layWay := by decide +kernel
theorem hm_m_X5_layWay_3 : (.initialized "java/lang/Math" : Cond) ∈ wsMX5_layWay := by decide +kernel
set_option maxHeartbeats 4000000 in
set_option maxRecDepth 100000 in
/-- a way is laid out -/
theorem m_X5_layWay (l : Launch) (dC : Nat → ClassId) (dI : Nat → Nat → Nat) (hO : Nat → Nat) (aO : Nat → Nat) (kO : Nat → ClassId) (hM : Nat → Nat) (hQ : Nat → Nat) (hw : Nat → Nat) (iO_answered : Int32) (iO_searched : Int32) (iO_searchedRelaxed : Int32) (iO_counted : Int32) (fO_countedCase : Nat → Int32) (gO_goalNumber : Nat → Int64) (gO_goalScale : Nat → Int64) (fO_start : Nat → Int32) (fO_column : Nat → Int32) (fO_chosen : Nat → Int32) (aM : Nat → Nat) (kM : Nat → ClassId) (iM_stands : Int32) (iM_variables : Int32) (iM_rows : Int32) (iM_goals : Int32) (iM_differents : Int32) (iM_cases : Int32) (fM_from : Nat → Int32) (fM_to : Nat → Int32) (fM_whole : Nat → Int32) (fM_ways : Nat → Int32) (iM_plainRows : Int32) (fM_plainRow : Nat → Int32) (fM_kept : Nat → Int32) (fM_goalOver : Nat → Int32) (fM_goalUnder : Nat → Int32) (fM_goalMax : Nat → Int32) (fM_different : Nat → Int32) (aQ : Nat → Nat) (kQ : Nat → ClassId) (fQ_inside : Nat → Int32) (fQ_outside : Nat → Int32) (fQ_shut : Nat → Int32) (iQ_rows : Int32) (iQ_allRows : Int32) (iQ_columns : Int32) (nW : Nat) (lw : Nat → Nat) (kw : ClassId) (wl : Nat → Int32) (wb : Nat → Int32) (wG : Nat → Nat → Int64) (p1 : Int32) (p2 : Int32) (p3 : Int32) (b_iO_answered : 0 ≤ iO_answered.toInt ∧ iO_answered.toInt ≤ 1) (b_iO_searched : 0 ≤ iO_searched.toInt ∧ iO_searched.toInt ≤ 1) (b_iO_searchedRelaxed : 0 ≤ iO_searchedRelaxed.toInt ∧ iO_searchedRelaxed.toInt ≤ 1) (b_iO_counted : (-1) ≤ iO_counted.toInt ∧ iO_counted.toInt ≤ 64) (b_fO_countedCase : ∀ q : Nat, 0 ≤ (fO_countedCase q).toInt ∧ (fO_countedCase q).toInt ≤ 200000) (b_fO_column : ∀ q : Nat, (-1) ≤ (fO_column q).toInt ∧ (fO_column q).toInt ≤ 8) (b_fO_chosen : ∀ q : Nat, 0 ≤ (fO_chosen q).toInt ∧ (fO_chosen q).toInt ≤ 2) (b_iM_stands : 0 ≤ iM_stands.toInt ∧ iM_stands.toInt ≤ 1) (b_iM_variables : 0 ≤ iM_variables.toInt ∧ iM_variables.toInt ≤ 8) (b_iM_rows : 0 ≤ iM_rows.toInt ∧ iM_rows.toInt ≤ 12) (b_iM_goals : 0 ≤ iM_goals.toInt ∧ iM_goals.toInt ≤ 3) (b_iM_differents : 0 ≤ iM_differents.toInt ∧ iM_differents.toInt ≤ 8) (b_iM_cases : 0 ≤ iM_cases.toInt ∧ iM_cases.toInt ≤ 200000) (b_fM_ways : ∀ q : Nat, 0 ≤ (fM_ways q).toInt ∧ (fM_ways q).toInt ≤ 3) (b_iM_plainRows : 0 ≤ iM_plainRows.toInt ∧ iM_plainRows.toInt ≤ 12) (b_fM_plainRow : ∀ q : Nat, 0 ≤ (fM_plainRow q).toInt ∧ (fM_plainRow q).toInt ≤ 11) (b_pr : iM_plainRows.toInt ≤ iM_rows.toInt) (b_iQ_rows : 0 ≤ iQ_rows.toInt ∧ iQ_rows.toInt ≤ 40) (b_iQ_allRows : 0 ≤ iQ_allRows.toInt ∧ iQ_allRows.toInt ≤ 40) (b_iQ_columns : 0 ≤ iQ_columns.toInt ∧ iQ_columns.toInt ≤ 40) (b_tb : TbO iQ_rows iQ_allRows iQ_columns) (b_wl : ∀ q : Nat, 0 ≤ (wl q).toInt ∧ (wl q).toInt ≤ 14) (b_wb : ∀ q : Nat, 0 ≤ (wb q).toInt ∧ (wb q).toInt ≤ 1) (b_p1 : 0 ≤ p1.toInt ∧ p1.toInt ≤ 39) (b_p2 : 0 ≤ p2.toInt ∧ p2.toInt ≤ 11) (b_p3 : 0 ≤ p3.toInt ∧ p3.toInt ≤ 2) (hnW : 432 ≤ nW) (hc8 : iQ_columns.toInt ≤ 8) (sz : Nat) : Met l yX5_layWay wsMX5_layWay ({ frames := 1, cells := 0, slots := 0, locals := 25 }) (va_Pc [.ref (hO 0), .int p1, .int p2, .int p3] (fun U => U.heap.size = sz ∧ va_P (dC, dI) vwCl (WO hO aO kO hM hQ hw iO_answered iO_searched iO_searchedRelaxed iO_counted fO_countedCase gO_goalNumber gO_goalScale fO_start fO_column fO_chosen ++ (WM hM aM kM iM_stands iM_variables iM_rows iM_goals iM_differents iM_cases fM_from fM_to fM_whole fM_ways iM_plainRows fM_plainRow fM_kept fM_goalOver fM_goalUnder fM_goalMax fM_different ++ (WQ hQ aQ kQ hw fQ_inside fQ_outside fQ_shut iQ_rows iQ_allRows iQ_columns ++ (WW nW hw lw kw wl wb wG)))) U.heap ∧ va_K (dC, dI) vwCl (tO kO ++ (tM kM ++ (tQ kQ ++ (tW kw)))) U ∧ va_D (fun _ => True) (WO hO aO kO hM hQ hw iO_answered iO_searched iO_searchedRelaxed iO_counted fO_countedCase gO_goalNumber gO_goalScale fO_start fO_column fO_chosen ++ (WM hM aM kM iM_stands iM_variables iM_rows iM_goals iM_differents iM_cases fM_from fM_to fM_whole fM_ways iM_plainRows fM_plainRow fM_kept fM_goalOver fM_goalUnder fM_goalMax fM_different ++ (WQ hQ aQ kQ hw fQ_inside fQ_outside fQ_shut iQ_rows iQ_allRows iQ_columns ++ (WW nW hw lw kw wl wb wG)))))) (va_Qi (fun (r : Int32) (u : (Nat → Int32) × (Nat → Int32) × (Nat → Nat → Int64)) => (∀ q : Nat, 0 ≤ ((u.1) q).toInt ∧ ((u.1) q).toInt ≤ 14) ∧ (∀ q : Nat, 0 ≤ ((u.2.1) q).toInt ∧ ((u.2.1) q).toInt ≤ 1) ∧ (0 ≤ r.toInt ∧ r.toInt ≤ 1)) (fun (u : (Nat → Int32) × (Nat → Int32) × (Nat → Nat → Int64)) t => va_P (dC, dI) vwCl (WO hO aO kO hM hQ hw iO_answered iO_searched iO_searchedRelaxed iO_counted fO_countedCase gO_goalNumber gO_goalScale fO_start fO_column fO_chosen ++ (WM hM aM kM iM_stands iM_variables iM_rows iM_goals iM_differents iM_cases fM_from fM_to fM_whole fM_ways iM_plainRows fM_plainRow fM_kept fM_goalOver fM_goalUnder fM_goalMax fM_different ++ (WQ hQ aQ kQ hw fQ_inside fQ_outside fQ_shut iQ_rows iQ_allRows iQ_columns ++ (WW nW hw lw kw (u.1) (u.2.1) (u.2.2))))) t.heap ∧ va_D (va_A (WO hO aO kO hM hQ hw iO_answered iO_searched iO_searchedRelaxed iO_counted fO_countedCase gO_goalNumber gO_goalScale fO_start fO_column fO_chosen ++ (WM hM aM kM iM_stands iM_variables iM_rows iM_goals iM_differents iM_cases fM_from fM_to fM_whole fM_ways iM_plainRows fM_plainRow fM_kept fM_goalOver fM_goalUnder fM_goalMax fM_different ++ (WQ hQ aQ kQ hw fQ_inside fQ_outside fQ_shut iQ_rows iQ_allRows iQ_columns ++ (WW nW hw lw kw wl wb wG)))) sz) (WO hO aO kO hM hQ hw iO_answered iO_searched iO_searchedRelaxed iO_counted fO_countedCase gO_goalNumber gO_goalScale fO_start fO_column fO_chosen ++ (WM hM aM kM iM_stands iM_variables iM_rows iM_goals iM_differents iM_cases fM_from fM_to fM_whole fM_ways iM_plainRows fM_plainRow fM_kept fM_goalOver fM_goalUnder fM_goalMax fM_different ++ (WQ hQ aQ kQ hw fQ_inside fQ_outside fQ_shut iQ_rows iQ_allRows iQ_columns ++ (WW nW hw lw kw (u.1) (u.2.1) (u.2.2)))))) (va_A (WO hO aO kO hM hQ hw iO_answered iO_searched iO_searchedRelaxed iO_counted fO_countedCase gO_goalNumber gO_goalScale fO_start fO_column fO_chosen ++ (WM hM aM kM iM_stands iM_variables iM_rows iM_goals iM_differents iM_cases fM_from fM_to fM_whole fM_ways iM_plainRows fM_plainRow fM_kept fM_goalOver fM_goalUnder fM_goalMax fM_different ++ (WQ hQ aQ kQ hw fQ_inside fQ_outside fQ_shut iQ_rows iQ_allRows iQ_columns ++ (WW nW hw lw kw wl wb wG)))) sz)) 0 0 (va_A (WO hO aO kO hM hQ hw iO_answered iO_searched iO_searchedRelaxed iO_counted fO_countedCase gO_goalNumber gO_goalScale fO_start fO_column fO_chosen ++ (WM hM aM kM iM_stands iM_variables iM_rows iM_goals iM_differents iM_cases fM_from fM_to fM_whole fM_ways iM_plainRows fM_plainRow fM_kept fM_goalOver fM_goalUnder fM_goalMax fM_different ++ (WQ hQ aQ kQ hw fQ_inside fQ_outside fQ_shut iQ_rows iQ_allRows iQ_columns ++ (WW nW hw lw kw wl wb wG)))) sz) := by
  refine Met.ofW (cc := cX5_layWay) (maxL := 12) (ret := (some .boolean)) (by decide) rfl ?_
  intro p e s m args below meth c s₁ B hml hv
  obtain ⟨rfl, hsz, hP, hK, hD0⟩ := hv
  have hx := B.exec
  have hb := B.bytes
  have hr := B.returns
  have hts := atoms_spec (ws := wsMX5_layWay) B.pre
  have hown : s.vm.findClass RX5 = some m.cls := findClass_of_methodNamed B.named
  have hlocks := B.notSynchronized
  subst hsz
  have hD := hD0.self (sz := s.heap.size)
  generalize hAe : va_A (WO hO aO kO hM hQ hw iO_answered iO_searched iO_searchedRelaxed iO_counted fO_countedCase gO_goalNumber gO_goalScale fO_start fO_column fO_chosen ++ (WM hM aM kM iM_stands iM_variables iM_rows iM_goals iM_differents iM_cases fM_from fM_to fM_whole fM_ways iM_plainRows fM_plainRow fM_kept fM_goalOver fM_goalUnder fM_goalMax fM_different ++ (WQ hQ aQ kQ hw fQ_inside fQ_outside fQ_shut iQ_rows iQ_allRows iQ_columns ++ (WW nW hw lw kw wl wb wG)))) s.heap.size = A at hD ⊢
  have hA : ∀ q : Nat, s.heap.size ≤ q → A q := fun q h => by rw [← hAe]; exact Or.inr h
  have hS : va_S A s.heap s.heap [] := va_S.rf
  have hl := lv_entry ([.ref (hO 0), .int p1, .int p2, .int p3]) (n := 12) (Nat.le_of_ble_eq_true rfl)
  rw [lg_entry_eq]
  generalize (lg_sl ([.ref (hO 0), .int p1, .int p2, .int p3]) ++ List.replicate (12 - (lg_sl ([.ref (hO 0), .int p1, .int p2, .int p3])).length) Slot.unset).toArray = ls at hl ⊢
  have hl : lv_has ls 12 [(0, .ref (hO 0)), (1, .int p1), (2, .int p2), (3, .int p3)] := hl
  refine lv_aload_n hx hb dX5_layWay_0 rfl (lv_at hl 0 rfl) ?_
  refine va_get (D := (dC, dI)) (ci := 5) (v := .ref (hM 0)) (C := RX5) (T := TX5) (N := 19) hx hb hts iwsMX5_layWay_in5 hown hK hP 0 rfl rfl 0 (by decide) (hts _ hm_m_X5_layWay_0) (fun _ h9 => h9) rfl dX5_layWay_1 ?_
  refine lv_iload_n hx hb dX5_layWay_4 rfl (lv_at hl 2 rfl) ?_
  refine lv_iload_n hx hb dX5_layWay_5 rfl (lv_at hl 3 rfl) ?_
  have p9 := cj_4_1 (WO hO aO kO hM hQ hw iO_answered iO_searched iO_searchedRelaxed iO_counted fO_countedCase gO_goalNumber gO_goalScale fO_start fO_column fO_chosen) (WM hM aM kM iM_stands iM_variables iM_rows iM_goals iM_differents iM_cases fM_from fM_to fM_whole fM_ways iM_plainRows fM_plainRow fM_kept fM_goalOver fM_goalUnder fM_goalMax fM_different) (WQ hQ aQ kQ hw fQ_inside fQ_outside fQ_shut iQ_rows iQ_allRows iQ_columns) (WW nW hw lw kw wl wb wG)
  have hPc := hP.mem (fun q h => p9.mem_iff.mpr (List.mem_append_left _ h))
  have hDc := (hD.perm p9).left
  have hKc : va_K (dC, dI) vwCl (tM kM) _ := hK.sub [10, 11, 12, 13, 14, 15, 16, 17, 18, 19] rfl
  have hFc := freeG p9 hD hS hA
  refine va_calli (va_runV (As := [.int p2, .int p3]) (rest := []) ⟨hx, hb, hml, hown, hts⟩ (m_X1_sign l dC dI hM aM kM iM_stands iM_variables iM_rows iM_goals iM_differents iM_cases fM_from fM_to fM_whole fM_ways iM_plainRows fM_plainRow fM_kept fM_goalOver fM_goalUnder fM_goalMax fM_different p2 p3 (b_iM_stands) (b_iM_variables) (b_iM_rows) (b_iM_goals) (b_iM_differents) (b_iM_cases) b_fM_ways (b_iM_plainRows) b_fM_plainRow (by first | with_reducible assumption | omega | assumption) (b_p2) (b_p3) s.heap.size) (cwV 2 hts gwsMX5_layWay_0 rfl rfl rfl hd_yX1_sign_RX1 (by decide +kernel)) (fz_pre (va_recv hK hP (ci := 1) (q0 := 11) rfl rfl) hPc hKc hDc) rfl rfl hl.1 rfl (lv_room (Nat.le_of_ble_eq_true rfl)) dX5_layWay_6 (by decide +kernel)) hS (fun q _ h => hFc q h) hFc (fun r1 u t9_ H locs ht hvm hw9 hB9 hz1 hk1 hS => ?_)
  clear hw9
  have p8 := p9
  obtain ⟨hP, hD⟩ := frameG p9 p8 hP hD hk1 hFc (fz_P ht hB9.1) hB9.2
  refine lv_istore hx hb dX5_layWay_9 hl (by decide) rfl (fun ls (hl : lv_has ls _ ([(4, .int r1), (0, .ref (hO 0)), (1, .int p1), (2, .int p2), (3, .int p3)])) => ?_)
  refine lv_iload hx hb dX5_layWay_11 (lv_at hl 0 rfl) ?_
  refine W.cut (pc := 21) (fun H locs ls stk => ∃ (k0_j11 : Int32), ((-1) ≤ k0_j11.toInt ∧ k0_j11.toInt ≤ 1) ∧  stk = [.int k0_j11] ∧ va_P (dC, dI) vwCl (WO hO aO kO hM hQ hw iO_answered iO_searched iO_searchedRelaxed iO_counted fO_countedCase gO_goalNumber gO_goalScale fO_start fO_column fO_chosen ++ (WM hM aM kM iM_stands iM_variables iM_rows iM_goals iM_differents iM_cases fM_from fM_to fM_whole fM_ways iM_plainRows fM_plainRow fM_kept fM_goalOver fM_goalUnder fM_goalMax fM_different ++ (WQ hQ aQ kQ hw fQ_inside fQ_outside fQ_shut iQ_rows iQ_allRows iQ_columns ++ (WW nW hw lw kw wl wb wG)))) H ∧ va_D A (WO hO aO kO hM hQ hw iO_answered iO_searched iO_searchedRelaxed iO_counted fO_countedCase gO_goalNumber gO_goalScale fO_start fO_column fO_chosen ++ (WM hM aM kM iM_stands iM_variables iM_rows iM_goals iM_differents iM_cases fM_from fM_to fM_whole fM_ways iM_plainRows fM_plainRow fM_kept fM_goalOver fM_goalUnder fM_goalMax fM_different ++ (WQ hQ aQ kQ hw fQ_inside fQ_outside fQ_shut iQ_rows iQ_allRows iQ_columns ++ (WW nW hw lw kw wl wb wG)))) ∧ va_S A s.heap H locs ∧ lv_has ls 12 [(4, .int r1), (0, .ref (hO 0)), (1, .int p1), (2, .int p2), (3, .int p3)]) (fun join11 => ?_) ?_
  · refine lv_if_ne (tgt := 20) hx hb dX5_layWay_13 (by decide) (fun c_13 => ?_) (fun c_13 => ?_)
    · have t_13 : r1.toInt ≠ 0 := toI_ne c_13 rfl (by decide : (0 : Int32).toInt = 0)
      refine lv_iconst (v := 1) hx hb dX5_layWay_20 (by decide) ?_
      have hl : lv_has _ _ ([(4, .int r1), (0, .ref (hO 0)), (1, .int p1), (2, .int p2), (3, .int p3)]) := lv_sub hl [0, 1, 2, 3, 4] rfl
      exact join11 _ _ _ _ ⟨1, (show (-1) ≤ (1 : Int32).toInt ∧ (1 : Int32).toInt ≤ 1 from by decide), rfl, hP, hD, hS, hl⟩
    · have t_13 : r1.toInt = 0 := toI_nne c_13 rfl (by decide : (0 : Int32).toInt = 0)
      refine lv_iconst (v := (-1)) hx hb dX5_layWay_16 (by decide) ?_
      refine lv_goto (tgt := 21) hx hb dX5_layWay_17 (by decide) ?_
      have hl : lv_has _ _ ([(4, .int r1), (0, .ref (hO 0)), (1, .int p1), (2, .int p2), (3, .int p3)]) := lv_sub hl [0, 1, 2, 3, 4] rfl
      exact join11 _ _ _ _ ⟨(-1), (show (-1) ≤ ((-1) : Int32).toInt ∧ ((-1) : Int32).toInt ≤ 1 from by decide), rfl, hP, hD, hS, hl⟩
  · rintro H locs ls stk ⟨k0_j11, b_k0_j11, rfl, hP, hD, hS, hl⟩
    refine lv_istore hx hb dX5_layWay_21 hl (by decide) rfl (fun ls (hl : lv_has ls _ ([(5, .int k0_j11), (4, .int r1), (0, .ref (hO 0)), (1, .int p1), (2, .int p2), (3, .int p3)])) => ?_)
    refine lv_iload hx hb dX5_layWay_23 (lv_at hl 0 rfl) ?_
    refine lv_ineg hx hb dX5_layWay_25 ?_
    refine lv_topi (fun y2 hy2 => ?_)
    obtain rfl : (iI (-k0_j11.toInt)) = y2 := (hy2.trans (iI_neg2 (iI_of _))).symm
    refine lv_aload_n hx hb dX5_layWay_26 rfl (lv_at hl 2 rfl) ?_
    refine va_get (D := (dC, dI)) (ci := 5) (v := .ref (hM 0)) (C := RX5) (T := TX5) (N := 19) hx hb hts iwsMX5_layWay_in5 hown hK hP 0 rfl rfl 0 (by decide) (hts _ hm_m_X5_layWay_0) (fun _ h9 => h9) rfl dX5_layWay_27 ?_
    refine lv_iload_n hx hb dX5_layWay_30 rfl (lv_at hl 4 rfl) ?_
    refine lv_iload_n hx hb dX5_layWay_31 rfl (lv_at hl 5 rfl) ?_
    have p9 := cj_4_1 (WO hO aO kO hM hQ hw iO_answered iO_searched iO_searchedRelaxed iO_counted fO_countedCase gO_goalNumber gO_goalScale fO_start fO_column fO_chosen) (WM hM aM kM iM_stands iM_variables iM_rows iM_goals iM_differents iM_cases fM_from fM_to fM_whole fM_ways iM_plainRows fM_plainRow fM_kept fM_goalOver fM_goalUnder fM_goalMax fM_different) (WQ hQ aQ kQ hw fQ_inside fQ_outside fQ_shut iQ_rows iQ_allRows iQ_columns) (WW nW hw lw kw wl wb wG)
    have hPc := hP.mem (fun q h => p9.mem_iff.mpr (List.mem_append_left _ h))
    have hDc := (hD.perm p9).left
    have hKc : va_K (dC, dI) vwCl (tM kM) _ := hK.sub [10, 11, 12, 13, 14, 15, 16, 17, 18, 19] rfl
    have hFc := freeG p9 hD hS hA
    refine va_calli (va_runV (As := [.int p2, .int p3]) (rest := [.int (iI (-k0_j11.toInt))]) ⟨hx, hb, hml, hown, hts⟩ (m_X1_rightSide l dC dI hM aM kM iM_stands iM_variables iM_rows iM_goals iM_differents iM_cases fM_from fM_to fM_whole fM_ways iM_plainRows fM_plainRow fM_kept fM_goalOver fM_goalUnder fM_goalMax fM_different p2 p3 (b_iM_stands) (b_iM_variables) (b_iM_rows) (b_iM_goals) (b_iM_differents) (b_iM_cases) b_fM_ways (b_iM_plainRows) b_fM_plainRow (by first | with_reducible assumption | omega | assumption) (b_p2) (b_p3) H.size) (cwV 2 hts gwsMX5_layWay_1 rfl rfl rfl hd_yX1_rightSide_RX1 (by decide +kernel)) (fz_pre (va_recv hK hP (ci := 1) (q0 := 11) rfl rfl) hPc hKc hDc) rfl rfl hl.1 rfl (lv_room (Nat.le_of_ble_eq_true rfl)) dX5_layWay_32 (by decide +kernel)) hS (fun q _ h => hFc q h) hFc (fun r3 u t9_ H locs ht hvm hw9 hB9 hz1 hk1 hS => ?_)
    clear hw9
    have p8 := p9
    obtain ⟨hP, hD⟩ := frameG p9 p8 hP hD hk1 hFc (fz_P ht hB9.1) hB9.2
    refine lv_imul hx hb dX5_layWay_35 ?_
    refine lv_topi (fun y4 hy4 => ?_)
    obtain rfl : (iI ((-k0_j11.toInt) * r3.toInt)) = y4 := (hy4.trans (iI_mul2 rfl (iI_of _))).symm
    refine lv_istore hx hb dX5_layWay_36 hl (by decide) rfl (fun ls (hl : lv_has ls _ ([(6, .int (iI ((-k0_j11.toInt) * r3.toInt))), (5, .int k0_j11), (4, .int r1), (0, .ref (hO 0)), (1, .int p1), (2, .int p2), (3, .int p3)])) => ?_)
    refine lv_iconst (v := 0) hx hb dX5_layWay_38 (by decide) ?_
    refine lv_istore hx hb dX5_layWay_39 hl (by decide) rfl (fun ls (hl : lv_has ls _ ([(7, .int 0), (6, .int (iI ((-k0_j11.toInt) * r3.toInt))), (5, .int k0_j11), (4, .int r1), (0, .ref (hO 0)), (1, .int p1), (2, .int p2), (3, .int p3)])) => ?_)
    refine lv_iconst (v := 0) hx hb dX5_layWay_41 (by decide) ?_
    refine lv_istore hx hb dX5_layWay_42 hl (by decide) rfl (fun ls (hl : lv_has ls _ ([(8, .int 0), (7, .int 0), (6, .int (iI ((-k0_j11.toInt) * r3.toInt))), (5, .int k0_j11), (4, .int r1), (0, .ref (hO 0)), (1, .int p1), (2, .int p2), (3, .int p3)])) => ?_)
    refine lv_iconst (v := 0) hx hb dX5_layWay_44 (by decide) ?_
    refine lv_istore hx hb dX5_layWay_45 hl (by decide) rfl (fun ls (hl : lv_has ls _ ([(9, .int 0), (8, .int 0), (7, .int 0), (6, .int (iI ((-k0_j11.toInt) * r3.toInt))), (5, .int k0_j11), (4, .int r1), (0, .ref (hO 0)), (1, .int p1), (2, .int p2), (3, .int p3)])) => ?_)
    have hl : lv_has _ _ ([(9, .int 0), (8, .int 0), (7, .int 0), (6, .int (iI ((-k0_j11.toInt) * r3.toInt))), (5, .int k0_j11), (4, .int r1), (0, .ref (hO 0)), (1, .int p1), (2, .int p2), (3, .int p3)]) := lv_sub hl [0, 1, 2, 3, 4, 5, 6, 7, 8, 9] rfl
    refine (fun (loop : ∀ (n9 : Nat) (wl_x47 : Nat → Int32) (wb_x47 : Nat → Int32) (wG_x47 : Nat → Nat → Int64) (l9_x47 : Int32) (l8_x47 : Int32) (l7_x47 : Int32) (l6_x47 : Int32) (H : Heap) (locs : List Loc) (ls : Array Slot), (∀ q : Nat, 0 ≤ (wl_x47 q).toInt ∧ (wl_x47 q).toInt ≤ 14) → (∀ q : Nat, 0 ≤ (wb_x47 q).toInt ∧ (wb_x47 q).toInt ≤ 1) → (0 ≤ l9_x47.toInt ∧ l9_x47.toInt ≤ 8) → (8 - l9_x47.toInt < ((n9 : Nat) : Int)) → va_P (dC, dI) vwCl (WO hO aO kO hM hQ hw iO_answered iO_searched iO_searchedRelaxed iO_counted fO_countedCase gO_goalNumber gO_goalScale fO_start fO_column fO_chosen ++ (WM hM aM kM iM_stands iM_variables iM_rows iM_goals iM_differents iM_cases fM_from fM_to fM_whole fM_ways iM_plainRows fM_plainRow fM_kept fM_goalOver fM_goalUnder fM_goalMax fM_different ++ (WQ hQ aQ kQ hw fQ_inside fQ_outside fQ_shut iQ_rows iQ_allRows iQ_columns ++ (WW nW hw lw kw wl_x47 wb_x47 wG_x47)))) H → va_D A (WO hO aO kO hM hQ hw iO_answered iO_searched iO_searchedRelaxed iO_counted fO_countedCase gO_goalNumber gO_goalScale fO_start fO_column fO_chosen ++ (WM hM aM kM iM_stands iM_variables iM_rows iM_goals iM_differents iM_cases fM_from fM_to fM_whole fM_ways iM_plainRows fM_plainRow fM_kept fM_goalOver fM_goalUnder fM_goalMax fM_different ++ (WQ hQ aQ kQ hw fQ_inside fQ_outside fQ_shut iQ_rows iQ_allRows iQ_columns ++ (WW nW hw lw kw wl_x47 wb_x47 wG_x47)))) → va_S A s.heap H locs → lv_has ls 12 [(9, .int l9_x47), (8, .int l8_x47), (7, .int l7_x47), (6, .int l6_x47), (5, .int k0_j11), (4, .int r1), (0, .ref (hO 0)), (1, .int p1), (2, .int p2), (3, .int p3)] → W p l e _ s m _ below meth c H locs 0 0 _ (F0 m 47 ls [])) => loop (9) wl wb wG 0 0 0 (iI ((-k0_j11.toInt) * r3.toInt)) _ _ _ b_wl b_wb (show 0 ≤ (0 : Int32).toInt ∧ (0 : Int32).toInt ≤ 8 from by decide) ((by have e9 : (0 : Int32).toInt = 0 := (by decide : (0 : Int32).toInt = 0); omega)) hP hD hS hl) ?_
    intro n9
    induction n9 with
    | zero => intro wl_x47 wb_x47 wG_x47 l9_x47 l8_x47 l7_x47 l6_x47 H locs ls b_wl_x47 b_wb_x47 b_l9_x47 hf9; exact False.elim (by omega)
    | succ n9 ihx47 =>
      intro wl_x47 wb_x47 wG_x47 l9_x47 l8_x47 l7_x47 l6_x47 H locs ls b_wl_x47 b_wb_x47 b_l9_x47 hfx47 hP hD hS hl
      refine lv_iload hx hb dX5_layWay_47 (lv_at hl 0 rfl) ?_
      refine lv_aload_n hx hb dX5_layWay_49 rfl (lv_at hl 6 rfl) ?_
      refine va_get (D := (dC, dI)) (ci := 5) (v := .ref (hM 0)) (C := RX5) (T := TX5) (N := 19) hx hb hts iwsMX5_layWay_in5 hown hK hP 0 rfl rfl 0 (by decide) (hts _ hm_m_X5_layWay_0) (fun _ h9 => h9) rfl dX5_layWay_50 ?_
      refine va_get (D := (dC, dI)) (ci := 1) (v := .int iM_variables) (C := RX1) (T := TX1) (N := 17) hx hb hts iwsMX5_layWay_in1 hown hK hP 11 rfl rfl 1 (by decide) (hts (.fieldLink RX5 112 "OptimaWorks$Model" "variables" "I") (by decide +kernel)) (fun _ h9 => h9) rfl dX5_layWay_53 ?_
      refine lv_icmp_ge (tgt := 181) hx hb dX5_layWay_56 (by decide) (fun c_56 => ?_) (fun c_56 => ?_)
      · have t_56 : l9_x47.toInt ≥ iM_variables.toInt := toI_ge c_56 rfl rfl
        refine lv_aload_n hx hb dX5_layWay_181 rfl (lv_at hl 6 rfl) ?_
        refine va_get (D := (dC, dI)) (ci := 5) (v := .ref (hQ 0)) (C := RX5) (T := TX5) (N := 19) hx hb hts iwsMX5_layWay_in5 hown hK hP 0 rfl rfl 1 (by decide) (hts _ hm_m_X5_layWay_1) (fun _ h9 => h9) rfl dX5_layWay_182 ?_
        refine lv_iload_n hx hb dX5_layWay_185 rfl (lv_at hl 7 rfl) ?_
        refine lv_iconst (v := 0) hx hb dX5_layWay_186 (by decide) ?_
        have p9 := cj_4_2_3 (WO hO aO kO hM hQ hw iO_answered iO_searched iO_searchedRelaxed iO_counted fO_countedCase gO_goalNumber gO_goalScale fO_start fO_column fO_chosen) (WM hM aM kM iM_stands iM_variables iM_rows iM_goals iM_differents iM_cases fM_from fM_to fM_whole fM_ways iM_plainRows fM_plainRow fM_kept fM_goalOver fM_goalUnder fM_goalMax fM_different) (WQ hQ aQ kQ hw fQ_inside fQ_outside fQ_shut iQ_rows iQ_allRows iQ_columns) (WW nW hw lw kw wl_x47 wb_x47 wG_x47)
        have hPc := hP.mem (fun q h => p9.mem_iff.mpr (List.mem_append_left _ h))
        have hDc := (hD.perm p9).left
        have hKc : va_K (dC, dI) vwCl (tQ kQ ++ (tW kw)) _ := hK.sub [20, 21, 22, 23, 24] rfl
        have hFc := freeG p9 hD hS hA
        refine va_callr (va_runV (As := [.int p1, .int 0]) (rest := []) ⟨hx, hb, hml, hown, hts⟩ (m_X6_cellAt l dC dI hQ aQ kQ hw fQ_inside fQ_outside fQ_shut iQ_rows iQ_allRows iQ_columns nW lw kw wl_x47 wb_x47 wG_x47 p1 0 (b_iQ_rows) (b_iQ_allRows) (b_iQ_columns) (by first | with_reducible assumption | omega | assumption) b_wl_x47 b_wb_x47 (b_p1) (show 0 ≤ (0 : Int32).toInt ∧ (0 : Int32).toInt ≤ 40 from by decide) (by omega) ((by have h9 := ix_small (i := p1.toInt) (j := 0) (c := iQ_columns.toInt) (by omega) (by omega) (by omega) (by omega) (by omega) (by omega); have h8 : (0 : Int32).toInt = 0 := (by decide); rw [h8]; exact h9)) H.size) (cwV 2 hts gwsMX5_layWay_3 rfl rfl rfl hd_yX6_cellAt_RX6 (by decide +kernel)) (fz_pre (va_recv hK hP (ci := 6) (q0 := 22) rfl rfl) hPc hKc hDc) rfl rfl hl.1 rfl (lv_room (Nat.le_of_ble_eq_true rfl)) dX5_layWay_187 (by decide +kernel)) hS (fun q _ h => hFc q h) hFc (fun kR_172 ra172 t9_ H locs ht hvm hw9 hB9 hz1 hk1 hS => ?_)
        revert hB9
        refine fz_a2 ?_
        intro hra hB9
        subst hra
        have f172_0 := hw9
        try dsimp only at f172_0
        have p8 := p9
        obtain ⟨hP, hD⟩ := frameG p9 p8 hP hD hk1 hFc (fz_P ht hB9.1) hB9.2
        refine lv_iload hx hb dX5_layWay_190 (lv_at hl 3 rfl) ?_
        refine lv_i2l hx hb dX5_layWay_192 rfl ?_
        refine lv_topl (fun v173 hv173 => ?_)
        clear hv173
        have p9 := cj_4_3 (WO hO aO kO hM hQ hw iO_answered iO_searched iO_searchedRelaxed iO_counted fO_countedCase gO_goalNumber gO_goalScale fO_start fO_column fO_chosen) (WM hM aM kM iM_stands iM_variables iM_rows iM_goals iM_differents iM_cases fM_from fM_to fM_whole fM_ways iM_plainRows fM_plainRow fM_kept fM_goalOver fM_goalUnder fM_goalMax fM_different) (WQ hQ aQ kQ hw fQ_inside fQ_outside fQ_shut iQ_rows iQ_allRows iQ_columns) (WW nW hw lw kw wl_x47 wb_x47 wG_x47)
        have hPc := hP.mem (fun q h => p9.mem_iff.mpr (List.mem_append_left _ h))
        have hDc := (hD.perm p9).left
        have hKc : va_K (dC, dI) vwCl (tW kw) _ := hK.sub [24] rfl
        have hFc := freeG p9 hD hS hA
        refine va_callv (va_runV (As := [.long v173]) (rest := []) ⟨hx, hb, hml, hown, hts⟩ (m_X8_setLong l dC dI nW hw lw kw wl_x47 wb_x47 wG_x47 kR_172 v173 b_wl_x47 b_wb_x47 (by first | with_reducible assumption | omega | (rw [iI_t (by omega) (by omega)]; omega) | decide | assumption) H.size) (cwV 1 hts gwsMX5_layWay_4 rfl rfl rfl hd_yX8_setLong_RX8 (by decide +kernel)) (fz_pre (va_recv hK hP (ci := 8) (q0 := 11 + (11 + (5 + (kR_172)))) rfl (apR rfl (apR rfl (apR rfl (WW_o (by omega)))))) hPc hKc hDc) rfl rfl hl.1 rfl (lv_room (Nat.le_of_ble_eq_true rfl)) dX5_layWay_193 (by decide +kernel)) hS (fun q _ h => hFc q h) hFc (fun u t9_ H locs ht hvm hw9 hB9 hz1 hk1 hS => ?_)
        revert u hw9 hB9
        refine fz_p3 ?_
        intro wl_174 wb_174 wG_174 hw9 hB9
        try dsimp only at hw9 hB9
        revert hw9
        refine fz_a2 ?_
        intro b_wl_174 b_wb_174
        have p8 := cj_4_3 (WO hO aO kO hM hQ hw iO_answered iO_searched iO_searchedRelaxed iO_counted fO_countedCase gO_goalNumber gO_goalScale fO_start fO_column fO_chosen) (WM hM aM kM iM_stands iM_variables iM_rows iM_goals iM_differents iM_cases fM_from fM_to fM_whole fM_ways iM_plainRows fM_plainRow fM_kept fM_goalOver fM_goalUnder fM_goalMax fM_different) (WQ hQ aQ kQ hw fQ_inside fQ_outside fQ_shut iQ_rows iQ_allRows iQ_columns) (WW nW hw lw kw wl_174 wb_174 wG_174)
        obtain ⟨hP, hD⟩ := frameG p9 p8 hP hD hk1 hFc (fz_P ht hB9.1) hB9.2
        refine lv_iload hx hb dX5_layWay_196 (lv_at hl 3 rfl) ?_
        refine lv_iload hx hb dX5_layWay_198 (lv_at hl 1 rfl) ?_
        refine lv_iadd hx hb dX5_layWay_200 ?_
        refine lv_topi (fun y175 hy175 => ?_)
        obtain rfl : (iI (l6_x47.toInt + l8_x47.toInt)) = y175 := (hy175.trans (iI_add2 (iI_of _) (iI_of _))).symm
        refine W.cut (pc := 223) (fun H locs ls stk => ∃ (k0_j19 : Int32), (0 ≤ k0_j19.toInt ∧ k0_j19.toInt ≤ 1) ∧  stk = [.int k0_j19] ∧ va_P (dC, dI) vwCl (WO hO aO kO hM hQ hw iO_answered iO_searched iO_searchedRelaxed iO_counted fO_countedCase gO_goalNumber gO_goalScale fO_start fO_column fO_chosen ++ (WM hM aM kM iM_stands iM_variables iM_rows iM_goals iM_differents iM_cases fM_from fM_to fM_whole fM_ways iM_plainRows fM_plainRow fM_kept fM_goalOver fM_goalUnder fM_goalMax fM_different ++ (WQ hQ aQ kQ hw fQ_inside fQ_outside fQ_shut iQ_rows iQ_allRows iQ_columns ++ (WW nW hw lw kw wl_174 wb_174 wG_174)))) H ∧ va_D A (WO hO aO kO hM hQ hw iO_answered iO_searched iO_searchedRelaxed iO_counted fO_countedCase gO_goalNumber gO_goalScale fO_start fO_column fO_chosen ++ (WM hM aM kM iM_stands iM_variables iM_rows iM_goals iM_differents iM_cases fM_from fM_to fM_whole fM_ways iM_plainRows fM_plainRow fM_kept fM_goalOver fM_goalUnder fM_goalMax fM_different ++ (WQ hQ aQ kQ hw fQ_inside fQ_outside fQ_shut iQ_rows iQ_allRows iQ_columns ++ (WW nW hw lw kw wl_174 wb_174 wG_174)))) ∧ va_S A s.heap H locs ∧ lv_has ls 12 [(9, .int l9_x47), (8, .int l8_x47), (7, .int l7_x47), (6, .int l6_x47), (5, .int k0_j11), (4, .int r1), (0, .ref (hO 0)), (1, .int p1), (2, .int p2), (3, .int p3)]) (fun join19 => ?_) ?_
        · refine lv_if_lt (tgt := 222) hx hb dX5_layWay_201 (by decide) (fun c_201 => ?_) (fun c_201 => ?_)
          · first | (have t_201 : (l6_x47.toInt + l8_x47.toInt) < 0 := toI_lt c_201 (iI_t (by omega) (by omega)) (by decide : (0 : Int32).toInt = 0)) | skip
            refine lv_iconst (v := 0) hx hb dX5_layWay_222 (by decide) ?_
            have hl : lv_has _ _ ([(9, .int l9_x47), (8, .int l8_x47), (7, .int l7_x47), (6, .int l6_x47), (5, .int k0_j11), (4, .int r1), (0, .ref (hO 0)), (1, .int p1), (2, .int p2), (3, .int p3)]) := lv_sub hl [0, 1, 2, 3, 4, 5, 6, 7, 8, 9] rfl
            exact join19 _ _ _ _ ⟨0, (show 0 ≤ (0 : Int32).toInt ∧ (0 : Int32).toInt ≤ 1 from by decide), rfl, hP, hD, hS, hl⟩
          · first | (have t_201 : ¬ (l6_x47.toInt + l8_x47.toInt) < 0 := toI_nlt c_201 (iI_t (by omega) (by omega)) (by decide : (0 : Int32).toInt = 0)) | skip
            refine lv_iload hx hb dX5_layWay_204 (lv_at hl 5 rfl) ?_
            refine lv_iconst (v := 2) hx hb dX5_layWay_206 (by decide) ?_
            refine lv_icmp_ne (tgt := 218) hx hb dX5_layWay_207 (by decide) (fun c_207 => ?_) (fun c_207 => ?_)
            · have t_207 : r1.toInt ≠ 2 := toI_ne c_207 rfl (by decide : (2 : Int32).toInt = 2)
              refine lv_iconst (v := 1) hx hb dX5_layWay_218 (by decide) ?_
              refine lv_goto (tgt := 223) hx hb dX5_layWay_219 (by decide) ?_
              have hl : lv_has _ _ ([(9, .int l9_x47), (8, .int l8_x47), (7, .int l7_x47), (6, .int l6_x47), (5, .int k0_j11), (4, .int r1), (0, .ref (hO 0)), (1, .int p1), (2, .int p2), (3, .int p3)]) := lv_sub hl [0, 1, 2, 3, 4, 5, 6, 7, 8, 9] rfl
              exact join19 _ _ _ _ ⟨1, (show 0 ≤ (1 : Int32).toInt ∧ (1 : Int32).toInt ≤ 1 from by decide), rfl, hP, hD, hS, hl⟩
            · have t_207 : r1.toInt = 2 := toI_nne c_207 rfl (by decide : (2 : Int32).toInt = 2)
              refine lv_iload hx hb dX5_layWay_210 (lv_at hl 3 rfl) ?_
              refine lv_iload hx hb dX5_layWay_212 (lv_at hl 2 rfl) ?_
              refine lv_iadd hx hb dX5_layWay_214 ?_
              refine lv_topi (fun y177 hy177 => ?_)
              obtain rfl : (iI (l6_x47.toInt + l7_x47.toInt)) = y177 := (hy177.trans (iI_add2 (iI_of _) (iI_of _))).symm
              refine lv_if_gt (tgt := 222) hx hb dX5_layWay_215 (by decide) (fun c_215 => ?_) (fun c_215 => ?_)
              · first | (have t_215 : (l6_x47.toInt + l7_x47.toInt) > 0 := toI_gt c_215 (iI_t (by omega) (by omega)) (by decide : (0 : Int32).toInt = 0)) | skip
                refine lv_iconst (v := 0) hx hb dX5_layWay_222 (by decide) ?_
                have hl : lv_has _ _ ([(9, .int l9_x47), (8, .int l8_x47), (7, .int l7_x47), (6, .int l6_x47), (5, .int k0_j11), (4, .int r1), (0, .ref (hO 0)), (1, .int p1), (2, .int p2), (3, .int p3)]) := lv_sub hl [0, 1, 2, 3, 4, 5, 6, 7, 8, 9] rfl
                exact join19 _ _ _ _ ⟨0, (show 0 ≤ (0 : Int32).toInt ∧ (0 : Int32).toInt ≤ 1 from by decide), rfl, hP, hD, hS, hl⟩
              · first | (have t_215 : ¬ (l6_x47.toInt + l7_x47.toInt) > 0 := toI_ngt c_215 (iI_t (by omega) (by omega)) (by decide : (0 : Int32).toInt = 0)) | skip
                refine lv_iconst (v := 1) hx hb dX5_layWay_218 (by decide) ?_
                refine lv_goto (tgt := 223) hx hb dX5_layWay_219 (by decide) ?_
                have hl : lv_has _ _ ([(9, .int l9_x47), (8, .int l8_x47), (7, .int l7_x47), (6, .int l6_x47), (5, .int k0_j11), (4, .int r1), (0, .ref (hO 0)), (1, .int p1), (2, .int p2), (3, .int p3)]) := lv_sub hl [0, 1, 2, 3, 4, 5, 6, 7, 8, 9] rfl
                exact join19 _ _ _ _ ⟨1, (show 0 ≤ (1 : Int32).toInt ∧ (1 : Int32).toInt ≤ 1 from by decide), rfl, hP, hD, hS, hl⟩
        · rintro H locs ls stk ⟨k0_j19, b_k0_j19, rfl, hP, hD, hS, hl⟩
          refine W.widen (k := 0) (n := 0) (by decide +kernel) (by decide +kernel) ?_
          exact W.zret (v := k0_j19) hx hb hr (by rcases z01 (x := k0_j19) (b_k0_j19) with h9 | h9 <;> rw [h9] <;> rfl) (fun t9_ ht hW => ⟨⟨k0_j19, (wl_174, wb_174, wG_174), rfl, ⟨b_wl_174, b_wb_174, (b_k0_j19)⟩, by rw [ht]; exact hP, hD⟩, hS.F ht⟩) hS.2.2 dX5_layWay_223
      · have t_56 : ¬ l9_x47.toInt ≥ iM_variables.toInt := toI_nge c_56 rfl rfl
        refine lv_iload hx hb dX5_layWay_59 (lv_at hl 4 rfl) ?_
        refine lv_aload_n hx hb dX5_layWay_61 rfl (lv_at hl 6 rfl) ?_
        refine va_get (D := (dC, dI)) (ci := 5) (v := .ref (hM 0)) (C := RX5) (T := TX5) (N := 19) hx hb hts iwsMX5_layWay_in5 hown hK hP 0 rfl rfl 0 (by decide) (hts _ hm_m_X5_layWay_0) (fun _ h9 => h9) rfl dX5_layWay_62 ?_
        refine lv_iload_n hx hb dX5_layWay_65 rfl (lv_at hl 8 rfl) ?_
        refine lv_iload_n hx hb dX5_layWay_66 rfl (lv_at hl 9 rfl) ?_
        refine lv_iload hx hb dX5_layWay_67 (lv_at hl 0 rfl) ?_
        have p9 := cj_4_1 (WO hO aO kO hM hQ hw iO_answered iO_searched iO_searchedRelaxed iO_counted fO_countedCase gO_goalNumber gO_goalScale fO_start fO_column fO_chosen) (WM hM aM kM iM_stands iM_variables iM_rows iM_goals iM_differents iM_cases fM_from fM_to fM_whole fM_ways iM_plainRows fM_plainRow fM_kept fM_goalOver fM_goalUnder fM_goalMax fM_different) (WQ hQ aQ kQ hw fQ_inside fQ_outside fQ_shut iQ_rows iQ_allRows iQ_columns) (WW nW hw lw kw wl_x47 wb_x47 wG_x47)
        have hPc := hP.mem (fun q h => p9.mem_iff.mpr (List.mem_append_left _ h))
        have hDc := (hD.perm p9).left
        have hKc : va_K (dC, dI) vwCl (tM kM) _ := hK.sub [10, 11, 12, 13, 14, 15, 16, 17, 18, 19] rfl
        have hFc := freeG p9 hD hS hA
        refine va_calli (va_runV (As := [.int p2, .int p3, .int l9_x47]) (rest := [.int k0_j11]) ⟨hx, hb, hml, hown, hts⟩ (m_X1_number l dC dI hM aM kM iM_stands iM_variables iM_rows iM_goals iM_differents iM_cases fM_from fM_to fM_whole fM_ways iM_plainRows fM_plainRow fM_kept fM_goalOver fM_goalUnder fM_goalMax fM_different p2 p3 l9_x47 (b_iM_stands) (b_iM_variables) (b_iM_rows) (b_iM_goals) (b_iM_differents) (b_iM_cases) b_fM_ways (b_iM_plainRows) b_fM_plainRow (by first | with_reducible assumption | omega | assumption) (b_p2) (b_p3) (b_l9_x47) H.size) (cwV 3 hts gwsMX5_layWay_2 rfl rfl rfl hd_yX1_number_RX1 (by decide +kernel)) (fz_pre (va_recv hK hP (ci := 1) (q0 := 11) rfl rfl) hPc hKc hDc) rfl rfl hl.1 rfl (lv_room (Nat.le_of_ble_eq_true rfl)) dX5_layWay_69 (by decide +kernel)) hS (fun q _ h => hFc q h) hFc (fun r178 u t9_ H locs ht hvm hw9 hB9 hz1 hk1 hS => ?_)
        clear hw9
        have p8 := p9
        obtain ⟨hP, hD⟩ := frameG p9 p8 hP hD hk1 hFc (fz_P ht hB9.1) hB9.2
        refine lv_imul hx hb dX5_layWay_72 ?_
        refine lv_topi (fun y179 hy179 => ?_)
        obtain rfl : (iI (k0_j11.toInt * r178.toInt)) = y179 := (hy179.trans (iI_mul2 (iI_of _) (iI_of _))).symm
        refine lv_istore hx hb dX5_layWay_73 hl (by decide) rfl (fun ls (hl : lv_has ls _ ([(10, .int (iI (k0_j11.toInt * r178.toInt))), (9, .int l9_x47), (8, .int l8_x47), (7, .int l7_x47), (6, .int l6_x47), (5, .int k0_j11), (4, .int r1), (0, .ref (hO 0)), (1, .int p1), (2, .int p2), (3, .int p3)])) => ?_)
        refine lv_iload hx hb dX5_layWay_75 (lv_at hl 4 rfl) ?_
        refine lv_iload hx hb dX5_layWay_77 (lv_at hl 0 rfl) ?_
        refine lv_aload_n hx hb dX5_layWay_79 rfl (lv_at hl 7 rfl) ?_
        refine va_get (D := (dC, dI)) (ci := 5) (v := .ref (aO 3)) (C := RX5) (T := TX5) (N := 19) hx hb hts iwsMX5_layWay_in5 hown hK hP 0 rfl rfl 9 (by decide) (hts (.fieldLink RX5 35 "OptimaWorks$Solver" "start" "[I") (by decide +kernel)) (fun _ h9 => h9) rfl dX5_layWay_80 ?_
        refine lv_iload hx hb dX5_layWay_83 (lv_at hl 1 rfl) ?_
        refine va_iald (cA := kO 3) (n := 8) (f := fO_start) hx hb hK hP 4 3 rfl rfl (vp_in_iff.mpr ⟨b_l9_x47.1, (Int.lt_of_lt_of_le (Int.not_le.mp t_56) (Int.le_trans b_iM_variables.2 (by decide)))⟩) dX5_layWay_85 ?_
        refine lv_topi (fun v180 hv180 => ?_)
        clear hv180
        refine lv_imul hx hb dX5_layWay_86 ?_
        refine lv_topi (fun y181 hy181 => ?_)
        obtain rfl : (iI ((k0_j11.toInt * r178.toInt) * v180.toInt)) = y181 := (hy181.trans (iI_mul2 rfl (iI_of _))).symm
        refine lv_iadd hx hb dX5_layWay_87 ?_
        refine lv_topi (fun y182 hy182 => ?_)
        obtain rfl : (iI (l6_x47.toInt + ((k0_j11.toInt * r178.toInt) * v180.toInt))) = y182 := (hy182.trans (iI_add2 (iI_of _) rfl)).symm
        refine lv_istore hx hb dX5_layWay_88 hl (by decide) rfl (fun ls (hl : lv_has ls _ ([(6, .int (iI (l6_x47.toInt + ((k0_j11.toInt * r178.toInt) * v180.toInt)))), (10, .int (iI (k0_j11.toInt * r178.toInt))), (9, .int l9_x47), (8, .int l8_x47), (7, .int l7_x47), (5, .int k0_j11), (4, .int r1), (0, .ref (hO 0)), (1, .int p1), (2, .int p2), (3, .int p3)])) => ?_)
        refine lv_iload hx hb dX5_layWay_90 (lv_at hl 1 rfl) ?_
        refine W.cut (pc := 175) (fun H locs ls stk => ∃ (wl_j20 : Nat → Int32) (wb_j20 : Nat → Int32) (wG_j20 : Nat → Nat → Int64) (l8_j20 : Int32) (l7_j20 : Int32), (∀ q : Nat, 0 ≤ (wl_j20 q).toInt ∧ (wl_j20 q).toInt ≤ 14) ∧ (∀ q : Nat, 0 ≤ (wb_j20 q).toInt ∧ (wb_j20 q).toInt ≤ 1) ∧  stk = [] ∧ va_P (dC, dI) vwCl (WO hO aO kO hM hQ hw iO_answered iO_searched iO_searchedRelaxed iO_counted fO_countedCase gO_goalNumber gO_goalScale fO_start fO_column fO_chosen ++ (WM hM aM kM iM_stands iM_variables iM_rows iM_goals iM_differents iM_cases fM_from fM_to fM_whole fM_ways iM_plainRows fM_plainRow fM_kept fM_goalOver fM_goalUnder fM_goalMax fM_different ++ (WQ hQ aQ kQ hw fQ_inside fQ_outside fQ_shut iQ_rows iQ_allRows iQ_columns ++ (WW nW hw lw kw wl_j20 wb_j20 wG_j20)))) H ∧ va_D A (WO hO aO kO hM hQ hw iO_answered iO_searched iO_searchedRelaxed iO_counted fO_countedCase gO_goalNumber gO_goalScale fO_start fO_column fO_chosen ++ (WM hM aM kM iM_stands iM_variables iM_rows iM_goals iM_differents iM_cases fM_from fM_to fM_whole fM_ways iM_plainRows fM_plainRow fM_kept fM_goalOver fM_goalUnder fM_goalMax fM_different ++ (WQ hQ aQ kQ hw fQ_inside fQ_outside fQ_shut iQ_rows iQ_allRows iQ_columns ++ (WW nW hw lw kw wl_j20 wb_j20 wG_j20)))) ∧ va_S A s.heap H locs ∧ lv_has ls 12 [(6, .int (iI (l6_x47.toInt + ((k0_j11.toInt * r178.toInt) * v180.toInt)))), (10, .int (iI (k0_j11.toInt * r178.toInt))), (9, .int l9_x47), (8, .int l8_j20), (7, .int l7_j20), (5, .int k0_j11), (4, .int r1), (0, .ref (hO 0)), (1, .int p1), (2, .int p2), (3, .int p3)]) (fun join20 => ?_) ?_
        · refine lv_if_eq (tgt := 175) hx hb dX5_layWay_92 (by decide) (fun c_92 => ?_) (fun c_92 => ?_)
          · first | (have t_92 : (k0_j11.toInt * r178.toInt) = 0 := toI_eq c_92 (iI_t (by omega) (by omega)) (by decide : (0 : Int32).toInt = 0)) | skip
            have hl : lv_has _ _ ([(6, .int (iI (l6_x47.toInt + ((k0_j11.toInt * r178.toInt) * v180.toInt)))), (10, .int (iI (k0_j11.toInt * r178.toInt))), (9, .int l9_x47), (8, .int l8_x47), (7, .int l7_x47), (5, .int k0_j11), (4, .int r1), (0, .ref (hO 0)), (1, .int p1), (2, .int p2), (3, .int p3)]) := lv_sub hl [0, 1, 2, 3, 4, 5, 6, 7, 8, 9, 10] rfl
            exact join20 _ _ _ _ ⟨wl_x47, wb_x47, wG_x47, l8_x47, l7_x47, b_wl_x47, b_wb_x47, rfl, hP, hD, hS, hl⟩
          · first | (have t_92 : ¬ (k0_j11.toInt * r178.toInt) = 0 := toI_neq c_92 (iI_t (by omega) (by omega)) (by decide : (0 : Int32).toInt = 0)) | skip
            refine lv_aload_n hx hb dX5_layWay_95 rfl (lv_at hl 7 rfl) ?_
            refine va_get (D := (dC, dI)) (ci := 5) (v := .ref (aO 4)) (C := RX5) (T := TX5) (N := 19) hx hb hts iwsMX5_layWay_in5 hown hK hP 0 rfl rfl 10 (by decide) (hts _ hm_m_X5_layWay_2) (fun _ h9 => h9) rfl dX5_layWay_96 ?_
            refine lv_iload hx hb dX5_layWay_99 (lv_at hl 2 rfl) ?_
            refine va_iald (cA := kO 4) (n := 8) (f := fO_column) hx hb hK hP 5 4 rfl rfl (vp_in_iff.mpr ⟨b_l9_x47.1, (by omega)⟩) dX5_layWay_101 ?_
            refine lv_topi (fun v196 hv196 => ?_)
            have b_v196 : (-1) ≤ v196.toInt ∧ v196.toInt ≤ 8 := by rw [hv196]; exact b_fO_column _
            have b1_v196 : v196 = fO_column (l9_x47).toNatClampNeg := hv196
            clear hv196
            refine lv_iconst (v := (-1)) hx hb dX5_layWay_102 (by decide) ?_
            refine lv_icmp_eq (tgt := 175) hx hb dX5_layWay_103 (by decide) (fun c_103 => ?_) (fun c_103 => ?_)
            · have t_103 : v196.toInt = (-1) := toI_eq c_103 rfl (by decide : ((-1) : Int32).toInt = (-1))
              have hl : lv_has _ _ ([(6, .int (iI (l6_x47.toInt + ((k0_j11.toInt * r178.toInt) * v180.toInt)))), (10, .int (iI (k0_j11.toInt * r178.toInt))), (9, .int l9_x47), (8, .int l8_x47), (7, .int l7_x47), (5, .int k0_j11), (4, .int r1), (0, .ref (hO 0)), (1, .int p1), (2, .int p2), (3, .int p3)]) := lv_sub hl [0, 1, 2, 3, 4, 5, 6, 7, 8, 9, 10] rfl
              exact join20 _ _ _ _ ⟨wl_x47, wb_x47, wG_x47, l8_x47, l7_x47, b_wl_x47, b_wb_x47, rfl, hP, hD, hS, hl⟩
            · have t_103 : ¬ v196.toInt = (-1) := toI_neq c_103 rfl (by decide : ((-1) : Int32).toInt = (-1))
              refine lv_aload_n hx hb dX5_layWay_106 rfl (lv_at hl 7 rfl) ?_
              refine va_get (D := (dC, dI)) (ci := 5) (v := .ref (hQ 0)) (C := RX5) (T := TX5) (N := 19) hx hb hts iwsMX5_layWay_in5 hown hK hP 0 rfl rfl 1 (by decide) (hts _ hm_m_X5_layWay_1) (fun _ h9 => h9) rfl dX5_layWay_107 ?_
              refine lv_iload_n hx hb dX5_layWay_110 rfl (lv_at hl 8 rfl) ?_
              refine lv_aload_n hx hb dX5_layWay_111 rfl (lv_at hl 7 rfl) ?_
              refine va_get (D := (dC, dI)) (ci := 5) (v := .ref (aO 4)) (C := RX5) (T := TX5) (N := 19) hx hb hts iwsMX5_layWay_in5 hown hK hP 0 rfl rfl 10 (by decide) (hts _ hm_m_X5_layWay_2) (fun _ h9 => h9) rfl dX5_layWay_112 ?_
              refine lv_iload hx hb dX5_layWay_115 (lv_at hl 2 rfl) ?_
              refine va_iald (cA := kO 4) (n := 8) (f := fO_column) hx hb hK hP 5 4 rfl rfl (vp_in_iff.mpr ⟨b_l9_x47.1, (by omega)⟩) dX5_layWay_117 ?_
              refine lv_topi (fun v197 hv197 => ?_)
              have b_v197 : (-1) ≤ v197.toInt ∧ v197.toInt ≤ 8 := by rw [hv197]; exact b_fO_column _
              have b1_v197 : v197 = fO_column (l9_x47).toNatClampNeg := hv197
              have b2_v197 : v197.toInt = v196.toInt := by rw [hv197]; exact (congrArg Int32.toInt b1_v196).symm
              clear hv197
              have p9 := cj_4_2_3 (WO hO aO kO hM hQ hw iO_answered iO_searched iO_searchedRelaxed iO_counted fO_countedCase gO_goalNumber gO_goalScale fO_start fO_column fO_chosen) (WM hM aM kM iM_stands iM_variables iM_rows iM_goals iM_differents iM_cases fM_from fM_to fM_whole fM_ways iM_plainRows fM_plainRow fM_kept fM_goalOver fM_goalUnder fM_goalMax fM_different) (WQ hQ aQ kQ hw fQ_inside fQ_outside fQ_shut iQ_rows iQ_allRows iQ_columns) (WW nW hw lw kw wl_x47 wb_x47 wG_x47)
              have hPc := hP.mem (fun q h => p9.mem_iff.mpr (List.mem_append_left _ h))
              have hDc := (hD.perm p9).left
              have hKc : va_K (dC, dI) vwCl (tQ kQ ++ (tW kw)) _ := hK.sub [20, 21, 22, 23, 24] rfl
              have hFc := freeG p9 hD hS hA
              refine va_callr (va_runV (As := [.int p1, .int v197]) (rest := []) ⟨hx, hb, hml, hown, hts⟩ (m_X6_cellAt l dC dI hQ aQ kQ hw fQ_inside fQ_outside fQ_shut iQ_rows iQ_allRows iQ_columns nW lw kw wl_x47 wb_x47 wG_x47 p1 v197 (b_iQ_rows) (b_iQ_allRows) (b_iQ_columns) (by first | with_reducible assumption | omega | assumption) b_wl_x47 b_wb_x47 (b_p1) (by first | exact b_v197 | with_reducible assumption | exact ⟨by omega, by omega⟩ | assumption) (by omega) ((by have h9 := ix_small (i := p1.toInt) (j := v197.toInt) (c := iQ_columns.toInt) (by omega) (by omega) (by omega) (by omega) (by omega) (by omega); exact h9)) H.size) (cwV 2 hts gwsMX5_layWay_3 rfl rfl rfl hd_yX6_cellAt_RX6 (by decide +kernel)) (fz_pre (va_recv hK hP (ci := 6) (q0 := 22) rfl rfl) hPc hKc hDc) rfl rfl hl.1 rfl (lv_room (Nat.le_of_ble_eq_true rfl)) dX5_layWay_118 (by decide +kernel)) hS (fun q _ h => hFc q h) hFc (fun kR_198 ra198 t9_ H locs ht hvm hw9 hB9 hz1 hk1 hS => ?_)
              revert hB9
              refine fz_a2 ?_
              intro hra hB9
              subst hra
              have f198_0 := hw9
              try dsimp only at f198_0
              have p8 := p9
              obtain ⟨hP, hD⟩ := frameG p9 p8 hP hD hk1 hFc (fz_P ht hB9.1) hB9.2
              refine lv_iload hx hb dX5_layWay_121 (lv_at hl 1 rfl) ?_
              refine lv_i2l hx hb dX5_layWay_123 rfl ?_
              refine lv_topl (fun v199 hv199 => ?_)
              clear hv199
              have p9 := cj_4_3 (WO hO aO kO hM hQ hw iO_answered iO_searched iO_searchedRelaxed iO_counted fO_countedCase gO_goalNumber gO_goalScale fO_start fO_column fO_chosen) (WM hM aM kM iM_stands iM_variables iM_rows iM_goals iM_differents iM_cases fM_from fM_to fM_whole fM_ways iM_plainRows fM_plainRow fM_kept fM_goalOver fM_goalUnder fM_goalMax fM_different) (WQ hQ aQ kQ hw fQ_inside fQ_outside fQ_shut iQ_rows iQ_allRows iQ_columns) (WW nW hw lw kw wl_x47 wb_x47 wG_x47)
              have hPc := hP.mem (fun q h => p9.mem_iff.mpr (List.mem_append_left _ h))
              have hDc := (hD.perm p9).left
              have hKc : va_K (dC, dI) vwCl (tW kw) _ := hK.sub [24] rfl
              have hFc := freeG p9 hD hS hA
              refine va_callv (va_runV (As := [.long v199]) (rest := []) ⟨hx, hb, hml, hown, hts⟩ (m_X8_setLong l dC dI nW hw lw kw wl_x47 wb_x47 wG_x47 kR_198 v199 b_wl_x47 b_wb_x47 (by first | with_reducible assumption | omega | (rw [iI_t (by omega) (by omega)]; omega) | decide | assumption) H.size) (cwV 1 hts gwsMX5_layWay_4 rfl rfl rfl hd_yX8_setLong_RX8 (by decide +kernel)) (fz_pre (va_recv hK hP (ci := 8) (q0 := 11 + (11 + (5 + (kR_198)))) rfl (apR rfl (apR rfl (apR rfl (WW_o (by omega)))))) hPc hKc hDc) rfl rfl hl.1 rfl (lv_room (Nat.le_of_ble_eq_true rfl)) dX5_layWay_124 (by decide +kernel)) hS (fun q _ h => hFc q h) hFc (fun u t9_ H locs ht hvm hw9 hB9 hz1 hk1 hS => ?_)
              revert u hw9 hB9
              refine fz_p3 ?_
              intro wl_200 wb_200 wG_200 hw9 hB9
              try dsimp only at hw9 hB9
              revert hw9
              refine fz_a2 ?_
              intro b_wl_200 b_wb_200
              have p8 := cj_4_3 (WO hO aO kO hM hQ hw iO_answered iO_searched iO_searchedRelaxed iO_counted fO_countedCase gO_goalNumber gO_goalScale fO_start fO_column fO_chosen) (WM hM aM kM iM_stands iM_variables iM_rows iM_goals iM_differents iM_cases fM_from fM_to fM_whole fM_ways iM_plainRows fM_plainRow fM_kept fM_goalOver fM_goalUnder fM_goalMax fM_different) (WQ hQ aQ kQ hw fQ_inside fQ_outside fQ_shut iQ_rows iQ_allRows iQ_columns) (WW nW hw lw kw wl_200 wb_200 wG_200)
              obtain ⟨hP, hD⟩ := frameG p9 p8 hP hD hk1 hFc (fz_P ht hB9.1) hB9.2
              refine lv_iload hx hb dX5_layWay_127 (lv_at hl 1 rfl) ?_
              refine lv_aload_n hx hb dX5_layWay_129 rfl (lv_at hl 7 rfl) ?_
              refine va_get (D := (dC, dI)) (ci := 5) (v := .ref (hM 0)) (C := RX5) (T := TX5) (N := 19) hx hb hts iwsMX5_layWay_in5 hown hK hP 0 rfl rfl 0 (by decide) (hts _ hm_m_X5_layWay_0) (fun _ h9 => h9) rfl dX5_layWay_130 ?_
              refine va_get (D := (dC, dI)) (ci := 1) (v := .ref (aM 1)) (C := RX1) (T := TX1) (N := 17) hx hb hts iwsMX5_layWay_in1 hown hK hP 11 rfl rfl 7 (by decide) (hts (.fieldLink RX5 181 "OptimaWorks$Model" "to" "[I") (by decide +kernel)) (fun _ h9 => h9) rfl dX5_layWay_133 ?_
              refine lv_iload hx hb dX5_layWay_136 (lv_at hl 2 rfl) ?_
              refine va_iald (cA := kM 1) (n := 8) (f := fM_to) hx hb hK hP 13 11 rfl rfl (vp_in_iff.mpr ⟨b_l9_x47.1, (by omega)⟩) dX5_layWay_138 ?_
              refine lv_topi (fun v201 hv201 => ?_)
              clear hv201
              refine lv_aload_n hx hb dX5_layWay_139 rfl (lv_at hl 7 rfl) ?_
              refine va_get (D := (dC, dI)) (ci := 5) (v := .ref (hM 0)) (C := RX5) (T := TX5) (N := 19) hx hb hts iwsMX5_layWay_in5 hown hK hP 0 rfl rfl 0 (by decide) (hts _ hm_m_X5_layWay_0) (fun _ h9 => h9) rfl dX5_layWay_140 ?_
              refine va_get (D := (dC, dI)) (ci := 1) (v := .ref (aM 0)) (C := RX1) (T := TX1) (N := 17) hx hb hts iwsMX5_layWay_in1 hown hK hP 11 rfl rfl 6 (by decide) (hts (.fieldLink RX5 150 "OptimaWorks$Model" "from" "[I") (by decide +kernel)) (fun _ h9 => h9) rfl dX5_layWay_143 ?_
              refine lv_iload hx hb dX5_layWay_146 (lv_at hl 2 rfl) ?_
              refine va_iald (cA := kM 0) (n := 8) (f := fM_from) hx hb hK hP 12 10 rfl rfl (vp_in_iff.mpr ⟨b_l9_x47.1, (by omega)⟩) dX5_layWay_148 ?_
              refine lv_topi (fun v202 hv202 => ?_)
              clear hv202
              refine lv_isub hx hb dX5_layWay_149 ?_
              refine lv_topi (fun y203 hy203 => ?_)
              obtain rfl : (iI (v201.toInt - v202.toInt)) = y203 := (hy203.trans (iI_sub2 (iI_of _) (iI_of _))).symm
              refine lv_imul hx hb dX5_layWay_150 ?_
              refine lv_topi (fun y204 hy204 => ?_)
              obtain rfl : (iI ((k0_j11.toInt * r178.toInt) * (v201.toInt - v202.toInt))) = y204 := (hy204.trans (iI_mul2 rfl rfl)).symm
              refine lv_istore hx hb dX5_layWay_151 hl (by decide) rfl (fun ls (hl : lv_has ls _ ([(11, .int (iI ((k0_j11.toInt * r178.toInt) * (v201.toInt - v202.toInt)))), (6, .int (iI (l6_x47.toInt + ((k0_j11.toInt * r178.toInt) * v180.toInt)))), (10, .int (iI (k0_j11.toInt * r178.toInt))), (9, .int l9_x47), (8, .int l8_x47), (7, .int l7_x47), (5, .int k0_j11), (4, .int r1), (0, .ref (hO 0)), (1, .int p1), (2, .int p2), (3, .int p3)])) => ?_)
              refine lv_iload hx hb dX5_layWay_153 (lv_at hl 5 rfl) ?_
              refine lv_iload hx hb dX5_layWay_155 (lv_at hl 0 rfl) ?_
              refine lv_iconst (v := 0) hx hb dX5_layWay_157 (by decide) ?_
              refine va_mmin hx hb (by rw [hml]; exact hl.1.symm) hown (hts (.methodLink RX5 204 Lib.Math.min.name) (by decide +kernel)) (hts (.static Lib.Math.min.name) (by decide +kernel)) (hts _ hm_m_X5_layWay_3) (hts (.code Lib.Math.min.name Lib.Math.min.code 2 (some .int)) (by decide +kernel)) (by decide +kernel) (Nat.le_of_ble_eq_true rfl) (by decide +kernel) (by decide +kernel) dX5_layWay_158 ?_
              refine lv_topi (fun v205 hv205 => ?_)
              first | (have b_v205 : (v205.toInt ≤ ((k0_j11.toInt * r178.toInt) * (v201.toInt - v202.toInt)) ∧ v205.toInt ≤ 0) ∧ (v205.toInt = ((k0_j11.toInt * r178.toInt) * (v201.toInt - v202.toInt)) ∨ v205.toInt = 0) := by rw [hv205]; exact min_t (iI_t (by omega) (by omega)) (by decide : (0 : Int32).toInt = 0)) | skip
              clear hv205
              refine lv_iadd hx hb dX5_layWay_161 ?_
              refine lv_topi (fun y206 hy206 => ?_)
              obtain rfl : (iI (l7_x47.toInt + v205.toInt)) = y206 := (hy206.trans (iI_add2 (iI_of _) (iI_of _))).symm
              refine lv_istore hx hb dX5_layWay_162 hl (by decide) rfl (fun ls (hl : lv_has ls _ ([(7, .int (iI (l7_x47.toInt + v205.toInt))), (11, .int (iI ((k0_j11.toInt * r178.toInt) * (v201.toInt - v202.toInt)))), (6, .int (iI (l6_x47.toInt + ((k0_j11.toInt * r178.toInt) * v180.toInt)))), (10, .int (iI (k0_j11.toInt * r178.toInt))), (9, .int l9_x47), (8, .int l8_x47), (5, .int k0_j11), (4, .int r1), (0, .ref (hO 0)), (1, .int p1), (2, .int p2), (3, .int p3)])) => ?_)
              refine lv_iload hx hb dX5_layWay_164 (lv_at hl 5 rfl) ?_
              refine lv_iload hx hb dX5_layWay_166 (lv_at hl 1 rfl) ?_
              refine lv_iconst (v := 0) hx hb dX5_layWay_168 (by decide) ?_
              refine va_mmax hx hb (by rw [hml]; exact hl.1.symm) hown (hts (.methodLink RX5 137 Lib.Math.max.name) (by decide +kernel)) (hts (.static Lib.Math.max.name) (by decide +kernel)) (hts _ hm_m_X5_layWay_3) (hts (.code Lib.Math.max.name Lib.Math.max.code 2 (some .int)) (by decide +kernel)) (by decide +kernel) (Nat.le_of_ble_eq_true rfl) (by decide +kernel) (by decide +kernel) dX5_layWay_169 ?_
              refine lv_topi (fun v207 hv207 => ?_)
              first | (have b_v207 : (((k0_j11.toInt * r178.toInt) * (v201.toInt - v202.toInt)) ≤ v207.toInt ∧ 0 ≤ v207.toInt) ∧ (v207.toInt = ((k0_j11.toInt * r178.toInt) * (v201.toInt - v202.toInt)) ∨ v207.toInt = 0) := by rw [hv207]; exact max_t (iI_t (by omega) (by omega)) (by decide : (0 : Int32).toInt = 0)) | skip
              clear hv207
              refine lv_iadd hx hb dX5_layWay_172 ?_
              refine lv_topi (fun y208 hy208 => ?_)
              obtain rfl : (iI (l8_x47.toInt + v207.toInt)) = y208 := (hy208.trans (iI_add2 (iI_of _) (iI_of _))).symm
              refine lv_istore hx hb dX5_layWay_173 hl (by decide) rfl (fun ls (hl : lv_has ls _ ([(8, .int (iI (l8_x47.toInt + v207.toInt))), (7, .int (iI (l7_x47.toInt + v205.toInt))), (11, .int (iI ((k0_j11.toInt * r178.toInt) * (v201.toInt - v202.toInt)))), (6, .int (iI (l6_x47.toInt + ((k0_j11.toInt * r178.toInt) * v180.toInt)))), (10, .int (iI (k0_j11.toInt * r178.toInt))), (9, .int l9_x47), (5, .int k0_j11), (4, .int r1), (0, .ref (hO 0)), (1, .int p1), (2, .int p2), (3, .int p3)])) => ?_)
              have hl : lv_has _ _ ([(6, .int (iI (l6_x47.toInt + ((k0_j11.toInt * r178.toInt) * v180.toInt)))), (10, .int (iI (k0_j11.toInt * r178.toInt))), (9, .int l9_x47), (8, .int (iI (l8_x47.toInt + v207.toInt))), (7, .int (iI (l7_x47.toInt + v205.toInt))), (5, .int k0_j11), (4, .int r1), (0, .ref (hO 0)), (1, .int p1), (2, .int p2), (3, .int p3)]) := lv_sub hl [3, 4, 5, 0, 1, 6, 7, 8, 9, 10, 11] rfl
              exact join20 _ _ _ _ ⟨wl_200, wb_200, wG_200, (iI (l8_x47.toInt + v207.toInt)), (iI (l7_x47.toInt + v205.toInt)), b_wl_200, b_wb_200, rfl, hP, hD, hS, hl⟩
        · intro H locs ls stk
          refine fz_e5 ?_
          intro wl_j20 wb_j20 wG_j20 l8_j20 l7_j20
          refine fz_a7 ?_
          intro b_wl_j20 b_wb_j20 hst9_2 hP hD hS hl
          subst hst9_2
          refine lv_iinc (v := (iI (l9_x47.toInt + 1))) hx hb dX5_layWay_175 hl (k := 2) rfl (iI_add2 (iI_of _) (by decide : (1 : Int32) = iI 1)) (by decide) rfl (fun ls (hl : lv_has ls _ ([(9, .int (iI (l9_x47.toInt + 1))), (6, .int (iI (l6_x47.toInt + ((k0_j11.toInt * r178.toInt) * v180.toInt)))), (10, .int (iI (k0_j11.toInt * r178.toInt))), (8, .int l8_j20), (7, .int l7_j20), (5, .int k0_j11), (4, .int r1), (0, .ref (hO 0)), (1, .int p1), (2, .int p2), (3, .int p3)])) => ?_)
          refine lv_goto (tgt := 47) hx hb dX5_layWay_178 (by decide) ?_
          have hl : lv_has _ _ ([(9, .int (iI (l9_x47.toInt + 1))), (8, .int l8_j20), (7, .int l7_j20), (6, .int (iI (l6_x47.toInt + ((k0_j11.toInt * r178.toInt) * v180.toInt)))), (5, .int k0_j11), (4, .int r1), (0, .ref (hO 0)), (1, .int p1), (2, .int p2), (3, .int p3)]) := lv_sub hl [0, 3, 4, 1, 5, 6, 7, 8, 9, 10] rfl
          exact ihx47 wl_j20 wb_j20 wG_j20 (iI (l9_x47.toInt + 1)) l8_j20 l7_j20 (iI (l6_x47.toInt + ((k0_j11.toInt * r178.toInt) * v180.toInt))) _ _ _ b_wl_j20 b_wb_j20 (iI_rng (Int.le_trans (by decide) (Int.add_le_add (b_l9_x47.1) (Int.le_refl _))) (by omega) (by decide) (by decide)) (by have e9 : ((iI (l9_x47.toInt + 1))).toInt = (l9_x47.toInt + 1) := (iI_t (Int.le_trans (by decide) (Int.add_le_add (b_l9_x47.1) (Int.le_refl _))) (Int.le_trans (Int.add_le_add (b_l9_x47.2) (Int.le_refl _)) (by decide))); omega) hP hD hS hl
theorem dX5_layGoal_0 : decode cX5_layGoal 0 = .ok (.aload_n 0, 1) := dk_42 (by decide +kernel)
theorem dX5_layGoal_1 : decode cX5_layGoal 1 = .ok (.getfield 12, 3) := dk_180 (by decide +kernel)
theorem dX5_layGoal_4 : decode cX5_layGoal 4 = .ok (.iload_n 1, 1) := dk_27 (by decide +kernel)
theorem dX5_layGoal_5 : decode cX5_layGoal 5 = .ok (.iconst 0, 1) := dk_3 (by decide +kernel)
theorem dX5_layGoal_6 : decode cX5_layGoal 6 = .ok (.invokevirtual 177, 3) := dk_182 (by decide +kernel)
theorem dX5_layGoal_9 : decode cX5_layGoal 9 = .ok (.astore_n 3, 1) := dk_78 (by decide +kernel)
theorem dX5_layGoal_10 : decode cX5_layGoal 10 = .ok (.iconst 0, 1) := dk_3 (by decide +kernel)
theorem dX5_layGoal_11 : decode cX5_layGoal 11 = .ok (.istore 4, 2) := dk_54 (by decide +kernel)
theorem dX5_layGoal_13 : decode cX5_layGoal 13 = .ok (.iload 4, 2) := dk_21 (by decide +kernel)
theorem dX5_layGoal_15 : decode cX5_layGoal 15 = .ok (.aload_n 0, 1) := dk_42 (by decide +kernel)
theorem dX5_layGoal_16 : decode cX5_layGoal 16 = .ok (.getfield 74, 3) := dk_180 (by decide +kernel)
theorem dX5_layGoal_19 : decode cX5_layGoal 19 = .ok (.getfield 112, 3) := dk_180 (by decide +kernel)
theorem dX5_layGoal_22 : decode cX5_layGoal 22 = .ok (.if_icmp .ge 79, 3) := dk_162 (by decide +kernel)
theorem dX5_layGoal_25 : decode cX5_layGoal 25 = .ok (.aload_n 0, 1) := dk_42 (by decide +kernel)
theorem dX5_layGoal_26 : decode cX5_layGoal 26 = .ok (.iload_n 2, 1) := dk_28 (by decide +kernel)
theorem dX5_layGoal_27 : decode cX5_layGoal 27 = .ok (.iload 4, 2) := dk_21 (by decide +kernel)
theorem dX5_layGoal_29 : decode cX5_layGoal 29 = .ok (.invokevirtual 207, 3) := dk_182 (by decide +kernel)
theorem dX5_layGoal_32 : decode cX5_layGoal 32 = .ok (.lstore 5, 2) := dk_55 (by decide +kernel)
theorem dX5_layGoal_34 : decode cX5_layGoal 34 = .ok (.aload_n 0, 1) := dk_42 (by decide +kernel)
theorem dX5_layGoal_35 : decode cX5_layGoal 35 = .ok (.getfield 71, 3) := dk_180 (by decide +kernel)
theorem dX5_layGoal_38 : decode cX5_layGoal 38 = .ok (.iconst 1, 1) := dk_4 (by decide +kernel)
theorem dX5_layGoal_39 : decode cX5_layGoal 39 = .ok (.aaload, 1) := dk_50 (by decide +kernel)
theorem dX5_layGoal_40 : decode cX5_layGoal 40 = .ok (.aload_n 0, 1) := dk_42 (by decide +kernel)
theorem dX5_layGoal_41 : decode cX5_layGoal 41 = .ok (.getfield 35, 3) := dk_180 (by decide +kernel)
theorem dX5_layGoal_44 : decode cX5_layGoal 44 = .ok (.iload 4, 2) := dk_21 (by decide +kernel)
theorem dX5_layGoal_46 : decode cX5_layGoal 46 = .ok (.iaload, 1) := dk_46 (by decide +kernel)
theorem dX5_layGoal_47 : decode cX5_layGoal 47 = .ok (.i2l, 1) := dk_133 (by decide +kernel)
theorem dX5_layGoal_48 : decode cX5_layGoal 48 = .ok (.invokevirtual 184, 3) := dk_182 (by decide +kernel)
theorem dX5_layGoal_51 : decode cX5_layGoal 51 = .ok (.aload_n 0, 1) := dk_42 (by decide +kernel)
theorem dX5_layGoal_52 : decode cX5_layGoal 52 = .ok (.aload_n 3, 1) := dk_45 (by decide +kernel)
theorem dX5_layGoal_53 : decode cX5_layGoal 53 = .ok (.aload_n 0, 1) := dk_42 (by decide +kernel)
theorem dX5_layGoal_54 : decode cX5_layGoal 54 = .ok (.getfield 71, 3) := dk_180 (by decide +kernel)
theorem dX5_layGoal_57 : decode cX5_layGoal 57 = .ok (.iconst 1, 1) := dk_4 (by decide +kernel)
theorem dX5_layGoal_58 : decode cX5_layGoal 58 = .ok (.aaload, 1) := dk_50 (by decide +kernel)
theorem dX5_layGoal_59 : decode cX5_layGoal 59 = .ok (.lload 5, 2) := dk_22 (by decide +kernel)
theorem dX5_layGoal_61 : decode cX5_layGoal 61 = .ok (.invokevirtual 211, 3) := dk_182 (by decide +kernel)
theorem dX5_layGoal_64 : decode cX5_layGoal 64 = .ok (.aload_n 0, 1) := dk_42 (by decide +kernel)
theorem dX5_layGoal_65 : decode cX5_layGoal 65 = .ok (.getfield 38, 3) := dk_180 (by decide +kernel)
theorem dX5_layGoal_68 : decode cX5_layGoal 68 = .ok (.iload 4, 2) := dk_21 (by decide +kernel)
theorem dX5_layGoal_70 : decode cX5_layGoal 70 = .ok (.iaload, 1) := dk_46 (by decide +kernel)
theorem dX5_layGoal_71 : decode cX5_layGoal 71 = .ok (.iconst (-1), 1) := dk_2 (by decide +kernel)
theorem dX5_layGoal_72 : decode cX5_layGoal 72 = .ok (.if_icmp .eq 23, 3) := dk_159 (by decide +kernel)
theorem dX5_layGoal_75 : decode cX5_layGoal 75 = .ok (.aload_n 0, 1) := dk_42 (by decide +kernel)
theorem dX5_layGoal_76 : decode cX5_layGoal 76 = .ok (.getfield 12, 3) := dk_180 (by decide +kernel)
theorem dX5_layGoal_79 : decode cX5_layGoal 79 = .ok (.iload_n 1, 1) := dk_27 (by decide +kernel)
theorem dX5_layGoal_80 : decode cX5_layGoal 80 = .ok (.aload_n 0, 1) := dk_42 (by decide +kernel)
theorem dX5_layGoal_81 : decode cX5_layGoal 81 = .ok (.getfield 38, 3) := dk_180 (by decide +kernel)
theorem dX5_layGoal_84 : decode cX5_layGoal 84 = .ok (.iload 4, 2) := dk_21 (by decide +kernel)
theorem dX5_layGoal_86 : decode cX5_layGoal 86 = .ok (.iaload, 1) := dk_46 (by decide +kernel)
theorem dX5_layGoal_87 : decode cX5_layGoal 87 = .ok (.invokevirtual 177, 3) := dk_182 (by decide +kernel)
theorem dX5_layGoal_90 : decode cX5_layGoal 90 = .ok (.lload 5, 2) := dk_22 (by decide +kernel)
theorem dX5_layGoal_92 : decode cX5_layGoal 92 = .ok (.invokevirtual 184, 3) := dk_182 (by decide +kernel)
theorem dX5_layGoal_95 : decode cX5_layGoal 95 = .ok (.iinc 4 1, 3) := dk_132 (by decide +kernel)
theorem dX5_layGoal_98 : decode cX5_layGoal 98 = .ok (.goto (-85), 3) := dk_167 (by decide +kernel)
theorem dX5_layGoal_101 : decode cX5_layGoal 101 = .ok (.return_, 1) := dk_177 (by decide +kernel)
def wsMX5_layGoal : List Cond := .code yX5_layGoal cX5_layGoal 7 none :: ([.fieldLink RX5 12 "OptimaWorks$Solver" "tableau" "LOptimaWorks$Tableau;", .fieldLink RX5 74 "OptimaWorks$Solver" "model" "LOptimaWorks$Model;", .fieldLink RX5 112 "OptimaWorks$Model" "variables" "I", .fieldLink RX5 71 "OptimaWorks$Solver" "spare" "[LOptimaWorks$Whole;", .fieldLink RX5 35 "OptimaWorks$Solver" "start" "[I", .fieldLink RX5 38 "OptimaWorks$Solver" "column" "[I"] ++ wsX10 ++ wsX50 ++ (wsV RX5 177 RX6 yX6_cellAt wsMX6_cellAt) ++ (wsV RX5 207 RX5 yX5_scaledNumber wsMX5_scaledNumber) ++ (wsV RX5 184 RX8 yX8_setLong wsMX8_setLong) ++ (wsV RX5 211 RX5 yX5_addTimes wsMX5_addTimes))
theorem iwsMX5_layGoal_in1 : ∀ w ∈ wsX10, w ∈ wsMX5_layGoal := fun _ h => List.mem_cons_of_mem _ (List.mem_append_left _ (List.mem_append_left _ (List.mem_append_left _ (List.mem_append_left _ (List.mem_append_left _ (List.mem_append_right _ h))))))
theorem iwsMX5_layGoal_in5 : ∀ w ∈ wsX50, w ∈ wsMX5_layGoal := fun _ h => List.mem_cons_of_mem _ (List.mem_append_left _ (List.mem_append_left _ (List.mem_append_left _ (List.mem_append_left _ (List.mem_append_right _ h)))))
theorem gwsMX5_layGoal_0 : GoodIn wsMX5_layGoal (wsV RX5 177 RX6 yX6_cellAt wsMX6_cellAt) := goodIn_sub (fun _ h => List.mem_cons_of_mem _ (List.mem_append_left _ (List.mem_append_left _ (List.mem_append_left _ (List.mem_append_right _ h))))) (gdV (by decide +kernel) gdwsMX6_cellAt)
theorem gwsMX5_layGoal_1 : GoodIn wsMX5_layGoal (wsV RX5 207 RX5 yX5_scaledNumber wsMX5_scaledNumber) := goodIn_sub (fun _ h => List.mem_cons_of_mem _ (List.mem_append_left _ (List.mem_append_left _ (List.mem_append_right _ h)))) (gdV (by decide +kernel) gdwsMX5_scaledNumber)
theorem gwsMX5_layGoal_2 : GoodIn wsMX5_layGoal (wsV RX5 184 RX8 yX8_setLong wsMX8_setLong) := goodIn_sub (fun _ h => List.mem_cons_of_mem _ (List.mem_append_left _ (List.mem_append_right _ h))) (gdV (by decide +kernel) gdwsMX8_setLong)
theorem gwsMX5_layGoal_3 : GoodIn wsMX5_layGoal (wsV RX5 211 RX5 yX5_addTimes wsMX5_addTimes) := goodIn_sub (fun _ h => List.mem_cons_of_mem _ (List.mem_append_right _ h)) (gdV (by decide +kernel) gdwsMX5_addTimes)
theorem gdwsMX5_layGoal : wsMX5_layGoal.all goodWord = true := gdC rfl (gdA (gdA (gdA (gdA (gdA (gdA (by decide +kernel : ([.fieldLink RX5 12 "OptimaWorks$Solver" "tableau" "LOptimaWorks$Tableau;", .fieldLink RX5 74 "OptimaWorks$Solver" "model" "LOptimaWorks$Model;", .fieldLink RX5 112 "OptimaWorks$Model" "variables" "I", .fieldLink RX5 71 "OptimaWorks$Solver" "spare" "[LOptimaWorks$Whole;", .fieldLink RX5 35 "OptimaWorks$Solver" "start" "[I", .fieldLink RX5 38 "OptimaWorks$Solver" "column" "[I"] : List Cond).all goodWord = true) gdwsX10) gdwsX50) (gdV (by decide +kernel) gdwsMX6_cellAt)) (gdV (by decide +kernel) gdwsMX5_scaledNumber)) (gdV (by decide +kernel) gdwsMX8_setLong)) (gdV (by decide +kernel) gdwsMX5_addTimes))
theorem hm_m_X5_layGoal_0 : (.fieldLink RX5 12 "OptimaWorks$Solver" "tableau" "LOptimaWorks$Tableau;" : Cond) ∈ wsMX5_layGoal := by decide +kernel
theorem hm_m_X5_layGoal_1 : (.fieldLink RX5 71 "OptimaWorks$Solver" "spare" "[LOptimaWorks$Whole;" : Cond) ∈ wsMX5_layGoal := by decide +kernel
theorem hm_m_X5_layGoal_2 : (.fieldLink RX5 38 "OptimaWorks$Solver" "column" "[I" : Cond) ∈ wsMX5_layGoal := by decide +kernel
set_option maxHeartbeats 4000000 in
set_option maxRecDepth 100000 in
/-- a goal is laid out -/
theorem m_X5_layGoal (l : Launch) (dC : Nat → ClassId) (dI : Nat → Nat → Nat) (hO : Nat → Nat) (aO : Nat → Nat) (kO : Nat → ClassId) (hM : Nat → Nat) (hQ : Nat → Nat) (hw : Nat → Nat) (iO_answered : Int32) (iO_searched : Int32) (iO_searchedRelaxed : Int32) (iO_counted : Int32) (fO_countedCase : Nat → Int32) (gO_goalNumber : Nat → Int64) (gO_goalScale : Nat → Int64) (fO_start : Nat → Int32) (fO_column : Nat → Int32) (fO_chosen : Nat → Int32) (aM : Nat → Nat) (kM : Nat → ClassId) (iM_stands : Int32) (iM_variables : Int32) (iM_rows : Int32) (iM_goals : Int32) (iM_differents : Int32) (iM_cases : Int32) (fM_from : Nat → Int32) (fM_to : Nat → Int32) (fM_whole : Nat → Int32) (fM_ways : Nat → Int32) (iM_plainRows : Int32) (fM_plainRow : Nat → Int32) (fM_kept : Nat → Int32) (fM_goalOver : Nat → Int32) (fM_goalUnder : Nat → Int32) (fM_goalMax : Nat → Int32) (fM_different : Nat → Int32) (aQ : Nat → Nat) (kQ : Nat → ClassId) (fQ_inside : Nat → Int32) (fQ_outside : Nat → Int32) (fQ_shut : Nat → Int32) (iQ_rows : Int32) (iQ_allRows : Int32) (iQ_columns : Int32) (nW : Nat) (lw : Nat → Nat) (kw : ClassId) (wl : Nat → Int32) (wb : Nat → Int32) (wG : Nat → Nat → Int64) (p1 : Int32) (p2 : Int32) (b_iO_answered : 0 ≤ iO_answered.toInt ∧ iO_answered.toInt ≤ 1) (b_iO_searched : 0 ≤ iO_searched.toInt ∧ iO_searched.toInt ≤ 1) (b_iO_searchedRelaxed : 0 ≤ iO_searchedRelaxed.toInt ∧ iO_searchedRelaxed.toInt ≤ 1) (b_iO_counted : (-1) ≤ iO_counted.toInt ∧ iO_counted.toInt ≤ 64) (b_fO_countedCase : ∀ q : Nat, 0 ≤ (fO_countedCase q).toInt ∧ (fO_countedCase q).toInt ≤ 200000) (b_fO_column : ∀ q : Nat, (-1) ≤ (fO_column q).toInt ∧ (fO_column q).toInt ≤ 8) (b_fO_chosen : ∀ q : Nat, 0 ≤ (fO_chosen q).toInt ∧ (fO_chosen q).toInt ≤ 2) (b_iM_stands : 0 ≤ iM_stands.toInt ∧ iM_stands.toInt ≤ 1) (b_iM_variables : 0 ≤ iM_variables.toInt ∧ iM_variables.toInt ≤ 8) (b_iM_rows : 0 ≤ iM_rows.toInt ∧ iM_rows.toInt ≤ 12) (b_iM_goals : 0 ≤ iM_goals.toInt ∧ iM_goals.toInt ≤ 3) (b_iM_differents : 0 ≤ iM_differents.toInt ∧ iM_differents.toInt ≤ 8) (b_iM_cases : 0 ≤ iM_cases.toInt ∧ iM_cases.toInt ≤ 200000) (b_fM_ways : ∀ q : Nat, 0 ≤ (fM_ways q).toInt ∧ (fM_ways q).toInt ≤ 3) (b_iM_plainRows : 0 ≤ iM_plainRows.toInt ∧ iM_plainRows.toInt ≤ 12) (b_fM_plainRow : ∀ q : Nat, 0 ≤ (fM_plainRow q).toInt ∧ (fM_plainRow q).toInt ≤ 11) (b_pr : iM_plainRows.toInt ≤ iM_rows.toInt) (b_iQ_rows : 0 ≤ iQ_rows.toInt ∧ iQ_rows.toInt ≤ 40) (b_iQ_allRows : 0 ≤ iQ_allRows.toInt ∧ iQ_allRows.toInt ≤ 40) (b_iQ_columns : 0 ≤ iQ_columns.toInt ∧ iQ_columns.toInt ≤ 40) (b_tb : TbO iQ_rows iQ_allRows iQ_columns) (b_wl : ∀ q : Nat, 0 ≤ (wl q).toInt ∧ (wl q).toInt ≤ 14) (b_wb : ∀ q : Nat, 0 ≤ (wb q).toInt ∧ (wb q).toInt ≤ 1) (b_p1 : 0 ≤ p1.toInt ∧ p1.toInt ≤ 39) (b_p2 : 0 ≤ p2.toInt ∧ p2.toInt ≤ 2) (hnW : 432 ≤ nW) (hc8 : iQ_columns.toInt ≤ 8) (sz : Nat) : Met l yX5_layGoal wsMX5_layGoal ({ frames := 4, cells := 0, slots := 0, locals := 85 }) (va_Pc [.ref (hO 0), .int p1, .int p2] (fun U => U.heap.size = sz ∧ va_P (dC, dI) vwCl (WO hO aO kO hM hQ hw iO_answered iO_searched iO_searchedRelaxed iO_counted fO_countedCase gO_goalNumber gO_goalScale fO_start fO_column fO_chosen ++ (WM hM aM kM iM_stands iM_variables iM_rows iM_goals iM_differents iM_cases fM_from fM_to fM_whole fM_ways iM_plainRows fM_plainRow fM_kept fM_goalOver fM_goalUnder fM_goalMax fM_different ++ (WQ hQ aQ kQ hw fQ_inside fQ_outside fQ_shut iQ_rows iQ_allRows iQ_columns ++ (WW nW hw lw kw wl wb wG)))) U.heap ∧ va_K (dC, dI) vwCl (tO kO ++ (tM kM ++ (tQ kQ ++ (tW kw)))) U ∧ va_D (fun _ => True) (WO hO aO kO hM hQ hw iO_answered iO_searched iO_searchedRelaxed iO_counted fO_countedCase gO_goalNumber gO_goalScale fO_start fO_column fO_chosen ++ (WM hM aM kM iM_stands iM_variables iM_rows iM_goals iM_differents iM_cases fM_from fM_to fM_whole fM_ways iM_plainRows fM_plainRow fM_kept fM_goalOver fM_goalUnder fM_goalMax fM_different ++ (WQ hQ aQ kQ hw fQ_inside fQ_outside fQ_shut iQ_rows iQ_allRows iQ_columns ++ (WW nW hw lw kw wl wb wG)))))) (va_Qv (fun (u : (Nat → Int32) × (Nat → Int32) × (Nat → Nat → Int64)) => (∀ q : Nat, 0 ≤ ((u.1) q).toInt ∧ ((u.1) q).toInt ≤ 14) ∧ (∀ q : Nat, 0 ≤ ((u.2.1) q).toInt ∧ ((u.2.1) q).toInt ≤ 1)) (fun (u : (Nat → Int32) × (Nat → Int32) × (Nat → Nat → Int64)) t => va_P (dC, dI) vwCl (WO hO aO kO hM hQ hw iO_answered iO_searched iO_searchedRelaxed iO_counted fO_countedCase gO_goalNumber gO_goalScale fO_start fO_column fO_chosen ++ (WM hM aM kM iM_stands iM_variables iM_rows iM_goals iM_differents iM_cases fM_from fM_to fM_whole fM_ways iM_plainRows fM_plainRow fM_kept fM_goalOver fM_goalUnder fM_goalMax fM_different ++ (WQ hQ aQ kQ hw fQ_inside fQ_outside fQ_shut iQ_rows iQ_allRows iQ_columns ++ (WW nW hw lw kw (u.1) (u.2.1) (u.2.2))))) t.heap ∧ va_D (va_A (WO hO aO kO hM hQ hw iO_answered iO_searched iO_searchedRelaxed iO_counted fO_countedCase gO_goalNumber gO_goalScale fO_start fO_column fO_chosen ++ (WM hM aM kM iM_stands iM_variables iM_rows iM_goals iM_differents iM_cases fM_from fM_to fM_whole fM_ways iM_plainRows fM_plainRow fM_kept fM_goalOver fM_goalUnder fM_goalMax fM_different ++ (WQ hQ aQ kQ hw fQ_inside fQ_outside fQ_shut iQ_rows iQ_allRows iQ_columns ++ (WW nW hw lw kw wl wb wG)))) sz) (WO hO aO kO hM hQ hw iO_answered iO_searched iO_searchedRelaxed iO_counted fO_countedCase gO_goalNumber gO_goalScale fO_start fO_column fO_chosen ++ (WM hM aM kM iM_stands iM_variables iM_rows iM_goals iM_differents iM_cases fM_from fM_to fM_whole fM_ways iM_plainRows fM_plainRow fM_kept fM_goalOver fM_goalUnder fM_goalMax fM_different ++ (WQ hQ aQ kQ hw fQ_inside fQ_outside fQ_shut iQ_rows iQ_allRows iQ_columns ++ (WW nW hw lw kw (u.1) (u.2.1) (u.2.2)))))) (va_A (WO hO aO kO hM hQ hw iO_answered iO_searched iO_searchedRelaxed iO_counted fO_countedCase gO_goalNumber gO_goalScale fO_start fO_column fO_chosen ++ (WM hM aM kM iM_stands iM_variables iM_rows iM_goals iM_differents iM_cases fM_from fM_to fM_whole fM_ways iM_plainRows fM_plainRow fM_kept fM_goalOver fM_goalUnder fM_goalMax fM_different ++ (WQ hQ aQ kQ hw fQ_inside fQ_outside fQ_shut iQ_rows iQ_allRows iQ_columns ++ (WW nW hw lw kw wl wb wG)))) sz)) 0 0 (va_A (WO hO aO kO hM hQ hw iO_answered iO_searched iO_searchedRelaxed iO_counted fO_countedCase gO_goalNumber gO_goalScale fO_start fO_column fO_chosen ++ (WM hM aM kM iM_stands iM_variables iM_rows iM_goals iM_differents iM_cases fM_from fM_to fM_whole fM_ways iM_plainRows fM_plainRow fM_kept fM_goalOver fM_goalUnder fM_goalMax fM_different ++ (WQ hQ aQ kQ hw fQ_inside fQ_outside fQ_shut iQ_rows iQ_allRows iQ_columns ++ (WW nW hw lw kw wl wb wG)))) sz) := by
  refine Met.ofW (cc := cX5_layGoal) (maxL := 7) (ret := none) (by decide) rfl ?_
  intro p e s m args below meth c s₁ B hml hv
  obtain ⟨rfl, hsz, hP, hK, hD0⟩ := hv
  have hx := B.exec
  have hb := B.bytes
  have hr := B.returns
  have hts := atoms_spec (ws := wsMX5_layGoal) B.pre
  have hown : s.vm.findClass RX5 = some m.cls := findClass_of_methodNamed B.named
  have hlocks := B.notSynchronized
  subst hsz
  have hD := hD0.self (sz := s.heap.size)
  generalize hAe : va_A (WO hO aO kO hM hQ hw iO_answered iO_searched iO_searchedRelaxed iO_counted fO_countedCase gO_goalNumber gO_goalScale fO_start fO_column fO_chosen ++ (WM hM aM kM iM_stands iM_variables iM_rows iM_goals iM_differents iM_cases fM_from fM_to fM_whole fM_ways iM_plainRows fM_plainRow fM_kept fM_goalOver fM_goalUnder fM_goalMax fM_different ++ (WQ hQ aQ kQ hw fQ_inside fQ_outside fQ_shut iQ_rows iQ_allRows iQ_columns ++ (WW nW hw lw kw wl wb wG)))) s.heap.size = A at hD ⊢
  have hA : ∀ q : Nat, s.heap.size ≤ q → A q := fun q h => by rw [← hAe]; exact Or.inr h
  have hS : va_S A s.heap s.heap [] := va_S.rf
  have hl := lv_entry ([.ref (hO 0), .int p1, .int p2]) (n := 7) (Nat.le_of_ble_eq_true rfl)
  rw [lg_entry_eq]
  generalize (lg_sl ([.ref (hO 0), .int p1, .int p2]) ++ List.replicate (7 - (lg_sl ([.ref (hO 0), .int p1, .int p2])).length) Slot.unset).toArray = ls at hl ⊢
  have hl : lv_has ls 7 [(0, .ref (hO 0)), (1, .int p1), (2, .int p2)] := hl
  refine lv_aload_n hx hb dX5_layGoal_0 rfl (lv_at hl 0 rfl) ?_
  refine va_get (D := (dC, dI)) (ci := 5) (v := .ref (hQ 0)) (C := RX5) (T := TX5) (N := 19) hx hb hts iwsMX5_layGoal_in5 hown hK hP 0 rfl rfl 1 (by decide) (hts _ hm_m_X5_layGoal_0) (fun _ h9 => h9) rfl dX5_layGoal_1 ?_
  refine lv_iload_n hx hb dX5_layGoal_4 rfl (lv_at hl 1 rfl) ?_
  refine lv_iconst (v := 0) hx hb dX5_layGoal_5 (by decide) ?_
  have p9 := cj_4_2_3 (WO hO aO kO hM hQ hw iO_answered iO_searched iO_searchedRelaxed iO_counted fO_countedCase gO_goalNumber gO_goalScale fO_start fO_column fO_chosen) (WM hM aM kM iM_stands iM_variables iM_rows iM_goals iM_differents iM_cases fM_from fM_to fM_whole fM_ways iM_plainRows fM_plainRow fM_kept fM_goalOver fM_goalUnder fM_goalMax fM_different) (WQ hQ aQ kQ hw fQ_inside fQ_outside fQ_shut iQ_rows iQ_allRows iQ_columns) (WW nW hw lw kw wl wb wG)
  have hPc := hP.mem (fun q h => p9.mem_iff.mpr (List.mem_append_left _ h))
  have hDc := (hD.perm p9).left
  have hKc : va_K (dC, dI) vwCl (tQ kQ ++ (tW kw)) _ := hK.sub [20, 21, 22, 23, 24] rfl
  have hFc := freeG p9 hD hS hA
  refine va_callr (va_runV (As := [.int p1, .int 0]) (rest := []) ⟨hx, hb, hml, hown, hts⟩ (m_X6_cellAt l dC dI hQ aQ kQ hw fQ_inside fQ_outside fQ_shut iQ_rows iQ_allRows iQ_columns nW lw kw wl wb wG p1 0 (b_iQ_rows) (b_iQ_allRows) (b_iQ_columns) (by first | with_reducible assumption | omega | assumption) b_wl b_wb (b_p1) (show 0 ≤ (0 : Int32).toInt ∧ (0 : Int32).toInt ≤ 40 from by decide) (by omega) ((by have h9 := ix_small (i := p1.toInt) (j := 0) (c := iQ_columns.toInt) (by omega) (by omega) (by omega) (by omega) (by omega) (by omega); have h8 : (0 : Int32).toInt = 0 := (by decide); rw [h8]; exact h9)) s.heap.size) (cwV 2 hts gwsMX5_layGoal_0 rfl rfl rfl hd_yX6_cellAt_RX6 (by decide +kernel)) (fz_pre (va_recv hK hP (ci := 6) (q0 := 22) rfl rfl) hPc hKc hDc) rfl rfl hl.1 rfl (lv_room (Nat.le_of_ble_eq_true rfl)) dX5_layGoal_6 (by decide +kernel)) hS (fun q _ h => hFc q h) hFc (fun kR_1 ra1 t9_ H locs ht hvm hw9 hB9 hz1 hk1 hS => ?_)
  revert hB9
  refine fz_a2 ?_
  intro hra hB9
  subst hra
  have f1_0 := hw9
  try dsimp only at f1_0
  have p8 := p9
  obtain ⟨hP, hD⟩ := frameG p9 p8 hP hD hk1 hFc (fz_P ht hB9.1) hB9.2
  refine lv_astore_n hx hb dX5_layGoal_9 rfl hl (by decide) rfl (fun ls (hl : lv_has ls _ ([(3, .ref (hw kR_1)), (0, .ref (hO 0)), (1, .int p1), (2, .int p2)])) => ?_)
  refine lv_iconst (v := 0) hx hb dX5_layGoal_10 (by decide) ?_
  refine lv_istore hx hb dX5_layGoal_11 hl (by decide) rfl (fun ls (hl : lv_has ls _ ([(4, .int 0), (3, .ref (hw kR_1)), (0, .ref (hO 0)), (1, .int p1), (2, .int p2)])) => ?_)
  have hl : lv_has _ _ ([(4, .int 0), (3, .ref (hw kR_1)), (0, .ref (hO 0)), (1, .int p1), (2, .int p2)]) := lv_sub hl [0, 1, 2, 3, 4] rfl
  refine (fun (loop : ∀ (n9 : Nat) (wl_x13 : Nat → Int32) (wb_x13 : Nat → Int32) (wG_x13 : Nat → Nat → Int64) (l4_x13 : Int32) (H : Heap) (locs : List Loc) (ls : Array Slot), (∀ q : Nat, 0 ≤ (wl_x13 q).toInt ∧ (wl_x13 q).toInt ≤ 14) → (∀ q : Nat, 0 ≤ (wb_x13 q).toInt ∧ (wb_x13 q).toInt ≤ 1) → (0 ≤ l4_x13.toInt ∧ l4_x13.toInt ≤ 8) → (8 - l4_x13.toInt < ((n9 : Nat) : Int)) → va_P (dC, dI) vwCl (WO hO aO kO hM hQ hw iO_answered iO_searched iO_searchedRelaxed iO_counted fO_countedCase gO_goalNumber gO_goalScale fO_start fO_column fO_chosen ++ (WM hM aM kM iM_stands iM_variables iM_rows iM_goals iM_differents iM_cases fM_from fM_to fM_whole fM_ways iM_plainRows fM_plainRow fM_kept fM_goalOver fM_goalUnder fM_goalMax fM_different ++ (WQ hQ aQ kQ hw fQ_inside fQ_outside fQ_shut iQ_rows iQ_allRows iQ_columns ++ (WW nW hw lw kw wl_x13 wb_x13 wG_x13)))) H → va_D A (WO hO aO kO hM hQ hw iO_answered iO_searched iO_searchedRelaxed iO_counted fO_countedCase gO_goalNumber gO_goalScale fO_start fO_column fO_chosen ++ (WM hM aM kM iM_stands iM_variables iM_rows iM_goals iM_differents iM_cases fM_from fM_to fM_whole fM_ways iM_plainRows fM_plainRow fM_kept fM_goalOver fM_goalUnder fM_goalMax fM_different ++ (WQ hQ aQ kQ hw fQ_inside fQ_outside fQ_shut iQ_rows iQ_allRows iQ_columns ++ (WW nW hw lw kw wl_x13 wb_x13 wG_x13)))) → va_S A s.heap H locs → lv_has ls 7 [(4, .int l4_x13), (3, .ref (hw kR_1)), (0, .ref (hO 0)), (1, .int p1), (2, .int p2)] → W p l e _ s m _ below meth c H locs 0 0 _ (F0 m 13 ls [])) => loop (9) wl wb wG 0 _ _ _ b_wl b_wb (show 0 ≤ (0 : Int32).toInt ∧ (0 : Int32).toInt ≤ 8 from by decide) ((by have e9 : (0 : Int32).toInt = 0 := (by decide : (0 : Int32).toInt = 0); omega)) hP hD hS hl) ?_
  intro n9
  induction n9 with
  | zero => intro wl_x13 wb_x13 wG_x13 l4_x13 H locs ls b_wl_x13 b_wb_x13 b_l4_x13 hf9; exact False.elim (by omega)
  | succ n9 ihx13 =>
    intro wl_x13 wb_x13 wG_x13 l4_x13 H locs ls b_wl_x13 b_wb_x13 b_l4_x13 hfx13 hP hD hS hl
    refine lv_iload hx hb dX5_layGoal_13 (lv_at hl 0 rfl) ?_
    refine lv_aload_n hx hb dX5_layGoal_15 rfl (lv_at hl 2 rfl) ?_
    refine va_get (D := (dC, dI)) (ci := 5) (v := .ref (hM 0)) (C := RX5) (T := TX5) (N := 19) hx hb hts iwsMX5_layGoal_in5 hown hK hP 0 rfl rfl 0 (by decide) (hts (.fieldLink RX5 74 "OptimaWorks$Solver" "model" "LOptimaWorks$Model;") (by decide +kernel)) (fun _ h9 => h9) rfl dX5_layGoal_16 ?_
    refine va_get (D := (dC, dI)) (ci := 1) (v := .int iM_variables) (C := RX1) (T := TX1) (N := 17) hx hb hts iwsMX5_layGoal_in1 hown hK hP 11 rfl rfl 1 (by decide) (hts (.fieldLink RX5 112 "OptimaWorks$Model" "variables" "I") (by decide +kernel)) (fun _ h9 => h9) rfl dX5_layGoal_19 ?_
    refine lv_icmp_ge (tgt := 101) hx hb dX5_layGoal_22 (by decide) (fun c_22 => ?_) (fun c_22 => ?_)
    · have t_22 : l4_x13.toInt ≥ iM_variables.toInt := toI_ge c_22 rfl rfl
      refine W.widen (k := 0) (n := 0) (by decide +kernel) (by decide +kernel) ?_
      exact W.vret hx hb hr (fun t9_ ht hW => ⟨⟨(wl_x13, wb_x13, wG_x13), rfl, ⟨b_wl_x13, b_wb_x13⟩, by rw [ht]; exact hP, hD⟩, hS.F ht⟩) hS.2.2 dX5_layGoal_101
    · have t_22 : ¬ l4_x13.toInt ≥ iM_variables.toInt := toI_nge c_22 rfl rfl
      refine lv_aload_n hx hb dX5_layGoal_25 rfl (lv_at hl 2 rfl) ?_
      refine lv_iload_n hx hb dX5_layGoal_26 rfl (lv_at hl 4 rfl) ?_
      refine lv_iload hx hb dX5_layGoal_27 (lv_at hl 0 rfl) ?_
      have hFc := allFree hD hS hA
      refine va_calll (va_runV (As := [.int p2, .int l4_x13]) (rest := []) ⟨hx, hb, hml, hown, hts⟩ (m_X5_scaledNumber l dC dI hO aO kO hM hQ hw iO_answered iO_searched iO_searchedRelaxed iO_counted fO_countedCase gO_goalNumber gO_goalScale fO_start fO_column fO_chosen aM kM iM_stands iM_variables iM_rows iM_goals iM_differents iM_cases fM_from fM_to fM_whole fM_ways iM_plainRows fM_plainRow fM_kept fM_goalOver fM_goalUnder fM_goalMax fM_different aQ kQ fQ_inside fQ_outside fQ_shut iQ_rows iQ_allRows iQ_columns nW lw kw wl_x13 wb_x13 wG_x13 p2 l4_x13 (b_iO_answered) (b_iO_searched) (b_iO_searchedRelaxed) (b_iO_counted) b_fO_countedCase b_fO_column b_fO_chosen (b_iM_stands) (b_iM_variables) (b_iM_rows) (b_iM_goals) (b_iM_differents) (b_iM_cases) b_fM_ways (b_iM_plainRows) b_fM_plainRow (by first | with_reducible assumption | omega | assumption) (b_iQ_rows) (b_iQ_allRows) (b_iQ_columns) (by first | with_reducible assumption | omega | assumption) b_wl_x13 b_wb_x13 (b_p2) (by first | exact b_l4_x13 | with_reducible assumption | exact ⟨by omega, by omega⟩ | assumption) (by omega) H.size) (cwV 2 hts gwsMX5_layGoal_1 rfl rfl rfl hd_yX5_scaledNumber_RX5 (by decide +kernel)) (fz_pre (va_recv hK hP (ci := 5) (q0 := 0) rfl rfl) hP hK hD) rfl rfl hl.1 rfl (lv_room (Nat.le_of_ble_eq_true rfl)) dX5_layGoal_29 (by decide +kernel)) hS (fun q _ h => hFc q h) hFc (fun r72 u t9_ H locs ht hvm hw9 hB9 hz1 hk1 hS => ?_)
      clear hw9
      have hP : va_P (dC, dI) vwCl (WO hO aO kO hM hQ hw iO_answered iO_searched iO_searchedRelaxed iO_counted fO_countedCase gO_goalNumber gO_goalScale fO_start fO_column fO_chosen ++ (WM hM aM kM iM_stands iM_variables iM_rows iM_goals iM_differents iM_cases fM_from fM_to fM_whole fM_ways iM_plainRows fM_plainRow fM_kept fM_goalOver fM_goalUnder fM_goalMax fM_different ++ (WQ hQ aQ kQ hw fQ_inside fQ_outside fQ_shut iQ_rows iQ_allRows iQ_columns ++ (WW nW hw lw kw wl_x13 wb_x13 wG_x13)))) H := fz_P ht hB9.1
      have hD := fz_sd hP (hB9.2.weaken (fun _ q _ h => hFc q.1 h)) rfl
      refine lv_lstore hx hb dX5_layGoal_32 hl (by decide) rfl (fun ls (hl : lv_has ls _ ([(5, .long r72), (4, .int l4_x13), (3, .ref (hw kR_1)), (0, .ref (hO 0)), (1, .int p1), (2, .int p2)])) => ?_)
      refine lv_aload_n hx hb dX5_layGoal_34 rfl (lv_at hl 3 rfl) ?_
      refine va_get (D := (dC, dI)) (ci := 5) (v := .ref (aO 9)) (C := RX5) (T := TX5) (N := 19) hx hb hts iwsMX5_layGoal_in5 hown hK hP 0 rfl rfl 18 (by decide) (hts _ hm_m_X5_layGoal_1) (fun _ h9 => h9) rfl dX5_layGoal_35 ?_
      refine lv_iconst (v := 1) hx hb dX5_layGoal_38 (by decide) ?_
      refine va_aldq (cA := kO 9) (n := 4) (f := fun q => some (hw (428 + q))) hx hb hK hP 10 9 rfl rfl (show ¬ ((1 : Int32) < 0 ∨ 4 ≤ (1 : Int32).toNatClampNeg) by decide) dX5_layGoal_39 ?_
      obtain ⟨k73, hk73, b_k73⟩ : ∃ k9 : Nat, k9 = 428 + (1 : Int32).toNatClampNeg ∧ (428 ≤ k9 ∧ k9 < 432 ∧ (k9 : Int) = 428 + 1) := ⟨_, rfl, ald_k (x := (1 : Int32)) (o := 428) (n := 4) (by decide : (1 : Int32).toInt = 1) (by omega) (by omega)⟩
      refine W.eq (g2 := F0 m 40 ls [.ref (hw k73)]) (by rw [hk73]; rfl) ?_
      clear hk73
      refine lv_aload_n hx hb dX5_layGoal_40 rfl (lv_at hl 3 rfl) ?_
      refine va_get (D := (dC, dI)) (ci := 5) (v := .ref (aO 3)) (C := RX5) (T := TX5) (N := 19) hx hb hts iwsMX5_layGoal_in5 hown hK hP 0 rfl rfl 9 (by decide) (hts (.fieldLink RX5 35 "OptimaWorks$Solver" "start" "[I") (by decide +kernel)) (fun _ h9 => h9) rfl dX5_layGoal_41 ?_
      refine lv_iload hx hb dX5_layGoal_44 (lv_at hl 1 rfl) ?_
      refine va_iald (cA := kO 3) (n := 8) (f := fO_start) hx hb hK hP 4 3 rfl rfl (vp_in_iff.mpr ⟨b_l4_x13.1, (Int.lt_of_lt_of_le (Int.not_le.mp t_22) (Int.le_trans b_iM_variables.2 (by decide)))⟩) dX5_layGoal_46 ?_
      refine lv_topi (fun v74 hv74 => ?_)
      clear hv74
      refine lv_i2l hx hb dX5_layGoal_47 rfl ?_
      refine lv_topl (fun v75 hv75 => ?_)
      clear hv75
      have p9 := cj_4_3 (WO hO aO kO hM hQ hw iO_answered iO_searched iO_searchedRelaxed iO_counted fO_countedCase gO_goalNumber gO_goalScale fO_start fO_column fO_chosen) (WM hM aM kM iM_stands iM_variables iM_rows iM_goals iM_differents iM_cases fM_from fM_to fM_whole fM_ways iM_plainRows fM_plainRow fM_kept fM_goalOver fM_goalUnder fM_goalMax fM_different) (WQ hQ aQ kQ hw fQ_inside fQ_outside fQ_shut iQ_rows iQ_allRows iQ_columns) (WW nW hw lw kw wl_x13 wb_x13 wG_x13)
      have hPc := hP.mem (fun q h => p9.mem_iff.mpr (List.mem_append_left _ h))
      have hDc := (hD.perm p9).left
      have hKc : va_K (dC, dI) vwCl (tW kw) _ := hK.sub [24] rfl
      have hFc := freeG p9 hD hS hA
      refine va_callv (va_runV (As := [.long v75]) (rest := []) ⟨hx, hb, hml, hown, hts⟩ (m_X8_setLong l dC dI nW hw lw kw wl_x13 wb_x13 wG_x13 k73 v75 b_wl_x13 b_wb_x13 (by first | with_reducible assumption | omega | (rw [iI_t (by omega) (by omega)]; omega) | decide | assumption) H.size) (cwV 1 hts gwsMX5_layGoal_2 rfl rfl rfl hd_yX8_setLong_RX8 (by decide +kernel)) (fz_pre (va_recv hK hP (ci := 8) (q0 := 11 + (11 + (5 + (k73)))) rfl (apR rfl (apR rfl (apR rfl (WW_o (by omega)))))) hPc hKc hDc) rfl rfl hl.1 rfl (lv_room (Nat.le_of_ble_eq_true rfl)) dX5_layGoal_48 (by decide +kernel)) hS (fun q _ h => hFc q h) hFc (fun u t9_ H locs ht hvm hw9 hB9 hz1 hk1 hS => ?_)
      revert u hw9 hB9
      refine fz_p3 ?_
      intro wl_76 wb_76 wG_76 hw9 hB9
      try dsimp only at hw9 hB9
      revert hw9
      refine fz_a2 ?_
      intro b_wl_76 b_wb_76
      have p8 := cj_4_3 (WO hO aO kO hM hQ hw iO_answered iO_searched iO_searchedRelaxed iO_counted fO_countedCase gO_goalNumber gO_goalScale fO_start fO_column fO_chosen) (WM hM aM kM iM_stands iM_variables iM_rows iM_goals iM_differents iM_cases fM_from fM_to fM_whole fM_ways iM_plainRows fM_plainRow fM_kept fM_goalOver fM_goalUnder fM_goalMax fM_different) (WQ hQ aQ kQ hw fQ_inside fQ_outside fQ_shut iQ_rows iQ_allRows iQ_columns) (WW nW hw lw kw wl_76 wb_76 wG_76)
      obtain ⟨hP, hD⟩ := frameG p9 p8 hP hD hk1 hFc (fz_P ht hB9.1) hB9.2
      refine lv_aload_n hx hb dX5_layGoal_51 rfl (lv_at hl 3 rfl) ?_
      refine lv_aload_n hx hb dX5_layGoal_52 rfl (lv_at hl 2 rfl) ?_
      refine lv_aload_n hx hb dX5_layGoal_53 rfl (lv_at hl 3 rfl) ?_
      refine va_get (D := (dC, dI)) (ci := 5) (v := .ref (aO 9)) (C := RX5) (T := TX5) (N := 19) hx hb hts iwsMX5_layGoal_in5 hown hK hP 0 rfl rfl 18 (by decide) (hts _ hm_m_X5_layGoal_1) (fun _ h9 => h9) rfl dX5_layGoal_54 ?_
      refine lv_iconst (v := 1) hx hb dX5_layGoal_57 (by decide) ?_
      refine va_aldq (cA := kO 9) (n := 4) (f := fun q => some (hw (428 + q))) hx hb hK hP 10 9 rfl rfl (show ¬ ((1 : Int32) < 0 ∨ 4 ≤ (1 : Int32).toNatClampNeg) by decide) dX5_layGoal_58 ?_
      obtain ⟨k77, hk77, b_k77⟩ : ∃ k9 : Nat, k9 = 428 + (1 : Int32).toNatClampNeg ∧ (428 ≤ k9 ∧ k9 < 432 ∧ (k9 : Int) = 428 + 1) := ⟨_, rfl, ald_k (x := (1 : Int32)) (o := 428) (n := 4) (by decide : (1 : Int32).toInt = 1) (by omega) (by omega)⟩
      refine W.eq (g2 := F0 m 59 ls [.ref (hw k77), .ref (hw kR_1), .ref (hO 0)]) (by rw [hk77]; rfl) ?_
      clear hk77
      refine lv_lload hx hb dX5_layGoal_59 (lv_at hl 0 rfl) ?_
      have hFc := allFree hD hS hA
      refine va_callv (va_runV (As := [.ref (hw kR_1), .ref (hw k77), .long r72]) (rest := []) ⟨hx, hb, hml, hown, hts⟩ (m_X5_addTimes l dC dI hO aO kO hM hQ hw iO_answered iO_searched iO_searchedRelaxed iO_counted fO_countedCase gO_goalNumber gO_goalScale fO_start fO_column fO_chosen aM kM iM_stands iM_variables iM_rows iM_goals iM_differents iM_cases fM_from fM_to fM_whole fM_ways iM_plainRows fM_plainRow fM_kept fM_goalOver fM_goalUnder fM_goalMax fM_different aQ kQ fQ_inside fQ_outside fQ_shut iQ_rows iQ_allRows iQ_columns nW lw kw wl_76 wb_76 wG_76 kR_1 k77 r72 (b_iO_answered) (b_iO_searched) (b_iO_searchedRelaxed) (b_iO_counted) b_fO_countedCase b_fO_column b_fO_chosen (b_iM_stands) (b_iM_variables) (b_iM_rows) (b_iM_goals) (b_iM_differents) (b_iM_cases) b_fM_ways (b_iM_plainRows) b_fM_plainRow (by first | with_reducible assumption | omega | assumption) (b_iQ_rows) (b_iQ_allRows) (b_iQ_columns) (by first | with_reducible assumption | omega | assumption) b_wl_76 b_wb_76 (by omega) (by first | with_reducible assumption | omega | (rw [iI_t (by omega) (by omega)]; omega) | decide | assumption) (by first | with_reducible assumption | omega | (rw [iI_t (by omega) (by omega)]; omega) | decide | assumption) H.size) (cwV 3 hts gwsMX5_layGoal_3 rfl rfl rfl hd_yX5_addTimes_RX5 (by decide +kernel)) (fz_pre (va_recv hK hP (ci := 5) (q0 := 0) rfl rfl) hP hK hD) rfl rfl hl.1 rfl (lv_room (Nat.le_of_ble_eq_true rfl)) dX5_layGoal_61 (by decide +kernel)) hS (fun q _ h => hFc q h) hFc (fun u t9_ H locs ht hvm hw9 hB9 hz1 hk1 hS => ?_)
      revert u hw9 hB9
      refine fz_p3 ?_
      intro wl_78 wb_78 wG_78 hw9 hB9
      try dsimp only at hw9 hB9
      revert hw9
      refine fz_a2 ?_
      intro b_wl_78 b_wb_78
      have hP : va_P (dC, dI) vwCl (WO hO aO kO hM hQ hw iO_answered iO_searched iO_searchedRelaxed iO_counted fO_countedCase gO_goalNumber gO_goalScale fO_start fO_column fO_chosen ++ (WM hM aM kM iM_stands iM_variables iM_rows iM_goals iM_differents iM_cases fM_from fM_to fM_whole fM_ways iM_plainRows fM_plainRow fM_kept fM_goalOver fM_goalUnder fM_goalMax fM_different ++ (WQ hQ aQ kQ hw fQ_inside fQ_outside fQ_shut iQ_rows iQ_allRows iQ_columns ++ (WW nW hw lw kw wl_78 wb_78 wG_78)))) H := fz_P ht hB9.1
      have hD := fz_sd hP (hB9.2.weaken (fun _ q _ h => hFc q.1 h)) rfl
      refine lv_aload_n hx hb dX5_layGoal_64 rfl (lv_at hl 3 rfl) ?_
      refine va_get (D := (dC, dI)) (ci := 5) (v := .ref (aO 4)) (C := RX5) (T := TX5) (N := 19) hx hb hts iwsMX5_layGoal_in5 hown hK hP 0 rfl rfl 10 (by decide) (hts _ hm_m_X5_layGoal_2) (fun _ h9 => h9) rfl dX5_layGoal_65 ?_
      refine lv_iload hx hb dX5_layGoal_68 (lv_at hl 1 rfl) ?_
      refine va_iald (cA := kO 4) (n := 8) (f := fO_column) hx hb hK hP 5 4 rfl rfl (vp_in_iff.mpr ⟨b_l4_x13.1, (Int.lt_of_lt_of_le (Int.not_le.mp t_22) (Int.le_trans b_iM_variables.2 (by decide)))⟩) dX5_layGoal_70 ?_
      refine lv_topi (fun v79 hv79 => ?_)
      have b_v79 : (-1) ≤ v79.toInt ∧ v79.toInt ≤ 8 := by rw [hv79]; exact b_fO_column _
      have b1_v79 : v79 = fO_column (l4_x13).toNatClampNeg := hv79
      clear hv79
      refine lv_iconst (v := (-1)) hx hb dX5_layGoal_71 (by decide) ?_
      refine W.cut (pc := 95) (fun H locs ls stk => ∃ (wl_j12 : Nat → Int32) (wb_j12 : Nat → Int32) (wG_j12 : Nat → Nat → Int64), (∀ q : Nat, 0 ≤ (wl_j12 q).toInt ∧ (wl_j12 q).toInt ≤ 14) ∧ (∀ q : Nat, 0 ≤ (wb_j12 q).toInt ∧ (wb_j12 q).toInt ≤ 1) ∧  stk = [] ∧ va_P (dC, dI) vwCl (WO hO aO kO hM hQ hw iO_answered iO_searched iO_searchedRelaxed iO_counted fO_countedCase gO_goalNumber gO_goalScale fO_start fO_column fO_chosen ++ (WM hM aM kM iM_stands iM_variables iM_rows iM_goals iM_differents iM_cases fM_from fM_to fM_whole fM_ways iM_plainRows fM_plainRow fM_kept fM_goalOver fM_goalUnder fM_goalMax fM_different ++ (WQ hQ aQ kQ hw fQ_inside fQ_outside fQ_shut iQ_rows iQ_allRows iQ_columns ++ (WW nW hw lw kw wl_j12 wb_j12 wG_j12)))) H ∧ va_D A (WO hO aO kO hM hQ hw iO_answered iO_searched iO_searchedRelaxed iO_counted fO_countedCase gO_goalNumber gO_goalScale fO_start fO_column fO_chosen ++ (WM hM aM kM iM_stands iM_variables iM_rows iM_goals iM_differents iM_cases fM_from fM_to fM_whole fM_ways iM_plainRows fM_plainRow fM_kept fM_goalOver fM_goalUnder fM_goalMax fM_different ++ (WQ hQ aQ kQ hw fQ_inside fQ_outside fQ_shut iQ_rows iQ_allRows iQ_columns ++ (WW nW hw lw kw wl_j12 wb_j12 wG_j12)))) ∧ va_S A s.heap H locs ∧ lv_has ls 7 [(5, .long r72), (4, .int l4_x13), (3, .ref (hw kR_1)), (0, .ref (hO 0)), (1, .int p1), (2, .int p2)]) (fun join12 => ?_) ?_
      · refine lv_icmp_eq (tgt := 95) hx hb dX5_layGoal_72 (by decide) (fun c_72 => ?_) (fun c_72 => ?_)
        · have t_72 : v79.toInt = (-1) := toI_eq c_72 rfl (by decide : ((-1) : Int32).toInt = (-1))
          have hl : lv_has _ _ ([(5, .long r72), (4, .int l4_x13), (3, .ref (hw kR_1)), (0, .ref (hO 0)), (1, .int p1), (2, .int p2)]) := lv_sub hl [0, 1, 2, 3, 4, 5] rfl
          exact join12 _ _ _ _ ⟨wl_78, wb_78, wG_78, b_wl_78, b_wb_78, rfl, hP, hD, hS, hl⟩
        · have t_72 : ¬ v79.toInt = (-1) := toI_neq c_72 rfl (by decide : ((-1) : Int32).toInt = (-1))
          refine lv_aload_n hx hb dX5_layGoal_75 rfl (lv_at hl 3 rfl) ?_
          refine va_get (D := (dC, dI)) (ci := 5) (v := .ref (hQ 0)) (C := RX5) (T := TX5) (N := 19) hx hb hts iwsMX5_layGoal_in5 hown hK hP 0 rfl rfl 1 (by decide) (hts _ hm_m_X5_layGoal_0) (fun _ h9 => h9) rfl dX5_layGoal_76 ?_
          refine lv_iload_n hx hb dX5_layGoal_79 rfl (lv_at hl 4 rfl) ?_
          refine lv_aload_n hx hb dX5_layGoal_80 rfl (lv_at hl 3 rfl) ?_
          refine va_get (D := (dC, dI)) (ci := 5) (v := .ref (aO 4)) (C := RX5) (T := TX5) (N := 19) hx hb hts iwsMX5_layGoal_in5 hown hK hP 0 rfl rfl 10 (by decide) (hts _ hm_m_X5_layGoal_2) (fun _ h9 => h9) rfl dX5_layGoal_81 ?_
          refine lv_iload hx hb dX5_layGoal_84 (lv_at hl 1 rfl) ?_
          refine va_iald (cA := kO 4) (n := 8) (f := fO_column) hx hb hK hP 5 4 rfl rfl (vp_in_iff.mpr ⟨b_l4_x13.1, (by omega)⟩) dX5_layGoal_86 ?_
          refine lv_topi (fun v83 hv83 => ?_)
          have b_v83 : (-1) ≤ v83.toInt ∧ v83.toInt ≤ 8 := by rw [hv83]; exact b_fO_column _
          have b1_v83 : v83 = fO_column (l4_x13).toNatClampNeg := hv83
          have b2_v83 : v83.toInt = v79.toInt := by rw [hv83]; exact (congrArg Int32.toInt b1_v79).symm
          clear hv83
          have p9 := cj_4_2_3 (WO hO aO kO hM hQ hw iO_answered iO_searched iO_searchedRelaxed iO_counted fO_countedCase gO_goalNumber gO_goalScale fO_start fO_column fO_chosen) (WM hM aM kM iM_stands iM_variables iM_rows iM_goals iM_differents iM_cases fM_from fM_to fM_whole fM_ways iM_plainRows fM_plainRow fM_kept fM_goalOver fM_goalUnder fM_goalMax fM_different) (WQ hQ aQ kQ hw fQ_inside fQ_outside fQ_shut iQ_rows iQ_allRows iQ_columns) (WW nW hw lw kw wl_78 wb_78 wG_78)
          have hPc := hP.mem (fun q h => p9.mem_iff.mpr (List.mem_append_left _ h))
          have hDc := (hD.perm p9).left
          have hKc : va_K (dC, dI) vwCl (tQ kQ ++ (tW kw)) _ := hK.sub [20, 21, 22, 23, 24] rfl
          have hFc := freeG p9 hD hS hA
          refine va_callr (va_runV (As := [.int p1, .int v83]) (rest := []) ⟨hx, hb, hml, hown, hts⟩ (m_X6_cellAt l dC dI hQ aQ kQ hw fQ_inside fQ_outside fQ_shut iQ_rows iQ_allRows iQ_columns nW lw kw wl_78 wb_78 wG_78 p1 v83 (b_iQ_rows) (b_iQ_allRows) (b_iQ_columns) (by first | with_reducible assumption | omega | assumption) b_wl_78 b_wb_78 (b_p1) (by first | exact b_v83 | with_reducible assumption | exact ⟨by omega, by omega⟩ | assumption) (by omega) ((by have h9 := ix_small (i := p1.toInt) (j := v83.toInt) (c := iQ_columns.toInt) (by omega) (by omega) (by omega) (by omega) (by omega) (by omega); exact h9)) H.size) (cwV 2 hts gwsMX5_layGoal_0 rfl rfl rfl hd_yX6_cellAt_RX6 (by decide +kernel)) (fz_pre (va_recv hK hP (ci := 6) (q0 := 22) rfl rfl) hPc hKc hDc) rfl rfl hl.1 rfl (lv_room (Nat.le_of_ble_eq_true rfl)) dX5_layGoal_87 (by decide +kernel)) hS (fun q _ h => hFc q h) hFc (fun kR_84 ra84 t9_ H locs ht hvm hw9 hB9 hz1 hk1 hS => ?_)
          revert hB9
          refine fz_a2 ?_
          intro hra hB9
          subst hra
          have f84_0 := hw9
          try dsimp only at f84_0
          have p8 := p9
          obtain ⟨hP, hD⟩ := frameG p9 p8 hP hD hk1 hFc (fz_P ht hB9.1) hB9.2
          refine lv_lload hx hb dX5_layGoal_90 (lv_at hl 0 rfl) ?_
          have p9 := cj_4_3 (WO hO aO kO hM hQ hw iO_answered iO_searched iO_searchedRelaxed iO_counted fO_countedCase gO_goalNumber gO_goalScale fO_start fO_column fO_chosen) (WM hM aM kM iM_stands iM_variables iM_rows iM_goals iM_differents iM_cases fM_from fM_to fM_whole fM_ways iM_plainRows fM_plainRow fM_kept fM_goalOver fM_goalUnder fM_goalMax fM_different) (WQ hQ aQ kQ hw fQ_inside fQ_outside fQ_shut iQ_rows iQ_allRows iQ_columns) (WW nW hw lw kw wl_78 wb_78 wG_78)
          have hPc := hP.mem (fun q h => p9.mem_iff.mpr (List.mem_append_left _ h))
          have hDc := (hD.perm p9).left
          have hKc : va_K (dC, dI) vwCl (tW kw) _ := hK.sub [24] rfl
          have hFc := freeG p9 hD hS hA
          refine va_callv (va_runV (As := [.long r72]) (rest := []) ⟨hx, hb, hml, hown, hts⟩ (m_X8_setLong l dC dI nW hw lw kw wl_78 wb_78 wG_78 kR_84 r72 b_wl_78 b_wb_78 (by first | with_reducible assumption | omega | (rw [iI_t (by omega) (by omega)]; omega) | decide | assumption) H.size) (cwV 1 hts gwsMX5_layGoal_2 rfl rfl rfl hd_yX8_setLong_RX8 (by decide +kernel)) (fz_pre (va_recv hK hP (ci := 8) (q0 := 11 + (11 + (5 + (kR_84)))) rfl (apR rfl (apR rfl (apR rfl (WW_o (by omega)))))) hPc hKc hDc) rfl rfl hl.1 rfl (lv_room (Nat.le_of_ble_eq_true rfl)) dX5_layGoal_92 (by decide +kernel)) hS (fun q _ h => hFc q h) hFc (fun u t9_ H locs ht hvm hw9 hB9 hz1 hk1 hS => ?_)
          revert u hw9 hB9
          refine fz_p3 ?_
          intro wl_85 wb_85 wG_85 hw9 hB9
          try dsimp only at hw9 hB9
          revert hw9
          refine fz_a2 ?_
          intro b_wl_85 b_wb_85
          have p8 := cj_4_3 (WO hO aO kO hM hQ hw iO_answered iO_searched iO_searchedRelaxed iO_counted fO_countedCase gO_goalNumber gO_goalScale fO_start fO_column fO_chosen) (WM hM aM kM iM_stands iM_variables iM_rows iM_goals iM_differents iM_cases fM_from fM_to fM_whole fM_ways iM_plainRows fM_plainRow fM_kept fM_goalOver fM_goalUnder fM_goalMax fM_different) (WQ hQ aQ kQ hw fQ_inside fQ_outside fQ_shut iQ_rows iQ_allRows iQ_columns) (WW nW hw lw kw wl_85 wb_85 wG_85)
          obtain ⟨hP, hD⟩ := frameG p9 p8 hP hD hk1 hFc (fz_P ht hB9.1) hB9.2
          have hl : lv_has _ _ ([(5, .long r72), (4, .int l4_x13), (3, .ref (hw kR_1)), (0, .ref (hO 0)), (1, .int p1), (2, .int p2)]) := lv_sub hl [0, 1, 2, 3, 4, 5] rfl
          exact join12 _ _ _ _ ⟨wl_85, wb_85, wG_85, b_wl_85, b_wb_85, rfl, hP, hD, hS, hl⟩
      · intro H locs ls stk
        refine fz_e3 ?_
        intro wl_j12 wb_j12 wG_j12
        refine fz_a7 ?_
        intro b_wl_j12 b_wb_j12 hst9_2 hP hD hS hl
        subst hst9_2
        refine lv_iinc (v := (iI (l4_x13.toInt + 1))) hx hb dX5_layGoal_95 hl (k := 1) rfl (iI_add2 (iI_of _) (by decide : (1 : Int32) = iI 1)) (by decide) rfl (fun ls (hl : lv_has ls _ ([(4, .int (iI (l4_x13.toInt + 1))), (5, .long r72), (3, .ref (hw kR_1)), (0, .ref (hO 0)), (1, .int p1), (2, .int p2)])) => ?_)
        refine lv_goto (tgt := 13) hx hb dX5_layGoal_98 (by decide) ?_
        have hl : lv_has _ _ ([(4, .int (iI (l4_x13.toInt + 1))), (3, .ref (hw kR_1)), (0, .ref (hO 0)), (1, .int p1), (2, .int p2)]) := lv_sub hl [0, 2, 3, 4, 5] rfl
        exact ihx13 wl_j12 wb_j12 wG_j12 (iI (l4_x13.toInt + 1)) _ _ _ b_wl_j12 b_wb_j12 (iI_rng (Int.le_trans (by decide) (Int.add_le_add (b_l4_x13.1) (Int.le_refl _))) (by omega) (by decide) (by decide)) (by have e9 : ((iI (l4_x13.toInt + 1))).toInt = (l4_x13.toInt + 1) := (iI_t (Int.le_trans (by decide) (Int.add_le_add (b_l4_x13.1) (Int.le_refl _))) (Int.le_trans (Int.add_le_add (b_l4_x13.2) (Int.le_refl _)) (by decide))); omega) hP hD hS hl
end
section
theorem hd_yX6_begin_RX6 : yX6_begin.cls = RX6 ∧ yX6_begin.cls ≠ "java/lang/invoke/MethodHandle" ∧ yX6_begin.cls ≠ "java/lang/invoke/VarHandle" ∧ (parseMethodDescriptor yX6_begin.desc).map (fun d => d.parameters.length) = some 3 := by decide +kernel
theorem hd_yX5_layGoal_RX5 : yX5_layGoal.cls = RX5 ∧ yX5_layGoal.cls ≠ "java/lang/invoke/MethodHandle" ∧ yX5_layGoal.cls ≠ "java/lang/invoke/VarHandle" ∧ (parseMethodDescriptor yX5_layGoal.desc).map (fun d => d.parameters.length) = some 2 := by decide +kernel
theorem hd_yX5_layWay_RX5 : yX5_layWay.cls = RX5 ∧ yX5_layWay.cls ≠ "java/lang/invoke/MethodHandle" ∧ yX5_layWay.cls ≠ "java/lang/invoke/VarHandle" ∧ (parseMethodDescriptor yX5_layWay.desc).map (fun d => d.parameters.length) = some 3 := by decide +kernel
theorem dX5_lay_0 : decode cX5_lay 0 = .ok (.iconst 0, 1) := dk_3 (by decide +kernel)
theorem dX5_lay_1 : decode cX5_lay 1 = .ok (.istore_n 3, 1) := dk_62 (by decide +kernel)
theorem dX5_lay_2 : decode cX5_lay 2 = .ok (.iconst 0, 1) := dk_3 (by decide +kernel)
theorem dX5_lay_3 : decode cX5_lay 3 = .ok (.istore 4, 2) := dk_54 (by decide +kernel)
theorem dX5_lay_5 : decode cX5_lay 5 = .ok (.iload 4, 2) := dk_21 (by decide +kernel)
theorem dX5_lay_7 : decode cX5_lay 7 = .ok (.aload_n 0, 1) := dk_42 (by decide +kernel)
theorem dX5_lay_8 : decode cX5_lay 8 = .ok (.getfield 74, 3) := dk_180 (by decide +kernel)
theorem dX5_lay_11 : decode cX5_lay 11 = .ok (.getfield 112, 3) := dk_180 (by decide +kernel)
theorem dX5_lay_14 : decode cX5_lay 14 = .ok (.if_icmp .ge 74, 3) := dk_162 (by decide +kernel)
theorem dX5_lay_17 : decode cX5_lay 17 = .ok (.iload_n 1, 1) := dk_27 (by decide +kernel)
theorem dX5_lay_18 : decode cX5_lay 18 = .ok (.ifCond .ne 16, 3) := dk_154 (by decide +kernel)
theorem dX5_lay_21 : decode cX5_lay 21 = .ok (.aload_n 0, 1) := dk_42 (by decide +kernel)
theorem dX5_lay_22 : decode cX5_lay 22 = .ok (.getfield 74, 3) := dk_180 (by decide +kernel)
theorem dX5_lay_25 : decode cX5_lay 25 = .ok (.getfield 143, 3) := dk_180 (by decide +kernel)
theorem dX5_lay_28 : decode cX5_lay 28 = .ok (.iload 4, 2) := dk_21 (by decide +kernel)
theorem dX5_lay_30 : decode cX5_lay 30 = .ok (.baload, 1) := dk_51 (by decide +kernel)
theorem dX5_lay_31 : decode cX5_lay 31 = .ok (.ifCond .ne 7, 3) := dk_154 (by decide +kernel)
theorem dX5_lay_34 : decode cX5_lay 34 = .ok (.iconst 1, 1) := dk_4 (by decide +kernel)
theorem dX5_lay_35 : decode cX5_lay 35 = .ok (.goto 4, 3) := dk_167 (by decide +kernel)
theorem dX5_lay_38 : decode cX5_lay 38 = .ok (.iconst 0, 1) := dk_3 (by decide +kernel)
theorem dX5_lay_39 : decode cX5_lay 39 = .ok (.istore 5, 2) := dk_54 (by decide +kernel)
theorem dX5_lay_41 : decode cX5_lay 41 = .ok (.aload_n 0, 1) := dk_42 (by decide +kernel)
theorem dX5_lay_42 : decode cX5_lay 42 = .ok (.getfield 38, 3) := dk_180 (by decide +kernel)
theorem dX5_lay_45 : decode cX5_lay 45 = .ok (.iload 4, 2) := dk_21 (by decide +kernel)
theorem dX5_lay_47 : decode cX5_lay 47 = .ok (.iload 5, 2) := dk_21 (by decide +kernel)
theorem dX5_lay_49 : decode cX5_lay 49 = .ok (.ifCond .eq 10, 3) := dk_153 (by decide +kernel)
theorem dX5_lay_52 : decode cX5_lay 52 = .ok (.iinc 3 1, 3) := dk_132 (by decide +kernel)
theorem dX5_lay_55 : decode cX5_lay 55 = .ok (.iload_n 3, 1) := dk_29 (by decide +kernel)
theorem dX5_lay_56 : decode cX5_lay 56 = .ok (.goto 4, 3) := dk_167 (by decide +kernel)
theorem dX5_lay_59 : decode cX5_lay 59 = .ok (.iconst (-1), 1) := dk_2 (by decide +kernel)
theorem dX5_lay_60 : decode cX5_lay 60 = .ok (.iastore, 1) := dk_79 (by decide +kernel)
theorem dX5_lay_61 : decode cX5_lay 61 = .ok (.iload_n 1, 1) := dk_27 (by decide +kernel)
theorem dX5_lay_62 : decode cX5_lay 62 = .ok (.ifCond .eq 20, 3) := dk_153 (by decide +kernel)
theorem dX5_lay_65 : decode cX5_lay 65 = .ok (.aload_n 0, 1) := dk_42 (by decide +kernel)
theorem dX5_lay_66 : decode cX5_lay 66 = .ok (.getfield 35, 3) := dk_180 (by decide +kernel)
theorem dX5_lay_69 : decode cX5_lay 69 = .ok (.iload 4, 2) := dk_21 (by decide +kernel)
theorem dX5_lay_71 : decode cX5_lay 71 = .ok (.aload_n 0, 1) := dk_42 (by decide +kernel)
theorem dX5_lay_72 : decode cX5_lay 72 = .ok (.getfield 74, 3) := dk_180 (by decide +kernel)
theorem dX5_lay_75 : decode cX5_lay 75 = .ok (.getfield 150, 3) := dk_180 (by decide +kernel)
theorem dX5_lay_78 : decode cX5_lay 78 = .ok (.iload 4, 2) := dk_21 (by decide +kernel)
theorem dX5_lay_80 : decode cX5_lay 80 = .ok (.iaload, 1) := dk_46 (by decide +kernel)
theorem dX5_lay_81 : decode cX5_lay 81 = .ok (.iastore, 1) := dk_79 (by decide +kernel)
theorem dX5_lay_82 : decode cX5_lay 82 = .ok (.iinc 4 1, 3) := dk_132 (by decide +kernel)
theorem dX5_lay_85 : decode cX5_lay 85 = .ok (.goto (-80), 3) := dk_167 (by decide +kernel)
theorem dX5_lay_88 : decode cX5_lay 88 = .ok (.iload_n 1, 1) := dk_27 (by decide +kernel)
theorem dX5_lay_89 : decode cX5_lay 89 = .ok (.ifCond .eq 13, 3) := dk_153 (by decide +kernel)
theorem dX5_lay_92 : decode cX5_lay 92 = .ok (.aload_n 0, 1) := dk_42 (by decide +kernel)
theorem dX5_lay_93 : decode cX5_lay 93 = .ok (.getfield 74, 3) := dk_180 (by decide +kernel)
theorem dX5_lay_96 : decode cX5_lay 96 = .ok (.getfield 166, 3) := dk_180 (by decide +kernel)
theorem dX5_lay_99 : decode cX5_lay 99 = .ok (.goto 10, 3) := dk_167 (by decide +kernel)
theorem dX5_lay_102 : decode cX5_lay 102 = .ok (.aload_n 0, 1) := dk_42 (by decide +kernel)
theorem dX5_lay_103 : decode cX5_lay 103 = .ok (.getfield 74, 3) := dk_180 (by decide +kernel)
theorem dX5_lay_106 : decode cX5_lay 106 = .ok (.getfield 131, 3) := dk_180 (by decide +kernel)
theorem dX5_lay_109 : decode cX5_lay 109 = .ok (.istore 4, 2) := dk_54 (by decide +kernel)
theorem dX5_lay_111 : decode cX5_lay 111 = .ok (.aload_n 0, 1) := dk_42 (by decide +kernel)
theorem dX5_lay_112 : decode cX5_lay 112 = .ok (.getfield 12, 3) := dk_180 (by decide +kernel)
theorem dX5_lay_115 : decode cX5_lay 115 = .ok (.iload 4, 2) := dk_21 (by decide +kernel)
theorem dX5_lay_117 : decode cX5_lay 117 = .ok (.iload_n 3, 1) := dk_29 (by decide +kernel)
theorem dX5_lay_118 : decode cX5_lay 118 = .ok (.iadd, 1) := dk_96 (by decide +kernel)
theorem dX5_lay_119 : decode cX5_lay 119 = .ok (.iload_n 2, 1) := dk_28 (by decide +kernel)
theorem dX5_lay_120 : decode cX5_lay 120 = .ok (.iload_n 3, 1) := dk_29 (by decide +kernel)
theorem dX5_lay_121 : decode cX5_lay 121 = .ok (.invokevirtual 169, 3) := dk_182 (by decide +kernel)
theorem dX5_lay_124 : decode cX5_lay 124 = .ok (.iconst 0, 1) := dk_3 (by decide +kernel)
theorem dX5_lay_125 : decode cX5_lay 125 = .ok (.istore 5, 2) := dk_54 (by decide +kernel)
theorem dX5_lay_127 : decode cX5_lay 127 = .ok (.iconst 0, 1) := dk_3 (by decide +kernel)
theorem dX5_lay_128 : decode cX5_lay 128 = .ok (.istore 6, 2) := dk_54 (by decide +kernel)
theorem dX5_lay_130 : decode cX5_lay 130 = .ok (.iload 6, 2) := dk_21 (by decide +kernel)
theorem dX5_lay_132 : decode cX5_lay 132 = .ok (.aload_n 0, 1) := dk_42 (by decide +kernel)
theorem dX5_lay_133 : decode cX5_lay 133 = .ok (.getfield 74, 3) := dk_180 (by decide +kernel)
theorem dX5_lay_136 : decode cX5_lay 136 = .ok (.getfield 131, 3) := dk_180 (by decide +kernel)
theorem dX5_lay_139 : decode cX5_lay 139 = .ok (.if_icmp .ge 58, 3) := dk_162 (by decide +kernel)
theorem dX5_lay_142 : decode cX5_lay 142 = .ok (.iload_n 1, 1) := dk_27 (by decide +kernel)
theorem dX5_lay_143 : decode cX5_lay 143 = .ok (.ifCond .eq 17, 3) := dk_153 (by decide +kernel)
theorem dX5_lay_146 : decode cX5_lay 146 = .ok (.aload_n 0, 1) := dk_42 (by decide +kernel)
theorem dX5_lay_147 : decode cX5_lay 147 = .ok (.getfield 74, 3) := dk_180 (by decide +kernel)
theorem dX5_lay_150 : decode cX5_lay 150 = .ok (.getfield 134, 3) := dk_180 (by decide +kernel)
theorem dX5_lay_153 : decode cX5_lay 153 = .ok (.iload 6, 2) := dk_21 (by decide +kernel)
theorem dX5_lay_155 : decode cX5_lay 155 = .ok (.iaload, 1) := dk_46 (by decide +kernel)
theorem dX5_lay_156 : decode cX5_lay 156 = .ok (.iconst 1, 1) := dk_4 (by decide +kernel)
theorem dX5_lay_157 : decode cX5_lay 157 = .ok (.if_icmp .ne 34, 3) := dk_160 (by decide +kernel)
theorem dX5_lay_160 : decode cX5_lay 160 = .ok (.aload_n 0, 1) := dk_42 (by decide +kernel)
theorem dX5_lay_161 : decode cX5_lay 161 = .ok (.iload 5, 2) := dk_21 (by decide +kernel)
theorem dX5_lay_163 : decode cX5_lay 163 = .ok (.iload 6, 2) := dk_21 (by decide +kernel)
theorem dX5_lay_165 : decode cX5_lay 165 = .ok (.iload_n 1, 1) := dk_27 (by decide +kernel)
theorem dX5_lay_166 : decode cX5_lay 166 = .ok (.ifCond .eq 7, 3) := dk_153 (by decide +kernel)
theorem dX5_lay_169 : decode cX5_lay 169 = .ok (.iconst 0, 1) := dk_3 (by decide +kernel)
theorem dX5_lay_170 : decode cX5_lay 170 = .ok (.goto 10, 3) := dk_167 (by decide +kernel)
theorem dX5_lay_173 : decode cX5_lay 173 = .ok (.aload_n 0, 1) := dk_42 (by decide +kernel)
theorem dX5_lay_174 : decode cX5_lay 174 = .ok (.getfield 41, 3) := dk_180 (by decide +kernel)
theorem dX5_lay_177 : decode cX5_lay 177 = .ok (.iload 6, 2) := dk_21 (by decide +kernel)
theorem dX5_lay_179 : decode cX5_lay 179 = .ok (.iaload, 1) := dk_46 (by decide +kernel)
theorem dX5_lay_180 : decode cX5_lay 180 = .ok (.invokevirtual 173, 3) := dk_182 (by decide +kernel)
theorem dX5_lay_183 : decode cX5_lay 183 = .ok (.ifCond .ne 5, 3) := dk_154 (by decide +kernel)
theorem dX5_lay_186 : decode cX5_lay 186 = .ok (.iconst 0, 1) := dk_3 (by decide +kernel)
theorem dX5_lay_187 : decode cX5_lay 187 = .ok (.ireturn, 1) := dk_172 (by decide +kernel)
theorem dX5_lay_188 : decode cX5_lay 188 = .ok (.iinc 5 1, 3) := dk_132 (by decide +kernel)
theorem dX5_lay_191 : decode cX5_lay 191 = .ok (.iinc 6 1, 3) := dk_132 (by decide +kernel)
theorem dX5_lay_194 : decode cX5_lay 194 = .ok (.goto (-64), 3) := dk_167 (by decide +kernel)
theorem dX5_lay_197 : decode cX5_lay 197 = .ok (.iconst 0, 1) := dk_3 (by decide +kernel)
theorem dX5_lay_198 : decode cX5_lay 198 = .ok (.istore 6, 2) := dk_54 (by decide +kernel)
theorem dX5_lay_200 : decode cX5_lay 200 = .ok (.iload 6, 2) := dk_21 (by decide +kernel)
theorem dX5_lay_202 : decode cX5_lay 202 = .ok (.aload_n 0, 1) := dk_42 (by decide +kernel)
theorem dX5_lay_203 : decode cX5_lay 203 = .ok (.getfield 74, 3) := dk_180 (by decide +kernel)
theorem dX5_lay_206 : decode cX5_lay 206 = .ok (.getfield 112, 3) := dk_180 (by decide +kernel)
theorem dX5_lay_209 : decode cX5_lay 209 = .ok (.if_icmp .ge 80, 3) := dk_162 (by decide +kernel)
theorem dX5_lay_212 : decode cX5_lay 212 = .ok (.aload_n 0, 1) := dk_42 (by decide +kernel)
theorem dX5_lay_213 : decode cX5_lay 213 = .ok (.getfield 38, 3) := dk_180 (by decide +kernel)
theorem dX5_lay_216 : decode cX5_lay 216 = .ok (.iload 6, 2) := dk_21 (by decide +kernel)
theorem dX5_lay_218 : decode cX5_lay 218 = .ok (.iaload, 1) := dk_46 (by decide +kernel)
theorem dX5_lay_219 : decode cX5_lay 219 = .ok (.iconst (-1), 1) := dk_2 (by decide +kernel)
theorem dX5_lay_220 : decode cX5_lay 220 = .ok (.if_icmp .eq 63, 3) := dk_159 (by decide +kernel)
theorem dX5_lay_223 : decode cX5_lay 223 = .ok (.aload_n 0, 1) := dk_42 (by decide +kernel)
theorem dX5_lay_224 : decode cX5_lay 224 = .ok (.getfield 12, 3) := dk_180 (by decide +kernel)
theorem dX5_lay_227 : decode cX5_lay 227 = .ok (.iload 5, 2) := dk_21 (by decide +kernel)
theorem dX5_lay_229 : decode cX5_lay 229 = .ok (.iconst 0, 1) := dk_3 (by decide +kernel)
theorem dX5_lay_230 : decode cX5_lay 230 = .ok (.invokevirtual 177, 3) := dk_182 (by decide +kernel)
theorem dX5_lay_233 : decode cX5_lay 233 = .ok (.aload_n 0, 1) := dk_42 (by decide +kernel)
theorem dX5_lay_234 : decode cX5_lay 234 = .ok (.getfield 74, 3) := dk_180 (by decide +kernel)
theorem dX5_lay_237 : decode cX5_lay 237 = .ok (.getfield 181, 3) := dk_180 (by decide +kernel)
theorem dX5_lay_240 : decode cX5_lay 240 = .ok (.iload 6, 2) := dk_21 (by decide +kernel)
theorem dX5_lay_242 : decode cX5_lay 242 = .ok (.iaload, 1) := dk_46 (by decide +kernel)
theorem dX5_lay_243 : decode cX5_lay 243 = .ok (.aload_n 0, 1) := dk_42 (by decide +kernel)
theorem dX5_lay_244 : decode cX5_lay 244 = .ok (.getfield 74, 3) := dk_180 (by decide +kernel)
theorem dX5_lay_247 : decode cX5_lay 247 = .ok (.getfield 150, 3) := dk_180 (by decide +kernel)
theorem dX5_lay_250 : decode cX5_lay 250 = .ok (.iload 6, 2) := dk_21 (by decide +kernel)
theorem dX5_lay_252 : decode cX5_lay 252 = .ok (.iaload, 1) := dk_46 (by decide +kernel)
theorem dX5_lay_253 : decode cX5_lay 253 = .ok (.isub, 1) := dk_100 (by decide +kernel)
theorem dX5_lay_254 : decode cX5_lay 254 = .ok (.i2l, 1) := dk_133 (by decide +kernel)
theorem dX5_lay_255 : decode cX5_lay 255 = .ok (.invokevirtual 184, 3) := dk_182 (by decide +kernel)
theorem dX5_lay_258 : decode cX5_lay 258 = .ok (.aload_n 0, 1) := dk_42 (by decide +kernel)
theorem dX5_lay_259 : decode cX5_lay 259 = .ok (.getfield 12, 3) := dk_180 (by decide +kernel)
theorem dX5_lay_262 : decode cX5_lay 262 = .ok (.iload 5, 2) := dk_21 (by decide +kernel)
theorem dX5_lay_264 : decode cX5_lay 264 = .ok (.aload_n 0, 1) := dk_42 (by decide +kernel)
theorem dX5_lay_265 : decode cX5_lay 265 = .ok (.getfield 38, 3) := dk_180 (by decide +kernel)
theorem dX5_lay_268 : decode cX5_lay 268 = .ok (.iload 6, 2) := dk_21 (by decide +kernel)
theorem dX5_lay_270 : decode cX5_lay 270 = .ok (.iaload, 1) := dk_46 (by decide +kernel)
theorem dX5_lay_271 : decode cX5_lay 271 = .ok (.invokevirtual 177, 3) := dk_182 (by decide +kernel)
theorem dX5_lay_274 : decode cX5_lay 274 = .ok (.ldc2_w 188, 3) := dk_20 (by decide +kernel)
theorem dX5_lay_277 : decode cX5_lay 277 = .ok (.invokevirtual 184, 3) := dk_182 (by decide +kernel)
theorem dX5_lay_280 : decode cX5_lay 280 = .ok (.iinc 5 1, 3) := dk_132 (by decide +kernel)
theorem dX5_lay_283 : decode cX5_lay 283 = .ok (.iinc 6 1, 3) := dk_132 (by decide +kernel)
theorem dX5_lay_286 : decode cX5_lay 286 = .ok (.goto (-86), 3) := dk_167 (by decide +kernel)
theorem dX5_lay_289 : decode cX5_lay 289 = .ok (.iconst 0, 1) := dk_3 (by decide +kernel)
theorem dX5_lay_290 : decode cX5_lay 290 = .ok (.istore 6, 2) := dk_54 (by decide +kernel)
theorem dX5_lay_292 : decode cX5_lay 292 = .ok (.iload 6, 2) := dk_21 (by decide +kernel)
theorem dX5_lay_294 : decode cX5_lay 294 = .ok (.iload_n 2, 1) := dk_28 (by decide +kernel)
theorem dX5_lay_295 : decode cX5_lay 295 = .ok (.if_icmp .ge 20, 3) := dk_162 (by decide +kernel)
theorem dX5_lay_298 : decode cX5_lay 298 = .ok (.aload_n 0, 1) := dk_42 (by decide +kernel)
theorem dX5_lay_299 : decode cX5_lay 299 = .ok (.iload 5, 2) := dk_21 (by decide +kernel)
theorem dX5_lay_301 : decode cX5_lay 301 = .ok (.iload 6, 2) := dk_21 (by decide +kernel)
theorem dX5_lay_303 : decode cX5_lay 303 = .ok (.iadd, 1) := dk_96 (by decide +kernel)
theorem dX5_lay_304 : decode cX5_lay 304 = .ok (.iload 6, 2) := dk_21 (by decide +kernel)
theorem dX5_lay_306 : decode cX5_lay 306 = .ok (.invokevirtual 190, 3) := dk_182 (by decide +kernel)
theorem dX5_lay_309 : decode cX5_lay 309 = .ok (.iinc 6 1, 3) := dk_132 (by decide +kernel)
theorem dX5_lay_312 : decode cX5_lay 312 = .ok (.goto (-20), 3) := dk_167 (by decide +kernel)
theorem dX5_lay_315 : decode cX5_lay 315 = .ok (.iconst 1, 1) := dk_4 (by decide +kernel)
theorem dX5_lay_316 : decode cX5_lay 316 = .ok (.ireturn, 1) := dk_172 (by decide +kernel)
def wsMX5_lay : List Cond := .code yX5_lay cX5_lay 7 (some .boolean) :: ([.fieldLink RX5 74 "OptimaWorks$Solver" "model" "LOptimaWorks$Model;", .fieldLink RX5 112 "OptimaWorks$Model" "variables" "I", .fieldLink RX5 38 "OptimaWorks$Solver" "column" "[I", .fieldLink RX5 35 "OptimaWorks$Solver" "start" "[I", .fieldLink RX5 150 "OptimaWorks$Model" "from" "[I", .fieldLink RX5 143 "OptimaWorks$Model" "whole" "[Z", .fieldLink RX5 131 "OptimaWorks$Model" "rows" "I", .fieldLink RX5 166 "OptimaWorks$Model" "plainRows" "I", .fieldLink RX5 12 "OptimaWorks$Solver" "tableau" "LOptimaWorks$Tableau;", .fieldLink RX5 181 "OptimaWorks$Model" "to" "[I", .constantLong RX5 188 (-1), .fieldLink RX5 41 "OptimaWorks$Solver" "chosen" "[I", .fieldLink RX5 134 "OptimaWorks$Model" "ways" "[I"] ++ wsX10 ++ wsX50 ++ (wsV RX5 169 RX6 yX6_begin wsMX6_begin) ++ (wsV RX5 177 RX6 yX6_cellAt wsMX6_cellAt) ++ (wsV RX5 184 RX8 yX8_setLong wsMX8_setLong) ++ (wsV RX5 190 RX5 yX5_layGoal wsMX5_layGoal) ++ (wsV RX5 173 RX5 yX5_layWay wsMX5_layWay))
theorem iwsMX5_lay_in1 : ∀ w ∈ wsX10, w ∈ wsMX5_lay := fun _ h => List.mem_cons_of_mem _ (List.mem_append_left _ (List.mem_append_left _ (List.mem_append_left _ (List.mem_append_left _ (List.mem_append_left _ (List.mem_append_left _ (List.mem_append_right _ h)))))))
theorem iwsMX5_lay_in5 : ∀ w ∈ wsX50, w ∈ wsMX5_lay := fun _ h => List.mem_cons_of_mem _ (List.mem_append_left _ (List.mem_append_left _ (List.mem_append_left _ (List.mem_append_left _ (List.mem_append_left _ (List.mem_append_right _ h))))))
theorem gwsMX5_lay_0 : GoodIn wsMX5_lay (wsV RX5 169 RX6 yX6_begin wsMX6_begin) := goodIn_sub (fun _ h => List.mem_cons_of_mem _ (List.mem_append_left _ (List.mem_append_left _ (List.mem_append_left _ (List.mem_append_left _ (List.mem_append_right _ h)))))) (gdV (by decide +kernel) gdwsMX6_begin)
theorem gwsMX5_lay_1 : GoodIn wsMX5_lay (wsV RX5 177 RX6 yX6_cellAt wsMX6_cellAt) := goodIn_sub (fun _ h => List.mem_cons_of_mem _ (List.mem_append_left _ (List.mem_append_left _ (List.mem_append_left _ (List.mem_append_right _ h))))) (gdV (by decide +kernel) gdwsMX6_cellAt)
theorem gwsMX5_lay_2 : GoodIn wsMX5_lay (wsV RX5 184 RX8 yX8_setLong wsMX8_setLong) := goodIn_sub (fun _ h => List.mem_cons_of_mem _ (List.mem_append_left _ (List.mem_append_left _ (List.mem_append_right _ h)))) (gdV (by decide +kernel) gdwsMX8_setLong)
theorem gwsMX5_lay_3 : GoodIn wsMX5_lay (wsV RX5 190 RX5 yX5_layGoal wsMX5_layGoal) := goodIn_sub (fun _ h => List.mem_cons_of_mem _ (List.mem_append_left _ (List.mem_append_right _ h))) (gdV (by decide +kernel) gdwsMX5_layGoal)
theorem gwsMX5_lay_4 : GoodIn wsMX5_lay (wsV RX5 173 RX5 yX5_layWay wsMX5_layWay) := goodIn_sub (fun _ h => List.mem_cons_of_mem _ (List.mem_append_right _ h)) (gdV (by decide +kernel) gdwsMX5_layWay)
theorem gdwsMX5_lay : wsMX5_lay.all goodWord = true := gdC rfl (gdA (gdA (gdA (gdA (gdA (gdA (gdA (by decide +kernel : ([.fieldLink RX5 74 "OptimaWorks$Solver" "model" "LOptimaWorks$Model;", .fieldLink RX5 112 "OptimaWorks$Model" "variables" "I", .fieldLink RX5 38 "OptimaWorks$Solver" "column" "[I", .fieldLink RX5 35 "OptimaWorks$Solver" "start" "[I", .fieldLink RX5 150 "OptimaWorks$Model" "from" "[I", .fieldLink RX5 143 "OptimaWorks$Model" "whole" "[Z", .fieldLink RX5 131 "OptimaWorks$Model" "rows" "I", .fieldLink RX5 166 "OptimaWorks$Model" "plainRows" "I", .fieldLink RX5 12 "OptimaWorks$Solver" "tableau" "LOptimaWorks$Tableau;", .fieldLink RX5 181 "OptimaWorks$Model" "to" "[I", .constantLong RX5 188 (-1), .fieldLink RX5 41 "OptimaWorks$Solver" "chosen" "[I", .fieldLink RX5 134 "OptimaWorks$Model" "ways" "[I"] : List Cond).all goodWord = true) gdwsX10) gdwsX50) (gdV (by decide +kernel) gdwsMX6_begin)) (gdV (by decide +kernel) gdwsMX6_cellAt)) (gdV (by decide +kernel) gdwsMX8_setLong)) (gdV (by decide +kernel) gdwsMX5_layGoal)) (gdV (by decide +kernel) gdwsMX5_layWay))
theorem hm_m_X5_lay_0 : (.fieldLink RX5 74 "OptimaWorks$Solver" "model" "LOptimaWorks$Model;" : Cond) ∈ wsMX5_lay := by decide +kernel
theorem hm_m_X5_lay_1 : (.fieldLink RX5 112 "OptimaWorks$Model" "variables" "I" : Cond) ∈ wsMX5_lay := by decide +kernel
theorem hm_m_X5_lay_2 : (.fieldLink RX5 131 "OptimaWorks$Model" "rows" "I" : Cond) ∈ wsMX5_lay := by decide +kernel
theorem hm_m_X5_lay_3 : (.fieldLink RX5 12 "OptimaWorks$Solver" "tableau" "LOptimaWorks$Tableau;" : Cond) ∈ wsMX5_lay := by decide +kernel
theorem hm_m_X5_lay_4 : (.fieldLink RX5 38 "OptimaWorks$Solver" "column" "[I" : Cond) ∈ wsMX5_lay := by decide +kernel
theorem hm_m_X5_lay_5 : (.fieldLink RX5 150 "OptimaWorks$Model" "from" "[I" : Cond) ∈ wsMX5_lay := by decide +kernel
theorem hm_m_X5_lay_6 : (.fieldLink RX5 41 "OptimaWorks$Solver" "chosen" "[I" : Cond) ∈ wsMX5_lay := by decide +kernel
theorem hm_m_X5_lay_7 : (.fieldLink RX5 35 "OptimaWorks$Solver" "start" "[I" : Cond) ∈ wsMX5_lay := by decide +kernel
set_option maxHeartbeats 4000000 in
set_option maxRecDepth 100000 in
/-- a case is laid out -/
theorem m_X5_lay (l : Launch) (dC : Nat → ClassId) (dI : Nat → Nat → Nat) (hO : Nat → Nat) (aO : Nat → Nat) (kO : Nat → ClassId) (hM : Nat → Nat) (hQ : Nat → Nat) (hw : Nat → Nat) (iO_answered : Int32) (iO_searched : Int32) (iO_searchedRelaxed : Int32) (iO_counted : Int32) (fO_countedCase : Nat → Int32) (gO_goalNumber : Nat → Int64) (gO_goalScale : Nat → Int64) (fO_start : Nat → Int32) (fO_column : Nat → Int32) (fO_chosen : Nat → Int32) (aM : Nat → Nat) (kM : Nat → ClassId) (iM_stands : Int32) (iM_variables : Int32) (iM_rows : Int32) (iM_goals : Int32) (iM_differents : Int32) (iM_cases : Int32) (fM_from : Nat → Int32) (fM_to : Nat → Int32) (fM_whole : Nat → Int32) (fM_ways : Nat → Int32) (iM_plainRows : Int32) (fM_plainRow : Nat → Int32) (fM_kept : Nat → Int32) (fM_goalOver : Nat → Int32) (fM_goalUnder : Nat → Int32) (fM_goalMax : Nat → Int32) (fM_different : Nat → Int32) (aQ : Nat → Nat) (kQ : Nat → ClassId) (fQ_inside : Nat → Int32) (fQ_outside : Nat → Int32) (fQ_shut : Nat → Int32) (iQ_rows : Int32) (iQ_allRows : Int32) (iQ_columns : Int32) (nW : Nat) (lw : Nat → Nat) (kw : ClassId) (wl : Nat → Int32) (wb : Nat → Int32) (wG : Nat → Nat → Int64) (p1 : Int32) (p2 : Int32) (b_iO_answered : 0 ≤ iO_answered.toInt ∧ iO_answered.toInt ≤ 1) (b_iO_searched : 0 ≤ iO_searched.toInt ∧ iO_searched.toInt ≤ 1) (b_iO_searchedRelaxed : 0 ≤ iO_searchedRelaxed.toInt ∧ iO_searchedRelaxed.toInt ≤ 1) (b_iO_counted : (-1) ≤ iO_counted.toInt ∧ iO_counted.toInt ≤ 64) (b_fO_countedCase : ∀ q : Nat, 0 ≤ (fO_countedCase q).toInt ∧ (fO_countedCase q).toInt ≤ 200000) (b_fO_column : ∀ q : Nat, (-1) ≤ (fO_column q).toInt ∧ (fO_column q).toInt ≤ 8) (b_fO_chosen : ∀ q : Nat, 0 ≤ (fO_chosen q).toInt ∧ (fO_chosen q).toInt ≤ 2) (b_iM_stands : 0 ≤ iM_stands.toInt ∧ iM_stands.toInt ≤ 1) (b_iM_variables : 0 ≤ iM_variables.toInt ∧ iM_variables.toInt ≤ 8) (b_iM_rows : 0 ≤ iM_rows.toInt ∧ iM_rows.toInt ≤ 12) (b_iM_goals : 0 ≤ iM_goals.toInt ∧ iM_goals.toInt ≤ 3) (b_iM_differents : 0 ≤ iM_differents.toInt ∧ iM_differents.toInt ≤ 8) (b_iM_cases : 0 ≤ iM_cases.toInt ∧ iM_cases.toInt ≤ 200000) (b_fM_ways : ∀ q : Nat, 0 ≤ (fM_ways q).toInt ∧ (fM_ways q).toInt ≤ 3) (b_iM_plainRows : 0 ≤ iM_plainRows.toInt ∧ iM_plainRows.toInt ≤ 12) (b_fM_plainRow : ∀ q : Nat, 0 ≤ (fM_plainRow q).toInt ∧ (fM_plainRow q).toInt ≤ 11) (b_pr : iM_plainRows.toInt ≤ iM_rows.toInt) (b_iQ_rows : 0 ≤ iQ_rows.toInt ∧ iQ_rows.toInt ≤ 40) (b_iQ_allRows : 0 ≤ iQ_allRows.toInt ∧ iQ_allRows.toInt ≤ 40) (b_iQ_columns : 0 ≤ iQ_columns.toInt ∧ iQ_columns.toInt ≤ 40) (b_tb : TbO iQ_rows iQ_allRows iQ_columns) (b_wl : ∀ q : Nat, 0 ≤ (wl q).toInt ∧ (wl q).toInt ≤ 14) (b_wb : ∀ q : Nat, 0 ≤ (wb q).toInt ∧ (wb q).toInt ≤ 1) (b_p2 : 0 ≤ p2.toInt ∧ p2.toInt ≤ 3) (hnW : 432 ≤ nW) (sz : Nat) : Met l yX5_lay wsMX5_lay ({ frames := 5, cells := 0, slots := 0, locals := 111 }) (va_Pc [.ref (hO 0), .int p1, .int p2] (fun U => U.heap.size = sz ∧ va_P (dC, dI) vwCl (WO hO aO kO hM hQ hw iO_answered iO_searched iO_searchedRelaxed iO_counted fO_countedCase gO_goalNumber gO_goalScale fO_start fO_column fO_chosen ++ (WM hM aM kM iM_stands iM_variables iM_rows iM_goals iM_differents iM_cases fM_from fM_to fM_whole fM_ways iM_plainRows fM_plainRow fM_kept fM_goalOver fM_goalUnder fM_goalMax fM_different ++ (WQ hQ aQ kQ hw fQ_inside fQ_outside fQ_shut iQ_rows iQ_allRows iQ_columns ++ (WW nW hw lw kw wl wb wG)))) U.heap ∧ va_K (dC, dI) vwCl (tO kO ++ (tM kM ++ (tQ kQ ++ (tW kw)))) U ∧ va_D (fun _ => True) (WO hO aO kO hM hQ hw iO_answered iO_searched iO_searchedRelaxed iO_counted fO_countedCase gO_goalNumber gO_goalScale fO_start fO_column fO_chosen ++ (WM hM aM kM iM_stands iM_variables iM_rows iM_goals iM_differents iM_cases fM_from fM_to fM_whole fM_ways iM_plainRows fM_plainRow fM_kept fM_goalOver fM_goalUnder fM_goalMax fM_different ++ (WQ hQ aQ kQ hw fQ_inside fQ_outside fQ_shut iQ_rows iQ_allRows iQ_columns ++ (WW nW hw lw kw wl wb wG)))))) (va_Qi (fun (r : Int32) (u : (Nat → Int32) × (Nat → Int32) × (Nat → Int32) × (Nat → Int32) × (Nat → Int32) × (Int32) × (Int32) × (Int32) × (Nat → Int32) × (Nat → Int32) × (Nat → Nat → Int64)) => (∀ q : Nat, (-1) ≤ ((u.2.1) q).toInt ∧ ((u.2.1) q).toInt ≤ 8) ∧ (0 ≤ (u.2.2.2.2.2.1).toInt ∧ (u.2.2.2.2.2.1).toInt ≤ 40) ∧ (0 ≤ (u.2.2.2.2.2.2.1).toInt ∧ (u.2.2.2.2.2.2.1).toInt ≤ 40) ∧ (0 ≤ (u.2.2.2.2.2.2.2.1).toInt ∧ (u.2.2.2.2.2.2.2.1).toInt ≤ 40) ∧ (∀ q : Nat, 0 ≤ ((u.2.2.2.2.2.2.2.2.1) q).toInt ∧ ((u.2.2.2.2.2.2.2.2.1) q).toInt ≤ 14) ∧ (∀ q : Nat, 0 ≤ ((u.2.2.2.2.2.2.2.2.2.1) q).toInt ∧ ((u.2.2.2.2.2.2.2.2.2.1) q).toInt ≤ 1) ∧ (TbO (u.2.2.2.2.2.1) (u.2.2.2.2.2.2.1) (u.2.2.2.2.2.2.2.1)) ∧ (0 ≤ r.toInt ∧ r.toInt ≤ 1) ∧ ((u.2.2.2.2.2.2.2.1).toInt ≤ 8) ∧ ((u.2.2.2.2.2.1).toInt ≤ 20)) (fun (u : (Nat → Int32) × (Nat → Int32) × (Nat → Int32) × (Nat → Int32) × (Nat → Int32) × (Int32) × (Int32) × (Int32) × (Nat → Int32) × (Nat → Int32) × (Nat → Nat → Int64)) t => va_P (dC, dI) vwCl (WO hO aO kO hM hQ hw iO_answered iO_searched iO_searchedRelaxed iO_counted fO_countedCase gO_goalNumber gO_goalScale (u.1) (u.2.1) fO_chosen ++ (WM hM aM kM iM_stands iM_variables iM_rows iM_goals iM_differents iM_cases fM_from fM_to fM_whole fM_ways iM_plainRows fM_plainRow fM_kept fM_goalOver fM_goalUnder fM_goalMax fM_different ++ (WQ hQ aQ kQ hw (u.2.2.1) (u.2.2.2.1) (u.2.2.2.2.1) (u.2.2.2.2.2.1) (u.2.2.2.2.2.2.1) (u.2.2.2.2.2.2.2.1) ++ (WW nW hw lw kw (u.2.2.2.2.2.2.2.2.1) (u.2.2.2.2.2.2.2.2.2.1) (u.2.2.2.2.2.2.2.2.2.2))))) t.heap ∧ va_D (va_A (WO hO aO kO hM hQ hw iO_answered iO_searched iO_searchedRelaxed iO_counted fO_countedCase gO_goalNumber gO_goalScale fO_start fO_column fO_chosen ++ (WM hM aM kM iM_stands iM_variables iM_rows iM_goals iM_differents iM_cases fM_from fM_to fM_whole fM_ways iM_plainRows fM_plainRow fM_kept fM_goalOver fM_goalUnder fM_goalMax fM_different ++ (WQ hQ aQ kQ hw fQ_inside fQ_outside fQ_shut iQ_rows iQ_allRows iQ_columns ++ (WW nW hw lw kw wl wb wG)))) sz) (WO hO aO kO hM hQ hw iO_answered iO_searched iO_searchedRelaxed iO_counted fO_countedCase gO_goalNumber gO_goalScale (u.1) (u.2.1) fO_chosen ++ (WM hM aM kM iM_stands iM_variables iM_rows iM_goals iM_differents iM_cases fM_from fM_to fM_whole fM_ways iM_plainRows fM_plainRow fM_kept fM_goalOver fM_goalUnder fM_goalMax fM_different ++ (WQ hQ aQ kQ hw (u.2.2.1) (u.2.2.2.1) (u.2.2.2.2.1) (u.2.2.2.2.2.1) (u.2.2.2.2.2.2.1) (u.2.2.2.2.2.2.2.1) ++ (WW nW hw lw kw (u.2.2.2.2.2.2.2.2.1) (u.2.2.2.2.2.2.2.2.2.1) (u.2.2.2.2.2.2.2.2.2.2)))))) (va_A (WO hO aO kO hM hQ hw iO_answered iO_searched iO_searchedRelaxed iO_counted fO_countedCase gO_goalNumber gO_goalScale fO_start fO_column fO_chosen ++ (WM hM aM kM iM_stands iM_variables iM_rows iM_goals iM_differents iM_cases fM_from fM_to fM_whole fM_ways iM_plainRows fM_plainRow fM_kept fM_goalOver fM_goalUnder fM_goalMax fM_different ++ (WQ hQ aQ kQ hw fQ_inside fQ_outside fQ_shut iQ_rows iQ_allRows iQ_columns ++ (WW nW hw lw kw wl wb wG)))) sz)) 0 0 (va_A (WO hO aO kO hM hQ hw iO_answered iO_searched iO_searchedRelaxed iO_counted fO_countedCase gO_goalNumber gO_goalScale fO_start fO_column fO_chosen ++ (WM hM aM kM iM_stands iM_variables iM_rows iM_goals iM_differents iM_cases fM_from fM_to fM_whole fM_ways iM_plainRows fM_plainRow fM_kept fM_goalOver fM_goalUnder fM_goalMax fM_different ++ (WQ hQ aQ kQ hw fQ_inside fQ_outside fQ_shut iQ_rows iQ_allRows iQ_columns ++ (WW nW hw lw kw wl wb wG)))) sz) := by
  refine Met.ofW (cc := cX5_lay) (maxL := 7) (ret := (some .boolean)) (by decide) rfl ?_
  intro p e s m args below meth c s₁ B hml hv
  obtain ⟨rfl, hsz, hP, hK, hD0⟩ := hv
  have hx := B.exec
  have hb := B.bytes
  have hr := B.returns
  have hts := atoms_spec (ws := wsMX5_lay) B.pre
  have hown : s.vm.findClass RX5 = some m.cls := findClass_of_methodNamed B.named
  have hlocks := B.notSynchronized
  subst hsz
  have hD := hD0.self (sz := s.heap.size)
  generalize hAe : va_A (WO hO aO kO hM hQ hw iO_answered iO_searched iO_searchedRelaxed iO_counted fO_countedCase gO_goalNumber gO_goalScale fO_start fO_column fO_chosen ++ (WM hM aM kM iM_stands iM_variables iM_rows iM_goals iM_differents iM_cases fM_from fM_to fM_whole fM_ways iM_plainRows fM_plainRow fM_kept fM_goalOver fM_goalUnder fM_goalMax fM_different ++ (WQ hQ aQ kQ hw fQ_inside fQ_outside fQ_shut iQ_rows iQ_allRows iQ_columns ++ (WW nW hw lw kw wl wb wG)))) s.heap.size = A at hD ⊢
  have hA : ∀ q : Nat, s.heap.size ≤ q → A q := fun q h => by rw [← hAe]; exact Or.inr h
  have hS : va_S A s.heap s.heap [] := va_S.rf
  have hl := lv_entry ([.ref (hO 0), .int p1, .int p2]) (n := 7) (Nat.le_of_ble_eq_true rfl)
  rw [lg_entry_eq]
  generalize (lg_sl ([.ref (hO 0), .int p1, .int p2]) ++ List.replicate (7 - (lg_sl ([.ref (hO 0), .int p1, .int p2])).length) Slot.unset).toArray = ls at hl ⊢
  have hl : lv_has ls 7 [(0, .ref (hO 0)), (1, .int p1), (2, .int p2)] := hl
  refine lv_iconst (v := 0) hx hb dX5_lay_0 (by decide) ?_
  refine lv_istore_n hx hb dX5_lay_1 rfl hl (by decide) rfl (fun ls (hl : lv_has ls _ ([(3, .int 0), (0, .ref (hO 0)), (1, .int p1), (2, .int p2)])) => ?_)
  refine lv_iconst (v := 0) hx hb dX5_lay_2 (by decide) ?_
  refine lv_istore hx hb dX5_lay_3 hl (by decide) rfl (fun ls (hl : lv_has ls _ ([(4, .int 0), (3, .int 0), (0, .ref (hO 0)), (1, .int p1), (2, .int p2)])) => ?_)
  have hl : lv_has _ _ ([(4, .int 0), (3, .int 0), (0, .ref (hO 0)), (1, .int p1), (2, .int p2)]) := lv_sub hl [0, 1, 2, 3, 4] rfl
  refine (fun (loop : ∀ (n9 : Nat) (fO_start_x5 : Nat → Int32) (fO_column_x5 : Nat → Int32) (l4_x5 : Int32) (l3_x5 : Int32) (H : Heap) (locs : List Loc) (ls : Array Slot), (∀ q : Nat, (-1) ≤ (fO_column_x5 q).toInt ∧ (fO_column_x5 q).toInt ≤ 8) → (0 ≤ l4_x5.toInt ∧ l4_x5.toInt ≤ 8) → (0 ≤ l3_x5.toInt ∧ l3_x5.toInt ≤ 8) → (l3_x5.toInt ≤ l4_x5.toInt) → (8 - l4_x5.toInt < ((n9 : Nat) : Int)) → va_P (dC, dI) vwCl (WO hO aO kO hM hQ hw iO_answered iO_searched iO_searchedRelaxed iO_counted fO_countedCase gO_goalNumber gO_goalScale fO_start_x5 fO_column_x5 fO_chosen ++ (WM hM aM kM iM_stands iM_variables iM_rows iM_goals iM_differents iM_cases fM_from fM_to fM_whole fM_ways iM_plainRows fM_plainRow fM_kept fM_goalOver fM_goalUnder fM_goalMax fM_different ++ (WQ hQ aQ kQ hw fQ_inside fQ_outside fQ_shut iQ_rows iQ_allRows iQ_columns ++ (WW nW hw lw kw wl wb wG)))) H → va_D A (WO hO aO kO hM hQ hw iO_answered iO_searched iO_searchedRelaxed iO_counted fO_countedCase gO_goalNumber gO_goalScale fO_start_x5 fO_column_x5 fO_chosen ++ (WM hM aM kM iM_stands iM_variables iM_rows iM_goals iM_differents iM_cases fM_from fM_to fM_whole fM_ways iM_plainRows fM_plainRow fM_kept fM_goalOver fM_goalUnder fM_goalMax fM_different ++ (WQ hQ aQ kQ hw fQ_inside fQ_outside fQ_shut iQ_rows iQ_allRows iQ_columns ++ (WW nW hw lw kw wl wb wG)))) → va_S A s.heap H locs → lv_has ls 7 [(4, .int l4_x5), (3, .int l3_x5), (0, .ref (hO 0)), (1, .int p1), (2, .int p2)] → W p l e _ s m _ below meth c H locs 0 0 _ (F0 m 5 ls [])) => loop (9) fO_start fO_column 0 0 _ _ _ b_fO_column (show 0 ≤ (0 : Int32).toInt ∧ (0 : Int32).toInt ≤ 8 from by decide) (show 0 ≤ (0 : Int32).toInt ∧ (0 : Int32).toInt ≤ 8 from by decide) (show (0 : Int32).toInt ≤ (0 : Int32).toInt from by decide) ((by have e9 : (0 : Int32).toInt = 0 := (by decide : (0 : Int32).toInt = 0); omega)) hP hD hS hl) ?_
  intro n9
  induction n9 with
  | zero => intro fO_start_x5 fO_column_x5 l4_x5 l3_x5 H locs ls b_fO_column_x5 b_l4_x5 b_l3_x5 hc1 hf9; exact False.elim (by omega)
  | succ n9 ihx5 =>
    intro fO_start_x5 fO_column_x5 l4_x5 l3_x5 H locs ls b_fO_column_x5 b_l4_x5 b_l3_x5 hc1 hfx5 hP hD hS hl
    refine lv_iload hx hb dX5_lay_5 (lv_at hl 0 rfl) ?_
    refine lv_aload_n hx hb dX5_lay_7 rfl (lv_at hl 2 rfl) ?_
    refine va_get (D := (dC, dI)) (ci := 5) (v := .ref (hM 0)) (C := RX5) (T := TX5) (N := 19) hx hb hts iwsMX5_lay_in5 hown hK hP 0 rfl rfl 0 (by decide) (hts _ hm_m_X5_lay_0) (fun _ h9 => h9) rfl dX5_lay_8 ?_
    refine va_get (D := (dC, dI)) (ci := 1) (v := .int iM_variables) (C := RX1) (T := TX1) (N := 17) hx hb hts iwsMX5_lay_in1 hown hK hP 11 rfl rfl 1 (by decide) (hts _ hm_m_X5_lay_1) (fun _ h9 => h9) rfl dX5_lay_11 ?_
    refine lv_icmp_ge (tgt := 88) hx hb dX5_lay_14 (by decide) (fun c_14 => ?_) (fun c_14 => ?_)
    · have t_14 : l4_x5.toInt ≥ iM_variables.toInt := toI_ge c_14 rfl rfl
      refine lv_iload_n hx hb dX5_lay_88 rfl (lv_at hl 3 rfl) ?_
      refine W.cut (pc := 109) (fun H locs ls stk => ∃ (k0_j36 : Int32), (0 ≤ k0_j36.toInt ∧ k0_j36.toInt ≤ 12) ∧  stk = [.int k0_j36] ∧ va_P (dC, dI) vwCl (WO hO aO kO hM hQ hw iO_answered iO_searched iO_searchedRelaxed iO_counted fO_countedCase gO_goalNumber gO_goalScale fO_start_x5 fO_column_x5 fO_chosen ++ (WM hM aM kM iM_stands iM_variables iM_rows iM_goals iM_differents iM_cases fM_from fM_to fM_whole fM_ways iM_plainRows fM_plainRow fM_kept fM_goalOver fM_goalUnder fM_goalMax fM_different ++ (WQ hQ aQ kQ hw fQ_inside fQ_outside fQ_shut iQ_rows iQ_allRows iQ_columns ++ (WW nW hw lw kw wl wb wG)))) H ∧ va_D A (WO hO aO kO hM hQ hw iO_answered iO_searched iO_searchedRelaxed iO_counted fO_countedCase gO_goalNumber gO_goalScale fO_start_x5 fO_column_x5 fO_chosen ++ (WM hM aM kM iM_stands iM_variables iM_rows iM_goals iM_differents iM_cases fM_from fM_to fM_whole fM_ways iM_plainRows fM_plainRow fM_kept fM_goalOver fM_goalUnder fM_goalMax fM_different ++ (WQ hQ aQ kQ hw fQ_inside fQ_outside fQ_shut iQ_rows iQ_allRows iQ_columns ++ (WW nW hw lw kw wl wb wG)))) ∧ va_S A s.heap H locs ∧ lv_has ls 7 [(4, .int l4_x5), (3, .int l3_x5), (0, .ref (hO 0)), (1, .int p1), (2, .int p2)]) (fun join36 => ?_) ?_
      · refine lv_if_eq (tgt := 102) hx hb dX5_lay_89 (by decide) (fun c_89 => ?_) (fun c_89 => ?_)
        · have t_89 : p1.toInt = 0 := toI_eq c_89 rfl (by decide : (0 : Int32).toInt = 0)
          refine lv_aload_n hx hb dX5_lay_102 rfl (lv_at hl 2 rfl) ?_
          refine va_get (D := (dC, dI)) (ci := 5) (v := .ref (hM 0)) (C := RX5) (T := TX5) (N := 19) hx hb hts iwsMX5_lay_in5 hown hK hP 0 rfl rfl 0 (by decide) (hts _ hm_m_X5_lay_0) (fun _ h9 => h9) rfl dX5_lay_103 ?_
          refine va_get (D := (dC, dI)) (ci := 1) (v := .int iM_rows) (C := RX1) (T := TX1) (N := 17) hx hb hts iwsMX5_lay_in1 hown hK hP 11 rfl rfl 2 (by decide) (hts _ hm_m_X5_lay_2) (fun _ h9 => h9) rfl dX5_lay_106 ?_
          have hl : lv_has _ _ ([(4, .int l4_x5), (3, .int l3_x5), (0, .ref (hO 0)), (1, .int p1), (2, .int p2)]) := lv_sub hl [0, 1, 2, 3, 4] rfl
          exact join36 _ _ _ _ ⟨iM_rows, (b_iM_rows), rfl, hP, hD, hS, hl⟩
        · have t_89 : ¬ p1.toInt = 0 := toI_neq c_89 rfl (by decide : (0 : Int32).toInt = 0)
          refine lv_aload_n hx hb dX5_lay_92 rfl (lv_at hl 2 rfl) ?_
          refine va_get (D := (dC, dI)) (ci := 5) (v := .ref (hM 0)) (C := RX5) (T := TX5) (N := 19) hx hb hts iwsMX5_lay_in5 hown hK hP 0 rfl rfl 0 (by decide) (hts _ hm_m_X5_lay_0) (fun _ h9 => h9) rfl dX5_lay_93 ?_
          refine va_get (D := (dC, dI)) (ci := 1) (v := .int iM_plainRows) (C := RX1) (T := TX1) (N := 17) hx hb hts iwsMX5_lay_in1 hown hK hP 11 rfl rfl 10 (by decide) (hts (.fieldLink RX5 166 "OptimaWorks$Model" "plainRows" "I") (by decide +kernel)) (fun _ h9 => h9) rfl dX5_lay_96 ?_
          refine lv_goto (tgt := 109) hx hb dX5_lay_99 (by decide) ?_
          have hl : lv_has _ _ ([(4, .int l4_x5), (3, .int l3_x5), (0, .ref (hO 0)), (1, .int p1), (2, .int p2)]) := lv_sub hl [0, 1, 2, 3, 4] rfl
          exact join36 _ _ _ _ ⟨iM_plainRows, (b_iM_plainRows), rfl, hP, hD, hS, hl⟩
      · rintro H locs ls stk ⟨k0_j36, b_k0_j36, rfl, hP, hD, hS, hl⟩
        refine lv_istore hx hb dX5_lay_109 hl (by decide) rfl (fun ls (hl : lv_has ls _ ([(4, .int k0_j36), (3, .int l3_x5), (0, .ref (hO 0)), (1, .int p1), (2, .int p2)])) => ?_)
        refine lv_aload_n hx hb dX5_lay_111 rfl (lv_at hl 2 rfl) ?_
        refine va_get (D := (dC, dI)) (ci := 5) (v := .ref (hQ 0)) (C := RX5) (T := TX5) (N := 19) hx hb hts iwsMX5_lay_in5 hown hK hP 0 rfl rfl 1 (by decide) (hts _ hm_m_X5_lay_3) (fun _ h9 => h9) rfl dX5_lay_112 ?_
        refine lv_iload hx hb dX5_lay_115 (lv_at hl 0 rfl) ?_
        refine lv_iload_n hx hb dX5_lay_117 rfl (lv_at hl 1 rfl) ?_
        refine lv_iadd hx hb dX5_lay_118 ?_
        refine lv_topi (fun y673 hy673 => ?_)
        obtain rfl : (iI (k0_j36.toInt + l3_x5.toInt)) = y673 := (hy673.trans (iI_add2 (iI_of _) (iI_of _))).symm
        refine lv_iload_n hx hb dX5_lay_119 rfl (lv_at hl 4 rfl) ?_
        refine lv_iload_n hx hb dX5_lay_120 rfl (lv_at hl 1 rfl) ?_
        have p9 := cj_4_2_3 (WO hO aO kO hM hQ hw iO_answered iO_searched iO_searchedRelaxed iO_counted fO_countedCase gO_goalNumber gO_goalScale fO_start_x5 fO_column_x5 fO_chosen) (WM hM aM kM iM_stands iM_variables iM_rows iM_goals iM_differents iM_cases fM_from fM_to fM_whole fM_ways iM_plainRows fM_plainRow fM_kept fM_goalOver fM_goalUnder fM_goalMax fM_different) (WQ hQ aQ kQ hw fQ_inside fQ_outside fQ_shut iQ_rows iQ_allRows iQ_columns) (WW nW hw lw kw wl wb wG)
        have hPc := hP.mem (fun q h => p9.mem_iff.mpr (List.mem_append_left _ h))
        have hDc := (hD.perm p9).left
        have hKc : va_K (dC, dI) vwCl (tQ kQ ++ (tW kw)) _ := hK.sub [20, 21, 22, 23, 24] rfl
        have hFc := freeG p9 hD hS hA
        refine va_callv (va_runV (As := [.int (iI (k0_j36.toInt + l3_x5.toInt)), .int p2, .int l3_x5]) (rest := []) ⟨hx, hb, hml, hown, hts⟩ (m_X6_begin l dC dI hQ aQ kQ hw fQ_inside fQ_outside fQ_shut iQ_rows iQ_allRows iQ_columns nW lw kw wl wb wG (iI (k0_j36.toInt + l3_x5.toInt)) p2 l3_x5 (b_iQ_rows) (b_iQ_allRows) (b_iQ_columns) (by first | with_reducible assumption | omega | assumption) b_wl b_wb (iI_rng (Int.le_trans (by decide) (Int.add_le_add (b_k0_j36.1) (b_l3_x5.1))) (Int.le_trans (Int.add_le_add (b_k0_j36.2) (b_l3_x5.2)) (by decide)) (by decide) (by decide)) (⟨b_p2.1, Int.le_trans b_p2.2 (by decide)⟩) (⟨b_l3_x5.1, Int.le_trans b_l3_x5.2 (by decide)⟩) (by omega) (by (try rw [iI_t (by omega) (by omega)]); omega) (mul40 (by rw [iI_t (by omega) (by omega)]; omega) (by rw [iI_t (by omega) (by omega)]; omega) (by omega) (by omega)) H.size) (cwV 3 hts gwsMX5_lay_0 rfl rfl rfl hd_yX6_begin_RX6 (by decide +kernel)) (fz_pre (va_recv hK hP (ci := 6) (q0 := 22) rfl rfl) hPc hKc hDc) rfl rfl hl.1 rfl (lv_room (Nat.le_of_ble_eq_true rfl)) dX5_lay_121 (by decide +kernel)) hS (fun q _ h => hFc q h) hFc (fun u t9_ H locs ht hvm hw9 hB9 hz1 hk1 hS => ?_)
        revert u hw9 hB9
        refine fz_p9 ?_
        intro fQ_inside_674 fQ_outside_674 fQ_shut_674 iQ_rows_674 iQ_allRows_674 iQ_columns_674 wl_674 wb_674 wG_674 hw9 hB9
        try dsimp only at hw9 hB9
        revert hw9
        refine fz_a9 ?_
        intro b_iQ_rows_674 b_iQ_allRows_674 b_iQ_columns_674 b_wl_674 b_wb_674 b_tb_674 f674_0 f674_1 f674_2
        have p8 := cj_4_2_3 (WO hO aO kO hM hQ hw iO_answered iO_searched iO_searchedRelaxed iO_counted fO_countedCase gO_goalNumber gO_goalScale fO_start_x5 fO_column_x5 fO_chosen) (WM hM aM kM iM_stands iM_variables iM_rows iM_goals iM_differents iM_cases fM_from fM_to fM_whole fM_ways iM_plainRows fM_plainRow fM_kept fM_goalOver fM_goalUnder fM_goalMax fM_different) (WQ hQ aQ kQ hw fQ_inside_674 fQ_outside_674 fQ_shut_674 iQ_rows_674 iQ_allRows_674 iQ_columns_674) (WW nW hw lw kw wl_674 wb_674 wG_674)
        obtain ⟨hP, hD⟩ := frameG p9 p8 hP hD hk1 hFc (fz_P ht hB9.1) hB9.2
        have hb1 := f674_0
        have hb3 := f674_2
        rw [iI_t (by omega) (by omega)] at hb1
        refine lv_iconst (v := 0) hx hb dX5_lay_124 (by decide) ?_
        refine lv_istore hx hb dX5_lay_125 hl (by decide) rfl (fun ls (hl : lv_has ls _ ([(5, .int 0), (4, .int k0_j36), (3, .int l3_x5), (0, .ref (hO 0)), (1, .int p1), (2, .int p2)])) => ?_)
        refine lv_iconst (v := 0) hx hb dX5_lay_127 (by decide) ?_
        refine lv_istore hx hb dX5_lay_128 hl (by decide) rfl (fun ls (hl : lv_has ls _ ([(6, .int 0), (5, .int 0), (4, .int k0_j36), (3, .int l3_x5), (0, .ref (hO 0)), (1, .int p1), (2, .int p2)])) => ?_)
        have hl : lv_has _ _ ([(6, .int 0), (5, .int 0), (4, .int k0_j36), (3, .int l3_x5), (0, .ref (hO 0)), (1, .int p1), (2, .int p2)]) := lv_sub hl [0, 1, 2, 3, 4, 5, 6] rfl
        refine (fun (loop : ∀ (n9 : Nat) (wl_x130 : Nat → Int32) (wb_x130 : Nat → Int32) (wG_x130 : Nat → Nat → Int64) (l6_x130 : Int32) (l5_x130 : Int32) (H : Heap) (locs : List Loc) (ls : Array Slot), (∀ q : Nat, 0 ≤ (wl_x130 q).toInt ∧ (wl_x130 q).toInt ≤ 14) → (∀ q : Nat, 0 ≤ (wb_x130 q).toInt ∧ (wb_x130 q).toInt ≤ 1) → (0 ≤ l6_x130.toInt ∧ l6_x130.toInt ≤ 12) → (0 ≤ l5_x130.toInt ∧ l5_x130.toInt ≤ 20) → (l5_x130.toInt ≤ l6_x130.toInt) → (12 - l6_x130.toInt < ((n9 : Nat) : Int)) → va_P (dC, dI) vwCl (WO hO aO kO hM hQ hw iO_answered iO_searched iO_searchedRelaxed iO_counted fO_countedCase gO_goalNumber gO_goalScale fO_start_x5 fO_column_x5 fO_chosen ++ (WM hM aM kM iM_stands iM_variables iM_rows iM_goals iM_differents iM_cases fM_from fM_to fM_whole fM_ways iM_plainRows fM_plainRow fM_kept fM_goalOver fM_goalUnder fM_goalMax fM_different ++ (WQ hQ aQ kQ hw fQ_inside_674 fQ_outside_674 fQ_shut_674 iQ_rows_674 iQ_allRows_674 iQ_columns_674 ++ (WW nW hw lw kw wl_x130 wb_x130 wG_x130)))) H → va_D A (WO hO aO kO hM hQ hw iO_answered iO_searched iO_searchedRelaxed iO_counted fO_countedCase gO_goalNumber gO_goalScale fO_start_x5 fO_column_x5 fO_chosen ++ (WM hM aM kM iM_stands iM_variables iM_rows iM_goals iM_differents iM_cases fM_from fM_to fM_whole fM_ways iM_plainRows fM_plainRow fM_kept fM_goalOver fM_goalUnder fM_goalMax fM_different ++ (WQ hQ aQ kQ hw fQ_inside_674 fQ_outside_674 fQ_shut_674 iQ_rows_674 iQ_allRows_674 iQ_columns_674 ++ (WW nW hw lw kw wl_x130 wb_x130 wG_x130)))) → va_S A s.heap H locs → lv_has ls 7 [(6, .int l6_x130), (5, .int l5_x130), (4, .int k0_j36), (3, .int l3_x5), (0, .ref (hO 0)), (1, .int p1), (2, .int p2)] → W p l e _ s m _ below meth c H locs 0 0 _ (F0 m 130 ls [])) => loop (13) wl_674 wb_674 wG_674 0 0 _ _ _ b_wl_674 b_wb_674 (show 0 ≤ (0 : Int32).toInt ∧ (0 : Int32).toInt ≤ 12 from by decide) (show 0 ≤ (0 : Int32).toInt ∧ (0 : Int32).toInt ≤ 20 from by decide) (show (0 : Int32).toInt ≤ (0 : Int32).toInt from by decide) ((by have e9 : (0 : Int32).toInt = 0 := (by decide : (0 : Int32).toInt = 0); omega)) hP hD hS hl) ?_
        intro n9
        induction n9 with
        | zero => intro wl_x130 wb_x130 wG_x130 l6_x130 l5_x130 H locs ls b_wl_x130 b_wb_x130 b_l6_x130 b_l5_x130 hl1 hf9; exact False.elim (by omega)
        | succ n9 ihx130 =>
          intro wl_x130 wb_x130 wG_x130 l6_x130 l5_x130 H locs ls b_wl_x130 b_wb_x130 b_l6_x130 b_l5_x130 hl1 hfx130 hP hD hS hl
          refine lv_iload hx hb dX5_lay_130 (lv_at hl 0 rfl) ?_
          refine lv_aload_n hx hb dX5_lay_132 rfl (lv_at hl 4 rfl) ?_
          refine va_get (D := (dC, dI)) (ci := 5) (v := .ref (hM 0)) (C := RX5) (T := TX5) (N := 19) hx hb hts iwsMX5_lay_in5 hown hK hP 0 rfl rfl 0 (by decide) (hts _ hm_m_X5_lay_0) (fun _ h9 => h9) rfl dX5_lay_133 ?_
          refine va_get (D := (dC, dI)) (ci := 1) (v := .int iM_rows) (C := RX1) (T := TX1) (N := 17) hx hb hts iwsMX5_lay_in1 hown hK hP 11 rfl rfl 2 (by decide) (hts _ hm_m_X5_lay_2) (fun _ h9 => h9) rfl dX5_lay_136 ?_
          refine lv_icmp_ge (tgt := 197) hx hb dX5_lay_139 (by decide) (fun c_139 => ?_) (fun c_139 => ?_)
          · have t_139 : l6_x130.toInt ≥ iM_rows.toInt := toI_ge c_139 rfl rfl
            refine lv_iconst (v := 0) hx hb dX5_lay_197 (by decide) ?_
            refine lv_istore hx hb dX5_lay_198 hl (by decide) rfl (fun ls (hl : lv_has ls _ ([(6, .int 0), (5, .int l5_x130), (4, .int k0_j36), (3, .int l3_x5), (0, .ref (hO 0)), (1, .int p1), (2, .int p2)])) => ?_)
            have hl : lv_has _ _ ([(6, .int 0), (5, .int l5_x130), (4, .int k0_j36), (3, .int l3_x5), (0, .ref (hO 0)), (1, .int p1), (2, .int p2)]) := lv_sub hl [0, 1, 2, 3, 4, 5, 6] rfl
            refine (fun (loop : ∀ (n9 : Nat) (wl_x200 : Nat → Int32) (wb_x200 : Nat → Int32) (wG_x200 : Nat → Nat → Int64) (l6_x200 : Int32) (l5_x200 : Int32) (H : Heap) (locs : List Loc) (ls : Array Slot), (∀ q : Nat, 0 ≤ (wl_x200 q).toInt ∧ (wl_x200 q).toInt ≤ 14) → (∀ q : Nat, 0 ≤ (wb_x200 q).toInt ∧ (wb_x200 q).toInt ≤ 1) → (0 ≤ l6_x200.toInt ∧ l6_x200.toInt ≤ 8) → (0 ≤ l5_x200.toInt ∧ l5_x200.toInt ≤ 20) → (l5_x200.toInt ≤ 12 + l6_x200.toInt) → (8 - l6_x200.toInt < ((n9 : Nat) : Int)) → va_P (dC, dI) vwCl (WO hO aO kO hM hQ hw iO_answered iO_searched iO_searchedRelaxed iO_counted fO_countedCase gO_goalNumber gO_goalScale fO_start_x5 fO_column_x5 fO_chosen ++ (WM hM aM kM iM_stands iM_variables iM_rows iM_goals iM_differents iM_cases fM_from fM_to fM_whole fM_ways iM_plainRows fM_plainRow fM_kept fM_goalOver fM_goalUnder fM_goalMax fM_different ++ (WQ hQ aQ kQ hw fQ_inside_674 fQ_outside_674 fQ_shut_674 iQ_rows_674 iQ_allRows_674 iQ_columns_674 ++ (WW nW hw lw kw wl_x200 wb_x200 wG_x200)))) H → va_D A (WO hO aO kO hM hQ hw iO_answered iO_searched iO_searchedRelaxed iO_counted fO_countedCase gO_goalNumber gO_goalScale fO_start_x5 fO_column_x5 fO_chosen ++ (WM hM aM kM iM_stands iM_variables iM_rows iM_goals iM_differents iM_cases fM_from fM_to fM_whole fM_ways iM_plainRows fM_plainRow fM_kept fM_goalOver fM_goalUnder fM_goalMax fM_different ++ (WQ hQ aQ kQ hw fQ_inside_674 fQ_outside_674 fQ_shut_674 iQ_rows_674 iQ_allRows_674 iQ_columns_674 ++ (WW nW hw lw kw wl_x200 wb_x200 wG_x200)))) → va_S A s.heap H locs → lv_has ls 7 [(6, .int l6_x200), (5, .int l5_x200), (4, .int k0_j36), (3, .int l3_x5), (0, .ref (hO 0)), (1, .int p1), (2, .int p2)] → W p l e _ s m _ below meth c H locs 0 0 _ (F0 m 200 ls [])) => loop (9) wl_x130 wb_x130 wG_x130 0 l5_x130 _ _ _ b_wl_x130 b_wb_x130 (show 0 ≤ (0 : Int32).toInt ∧ (0 : Int32).toInt ≤ 8 from by decide) (b_l5_x130) (show l5_x130.toInt ≤ 12 + (0 : Int32).toInt from by have h9 : (0 : Int32).toInt = 0 := (by decide); omega) ((by have e9 : (0 : Int32).toInt = 0 := (by decide : (0 : Int32).toInt = 0); omega)) hP hD hS hl) ?_
            intro n9
            induction n9 with
            | zero => intro wl_x200 wb_x200 wG_x200 l6_x200 l5_x200 H locs ls b_wl_x200 b_wb_x200 b_l6_x200 b_l5_x200 hl2 hf9; exact False.elim (by omega)
            | succ n9 ihx200 =>
              intro wl_x200 wb_x200 wG_x200 l6_x200 l5_x200 H locs ls b_wl_x200 b_wb_x200 b_l6_x200 b_l5_x200 hl2 hfx200 hP hD hS hl
              refine lv_iload hx hb dX5_lay_200 (lv_at hl 0 rfl) ?_
              refine lv_aload_n hx hb dX5_lay_202 rfl (lv_at hl 4 rfl) ?_
              refine va_get (D := (dC, dI)) (ci := 5) (v := .ref (hM 0)) (C := RX5) (T := TX5) (N := 19) hx hb hts iwsMX5_lay_in5 hown hK hP 0 rfl rfl 0 (by decide) (hts _ hm_m_X5_lay_0) (fun _ h9 => h9) rfl dX5_lay_203 ?_
              refine va_get (D := (dC, dI)) (ci := 1) (v := .int iM_variables) (C := RX1) (T := TX1) (N := 17) hx hb hts iwsMX5_lay_in1 hown hK hP 11 rfl rfl 1 (by decide) (hts _ hm_m_X5_lay_1) (fun _ h9 => h9) rfl dX5_lay_206 ?_
              refine lv_icmp_ge (tgt := 289) hx hb dX5_lay_209 (by decide) (fun c_209 => ?_) (fun c_209 => ?_)
              · have t_209 : l6_x200.toInt ≥ iM_variables.toInt := toI_ge c_209 rfl rfl
                refine lv_iconst (v := 0) hx hb dX5_lay_289 (by decide) ?_
                refine lv_istore hx hb dX5_lay_290 hl (by decide) rfl (fun ls (hl : lv_has ls _ ([(6, .int 0), (5, .int l5_x200), (4, .int k0_j36), (3, .int l3_x5), (0, .ref (hO 0)), (1, .int p1), (2, .int p2)])) => ?_)
                have hl : lv_has _ _ ([(6, .int 0), (5, .int l5_x200), (4, .int k0_j36), (3, .int l3_x5), (0, .ref (hO 0)), (1, .int p1), (2, .int p2)]) := lv_sub hl [0, 1, 2, 3, 4, 5, 6] rfl
                refine (fun (loop : ∀ (n9 : Nat) (wl_x292 : Nat → Int32) (wb_x292 : Nat → Int32) (wG_x292 : Nat → Nat → Int64) (l6_x292 : Int32) (H : Heap) (locs : List Loc) (ls : Array Slot), (∀ q : Nat, 0 ≤ (wl_x292 q).toInt ∧ (wl_x292 q).toInt ≤ 14) → (∀ q : Nat, 0 ≤ (wb_x292 q).toInt ∧ (wb_x292 q).toInt ≤ 1) → (0 ≤ l6_x292.toInt ∧ l6_x292.toInt ≤ 3) → (3 - l6_x292.toInt < ((n9 : Nat) : Int)) → va_P (dC, dI) vwCl (WO hO aO kO hM hQ hw iO_answered iO_searched iO_searchedRelaxed iO_counted fO_countedCase gO_goalNumber gO_goalScale fO_start_x5 fO_column_x5 fO_chosen ++ (WM hM aM kM iM_stands iM_variables iM_rows iM_goals iM_differents iM_cases fM_from fM_to fM_whole fM_ways iM_plainRows fM_plainRow fM_kept fM_goalOver fM_goalUnder fM_goalMax fM_different ++ (WQ hQ aQ kQ hw fQ_inside_674 fQ_outside_674 fQ_shut_674 iQ_rows_674 iQ_allRows_674 iQ_columns_674 ++ (WW nW hw lw kw wl_x292 wb_x292 wG_x292)))) H → va_D A (WO hO aO kO hM hQ hw iO_answered iO_searched iO_searchedRelaxed iO_counted fO_countedCase gO_goalNumber gO_goalScale fO_start_x5 fO_column_x5 fO_chosen ++ (WM hM aM kM iM_stands iM_variables iM_rows iM_goals iM_differents iM_cases fM_from fM_to fM_whole fM_ways iM_plainRows fM_plainRow fM_kept fM_goalOver fM_goalUnder fM_goalMax fM_different ++ (WQ hQ aQ kQ hw fQ_inside_674 fQ_outside_674 fQ_shut_674 iQ_rows_674 iQ_allRows_674 iQ_columns_674 ++ (WW nW hw lw kw wl_x292 wb_x292 wG_x292)))) → va_S A s.heap H locs → lv_has ls 7 [(6, .int l6_x292), (5, .int l5_x200), (4, .int k0_j36), (3, .int l3_x5), (0, .ref (hO 0)), (1, .int p1), (2, .int p2)] → W p l e _ s m _ below meth c H locs 0 0 _ (F0 m 292 ls [])) => loop (4) wl_x200 wb_x200 wG_x200 0 _ _ _ b_wl_x200 b_wb_x200 (show 0 ≤ (0 : Int32).toInt ∧ (0 : Int32).toInt ≤ 3 from by decide) ((by have e9 : (0 : Int32).toInt = 0 := (by decide : (0 : Int32).toInt = 0); omega)) hP hD hS hl) ?_
                intro n9
                induction n9 with
                | zero => intro wl_x292 wb_x292 wG_x292 l6_x292 H locs ls b_wl_x292 b_wb_x292 b_l6_x292 hf9; exact False.elim (by omega)
                | succ n9 ihx292 =>
                  intro wl_x292 wb_x292 wG_x292 l6_x292 H locs ls b_wl_x292 b_wb_x292 b_l6_x292 hfx292 hP hD hS hl
                  refine lv_iload hx hb dX5_lay_292 (lv_at hl 0 rfl) ?_
                  refine lv_iload_n hx hb dX5_lay_294 rfl (lv_at hl 6 rfl) ?_
                  refine lv_icmp_ge (tgt := 315) hx hb dX5_lay_295 (by decide) (fun c_295 => ?_) (fun c_295 => ?_)
                  · have t_295 : l6_x292.toInt ≥ p2.toInt := toI_ge c_295 rfl rfl
                    refine lv_iconst (v := 1) hx hb dX5_lay_315 (by decide) ?_
                    refine W.widen (k := 0) (n := 0) (by decide +kernel) (by decide +kernel) ?_
                    exact W.zret (v := 1) hx hb hr rfl (fun t9_ ht hW => ⟨⟨(1 : Int32), (fO_start_x5, fO_column_x5, fQ_inside_674, fQ_outside_674, fQ_shut_674, iQ_rows_674, iQ_allRows_674, iQ_columns_674, wl_x292, wb_x292, wG_x292), rfl, ⟨b_fO_column_x5, b_iQ_rows_674, b_iQ_allRows_674, b_iQ_columns_674, b_wl_x292, b_wb_x292, (by (try dsimp only); exact (by first | with_reducible assumption | omega | assumption)), (show 0 ≤ (1 : Int32).toInt ∧ (1 : Int32).toInt ≤ 1 from by decide), (by (try dsimp only); omega), (by (try dsimp only); omega)⟩, by rw [ht]; exact hP, hD⟩, hS.F ht⟩) hS.2.2 dX5_lay_316
                  · have t_295 : ¬ l6_x292.toInt ≥ p2.toInt := toI_nge c_295 rfl rfl
                    refine lv_aload_n hx hb dX5_lay_298 rfl (lv_at hl 4 rfl) ?_
                    refine lv_iload hx hb dX5_lay_299 (lv_at hl 1 rfl) ?_
                    refine lv_iload hx hb dX5_lay_301 (lv_at hl 0 rfl) ?_
                    refine lv_iadd hx hb dX5_lay_303 ?_
                    refine lv_topi (fun y965 hy965 => ?_)
                    obtain rfl : (iI (l5_x200.toInt + l6_x292.toInt)) = y965 := (hy965.trans (iI_add2 (iI_of _) (iI_of _))).symm
                    refine lv_iload hx hb dX5_lay_304 (lv_at hl 0 rfl) ?_
                    have hFc := allFree hD hS hA
                    refine va_callv (va_runV (As := [.int (iI (l5_x200.toInt + l6_x292.toInt)), .int l6_x292]) (rest := []) ⟨hx, hb, hml, hown, hts⟩ (m_X5_layGoal l dC dI hO aO kO hM hQ hw iO_answered iO_searched iO_searchedRelaxed iO_counted fO_countedCase gO_goalNumber gO_goalScale fO_start_x5 fO_column_x5 fO_chosen aM kM iM_stands iM_variables iM_rows iM_goals iM_differents iM_cases fM_from fM_to fM_whole fM_ways iM_plainRows fM_plainRow fM_kept fM_goalOver fM_goalUnder fM_goalMax fM_different aQ kQ fQ_inside_674 fQ_outside_674 fQ_shut_674 iQ_rows_674 iQ_allRows_674 iQ_columns_674 nW lw kw wl_x292 wb_x292 wG_x292 (iI (l5_x200.toInt + l6_x292.toInt)) l6_x292 (b_iO_answered) (b_iO_searched) (b_iO_searchedRelaxed) (b_iO_counted) b_fO_countedCase b_fO_column_x5 b_fO_chosen (b_iM_stands) (b_iM_variables) (b_iM_rows) (b_iM_goals) (b_iM_differents) (b_iM_cases) b_fM_ways (b_iM_plainRows) b_fM_plainRow (by first | with_reducible assumption | omega | assumption) (b_iQ_rows_674) (b_iQ_allRows_674) (b_iQ_columns_674) (by first | with_reducible assumption | omega | assumption) b_wl_x292 b_wb_x292 (iI_rng (Int.le_trans (by decide) (Int.add_le_add (b_l5_x200.1) (b_l6_x292.1))) (Int.le_trans (Int.add_le_add (b_l5_x200.2) (b_l6_x292.2)) (by decide)) (by decide) (by decide)) (by first | exact b_l6_x292 | with_reducible assumption | exact ⟨by omega, by omega⟩ | assumption) (by omega) (by omega) H.size) (cwV 2 hts gwsMX5_lay_3 rfl rfl rfl hd_yX5_layGoal_RX5 (by decide +kernel)) (fz_pre (va_recv hK hP (ci := 5) (q0 := 0) rfl rfl) hP hK hD) rfl rfl hl.1 rfl (lv_room (Nat.le_of_ble_eq_true rfl)) dX5_lay_306 (by decide +kernel)) hS (fun q _ h => hFc q h) hFc (fun u t9_ H locs ht hvm hw9 hB9 hz1 hk1 hS => ?_)
                    revert u hw9 hB9
                    refine fz_p3 ?_
                    intro wl_966 wb_966 wG_966 hw9 hB9
                    try dsimp only at hw9 hB9
                    revert hw9
                    refine fz_a2 ?_
                    intro b_wl_966 b_wb_966
                    have hP : va_P (dC, dI) vwCl (WO hO aO kO hM hQ hw iO_answered iO_searched iO_searchedRelaxed iO_counted fO_countedCase gO_goalNumber gO_goalScale fO_start_x5 fO_column_x5 fO_chosen ++ (WM hM aM kM iM_stands iM_variables iM_rows iM_goals iM_differents iM_cases fM_from fM_to fM_whole fM_ways iM_plainRows fM_plainRow fM_kept fM_goalOver fM_goalUnder fM_goalMax fM_different ++ (WQ hQ aQ kQ hw fQ_inside_674 fQ_outside_674 fQ_shut_674 iQ_rows_674 iQ_allRows_674 iQ_columns_674 ++ (WW nW hw lw kw wl_966 wb_966 wG_966)))) H := fz_P ht hB9.1
                    have hD := fz_sd hP (hB9.2.weaken (fun _ q _ h => hFc q.1 h)) rfl
                    refine lv_iinc (v := (iI (l6_x292.toInt + 1))) hx hb dX5_lay_309 hl (k := 0) rfl (iI_add2 (iI_of _) (by decide : (1 : Int32) = iI 1)) (by decide) rfl (fun ls (hl : lv_has ls _ ([(6, .int (iI (l6_x292.toInt + 1))), (5, .int l5_x200), (4, .int k0_j36), (3, .int l3_x5), (0, .ref (hO 0)), (1, .int p1), (2, .int p2)])) => ?_)
                    refine lv_goto (tgt := 292) hx hb dX5_lay_312 (by decide) ?_
                    have hl : lv_has _ _ ([(6, .int (iI (l6_x292.toInt + 1))), (5, .int l5_x200), (4, .int k0_j36), (3, .int l3_x5), (0, .ref (hO 0)), (1, .int p1), (2, .int p2)]) := lv_sub hl [0, 1, 2, 3, 4, 5, 6] rfl
                    exact ihx292 wl_966 wb_966 wG_966 (iI (l6_x292.toInt + 1)) _ _ _ b_wl_966 b_wb_966 (iI_rng (Int.le_trans (by decide) (Int.add_le_add (b_l6_x292.1) (Int.le_refl _))) (by omega) (by decide) (by decide)) (by have e9 : ((iI (l6_x292.toInt + 1))).toInt = (l6_x292.toInt + 1) := (iI_t (Int.le_trans (by decide) (Int.add_le_add (b_l6_x292.1) (Int.le_refl _))) (Int.le_trans (Int.add_le_add (b_l6_x292.2) (Int.le_refl _)) (by decide))); omega) hP hD hS hl
              · have t_209 : ¬ l6_x200.toInt ≥ iM_variables.toInt := toI_nge c_209 rfl rfl
                refine lv_aload_n hx hb dX5_lay_212 rfl (lv_at hl 4 rfl) ?_
                refine va_get (D := (dC, dI)) (ci := 5) (v := .ref (aO 4)) (C := RX5) (T := TX5) (N := 19) hx hb hts iwsMX5_lay_in5 hown hK hP 0 rfl rfl 10 (by decide) (hts _ hm_m_X5_lay_4) (fun _ h9 => h9) rfl dX5_lay_213 ?_
                refine lv_iload hx hb dX5_lay_216 (lv_at hl 0 rfl) ?_
                refine va_iald (cA := kO 4) (n := 8) (f := fO_column_x5) hx hb hK hP 5 4 rfl rfl (vp_in_iff.mpr ⟨b_l6_x200.1, (Int.lt_of_lt_of_le (Int.not_le.mp t_209) (Int.le_trans b_iM_variables.2 (by decide)))⟩) dX5_lay_218 ?_
                refine lv_topi (fun v967 hv967 => ?_)
                have b_v967 : (-1) ≤ v967.toInt ∧ v967.toInt ≤ 8 := by rw [hv967]; exact b_fO_column_x5 _
                have b1_v967 : v967 = fO_column_x5 (l6_x200).toNatClampNeg := hv967
                clear hv967
                refine lv_iconst (v := (-1)) hx hb dX5_lay_219 (by decide) ?_
                refine lv_icmp_eq (tgt := 283) hx hb dX5_lay_220 (by decide) (fun c_220 => ?_) (fun c_220 => ?_)
                · have t_220 : v967.toInt = (-1) := toI_eq c_220 rfl (by decide : ((-1) : Int32).toInt = (-1))
                  refine lv_iinc (v := (iI (l6_x200.toInt + 1))) hx hb dX5_lay_283 hl (k := 0) rfl (iI_add2 (iI_of _) (by decide : (1 : Int32) = iI 1)) (by decide) rfl (fun ls (hl : lv_has ls _ ([(6, .int (iI (l6_x200.toInt + 1))), (5, .int l5_x200), (4, .int k0_j36), (3, .int l3_x5), (0, .ref (hO 0)), (1, .int p1), (2, .int p2)])) => ?_)
                  refine lv_goto (tgt := 200) hx hb dX5_lay_286 (by decide) ?_
                  have hl : lv_has _ _ ([(6, .int (iI (l6_x200.toInt + 1))), (5, .int l5_x200), (4, .int k0_j36), (3, .int l3_x5), (0, .ref (hO 0)), (1, .int p1), (2, .int p2)]) := lv_sub hl [0, 1, 2, 3, 4, 5, 6] rfl
                  exact ihx200 wl_x200 wb_x200 wG_x200 (iI (l6_x200.toInt + 1)) l5_x200 _ _ _ b_wl_x200 b_wb_x200 (iI_rng (Int.le_trans (by decide) (Int.add_le_add (b_l6_x200.1) (Int.le_refl _))) (by omega) (by decide) (by decide)) (b_l5_x200) (show l5_x200.toInt ≤ 12 + (iI (l6_x200.toInt + 1)).toInt from by (try rw [iI_t (E := l3_x5.toInt + 1) (by omega) (by omega)]); (try rw [iI_t (E := l4_x5.toInt + 1) (by omega) (by omega)]); (try rw [iI_t (E := l5_x130.toInt + 1) (by omega) (by omega)]); (try rw [iI_t (E := l6_x130.toInt + 1) (by omega) (by omega)]); (try rw [iI_t (E := l5_x200.toInt + 1) (by omega) (by omega)]); (try rw [iI_t (E := l6_x200.toInt + 1) (by omega) (by omega)]); omega) (by have e9 : ((iI (l6_x200.toInt + 1))).toInt = (l6_x200.toInt + 1) := (iI_t (Int.le_trans (by decide) (Int.add_le_add (b_l6_x200.1) (Int.le_refl _))) (Int.le_trans (Int.add_le_add (b_l6_x200.2) (Int.le_refl _)) (by decide))); omega) hP hD hS hl
                · have t_220 : ¬ v967.toInt = (-1) := toI_neq c_220 rfl (by decide : ((-1) : Int32).toInt = (-1))
                  refine lv_aload_n hx hb dX5_lay_223 rfl (lv_at hl 4 rfl) ?_
                  refine va_get (D := (dC, dI)) (ci := 5) (v := .ref (hQ 0)) (C := RX5) (T := TX5) (N := 19) hx hb hts iwsMX5_lay_in5 hown hK hP 0 rfl rfl 1 (by decide) (hts _ hm_m_X5_lay_3) (fun _ h9 => h9) rfl dX5_lay_224 ?_
                  refine lv_iload hx hb dX5_lay_227 (lv_at hl 1 rfl) ?_
                  refine lv_iconst (v := 0) hx hb dX5_lay_229 (by decide) ?_
                  have p9 := cj_4_2_3 (WO hO aO kO hM hQ hw iO_answered iO_searched iO_searchedRelaxed iO_counted fO_countedCase gO_goalNumber gO_goalScale fO_start_x5 fO_column_x5 fO_chosen) (WM hM aM kM iM_stands iM_variables iM_rows iM_goals iM_differents iM_cases fM_from fM_to fM_whole fM_ways iM_plainRows fM_plainRow fM_kept fM_goalOver fM_goalUnder fM_goalMax fM_different) (WQ hQ aQ kQ hw fQ_inside_674 fQ_outside_674 fQ_shut_674 iQ_rows_674 iQ_allRows_674 iQ_columns_674) (WW nW hw lw kw wl_x200 wb_x200 wG_x200)
                  have hPc := hP.mem (fun q h => p9.mem_iff.mpr (List.mem_append_left _ h))
                  have hDc := (hD.perm p9).left
                  have hKc : va_K (dC, dI) vwCl (tQ kQ ++ (tW kw)) _ := hK.sub [20, 21, 22, 23, 24] rfl
                  have hFc := freeG p9 hD hS hA
                  refine va_callr (va_runV (As := [.int l5_x200, .int 0]) (rest := []) ⟨hx, hb, hml, hown, hts⟩ (m_X6_cellAt l dC dI hQ aQ kQ hw fQ_inside_674 fQ_outside_674 fQ_shut_674 iQ_rows_674 iQ_allRows_674 iQ_columns_674 nW lw kw wl_x200 wb_x200 wG_x200 l5_x200 0 (b_iQ_rows_674) (b_iQ_allRows_674) (b_iQ_columns_674) (by first | with_reducible assumption | omega | assumption) b_wl_x200 b_wb_x200 (⟨b_l5_x200.1, Int.le_trans b_l5_x200.2 (by decide)⟩) (show 0 ≤ (0 : Int32).toInt ∧ (0 : Int32).toInt ≤ 40 from by decide) (by omega) ((by have h9 := ix_small (i := l5_x200.toInt) (j := 0) (c := iQ_columns_674.toInt) (by omega) (by omega) (by omega) (by omega) (by omega) (by omega); have h8 : (0 : Int32).toInt = 0 := (by decide); rw [h8]; exact h9)) H.size) (cwV 2 hts gwsMX5_lay_1 rfl rfl rfl hd_yX6_cellAt_RX6 (by decide +kernel)) (fz_pre (va_recv hK hP (ci := 6) (q0 := 22) rfl rfl) hPc hKc hDc) rfl rfl hl.1 rfl (lv_room (Nat.le_of_ble_eq_true rfl)) dX5_lay_230 (by decide +kernel)) hS (fun q _ h => hFc q h) hFc (fun kR_968 ra968 t9_ H locs ht hvm hw9 hB9 hz1 hk1 hS => ?_)
                  revert hB9
                  refine fz_a2 ?_
                  intro hra hB9
                  subst hra
                  have f968_0 := hw9
                  try dsimp only at f968_0
                  have p8 := p9
                  obtain ⟨hP, hD⟩ := frameG p9 p8 hP hD hk1 hFc (fz_P ht hB9.1) hB9.2
                  refine lv_aload_n hx hb dX5_lay_233 rfl (lv_at hl 4 rfl) ?_
                  refine va_get (D := (dC, dI)) (ci := 5) (v := .ref (hM 0)) (C := RX5) (T := TX5) (N := 19) hx hb hts iwsMX5_lay_in5 hown hK hP 0 rfl rfl 0 (by decide) (hts _ hm_m_X5_lay_0) (fun _ h9 => h9) rfl dX5_lay_234 ?_
                  refine va_get (D := (dC, dI)) (ci := 1) (v := .ref (aM 1)) (C := RX1) (T := TX1) (N := 17) hx hb hts iwsMX5_lay_in1 hown hK hP 11 rfl rfl 7 (by decide) (hts (.fieldLink RX5 181 "OptimaWorks$Model" "to" "[I") (by decide +kernel)) (fun _ h9 => h9) rfl dX5_lay_237 ?_
                  refine lv_iload hx hb dX5_lay_240 (lv_at hl 0 rfl) ?_
                  refine va_iald (cA := kM 1) (n := 8) (f := fM_to) hx hb hK hP 13 11 rfl rfl (vp_in_iff.mpr ⟨b_l6_x200.1, (Int.lt_of_lt_of_le (Int.not_le.mp t_209) (Int.le_trans b_iM_variables.2 (by decide)))⟩) dX5_lay_242 ?_
                  refine lv_topi (fun v969 hv969 => ?_)
                  clear hv969
                  refine lv_aload_n hx hb dX5_lay_243 rfl (lv_at hl 4 rfl) ?_
                  refine va_get (D := (dC, dI)) (ci := 5) (v := .ref (hM 0)) (C := RX5) (T := TX5) (N := 19) hx hb hts iwsMX5_lay_in5 hown hK hP 0 rfl rfl 0 (by decide) (hts _ hm_m_X5_lay_0) (fun _ h9 => h9) rfl dX5_lay_244 ?_
                  refine va_get (D := (dC, dI)) (ci := 1) (v := .ref (aM 0)) (C := RX1) (T := TX1) (N := 17) hx hb hts iwsMX5_lay_in1 hown hK hP 11 rfl rfl 6 (by decide) (hts _ hm_m_X5_lay_5) (fun _ h9 => h9) rfl dX5_lay_247 ?_
                  refine lv_iload hx hb dX5_lay_250 (lv_at hl 0 rfl) ?_
                  refine va_iald (cA := kM 0) (n := 8) (f := fM_from) hx hb hK hP 12 10 rfl rfl (vp_in_iff.mpr ⟨b_l6_x200.1, (Int.lt_of_lt_of_le (Int.not_le.mp t_209) (Int.le_trans b_iM_variables.2 (by decide)))⟩) dX5_lay_252 ?_
                  refine lv_topi (fun v970 hv970 => ?_)
                  clear hv970
                  refine lv_isub hx hb dX5_lay_253 ?_
                  refine lv_topi (fun y971 hy971 => ?_)
                  obtain rfl : (iI (v969.toInt - v970.toInt)) = y971 := (hy971.trans (iI_sub2 (iI_of _) (iI_of _))).symm
                  refine lv_i2l hx hb dX5_lay_254 rfl ?_
                  refine lv_topl (fun v972 hv972 => ?_)
                  clear hv972
                  have p9 := cj_4_3 (WO hO aO kO hM hQ hw iO_answered iO_searched iO_searchedRelaxed iO_counted fO_countedCase gO_goalNumber gO_goalScale fO_start_x5 fO_column_x5 fO_chosen) (WM hM aM kM iM_stands iM_variables iM_rows iM_goals iM_differents iM_cases fM_from fM_to fM_whole fM_ways iM_plainRows fM_plainRow fM_kept fM_goalOver fM_goalUnder fM_goalMax fM_different) (WQ hQ aQ kQ hw fQ_inside_674 fQ_outside_674 fQ_shut_674 iQ_rows_674 iQ_allRows_674 iQ_columns_674) (WW nW hw lw kw wl_x200 wb_x200 wG_x200)
                  have hPc := hP.mem (fun q h => p9.mem_iff.mpr (List.mem_append_left _ h))
                  have hDc := (hD.perm p9).left
                  have hKc : va_K (dC, dI) vwCl (tW kw) _ := hK.sub [24] rfl
                  have hFc := freeG p9 hD hS hA
                  refine va_callv (va_runV (As := [.long v972]) (rest := []) ⟨hx, hb, hml, hown, hts⟩ (m_X8_setLong l dC dI nW hw lw kw wl_x200 wb_x200 wG_x200 kR_968 v972 b_wl_x200 b_wb_x200 (by first | with_reducible assumption | omega | (rw [iI_t (by omega) (by omega)]; omega) | decide | assumption) H.size) (cwV 1 hts gwsMX5_lay_2 rfl rfl rfl hd_yX8_setLong_RX8 (by decide +kernel)) (fz_pre (va_recv hK hP (ci := 8) (q0 := 11 + (11 + (5 + (kR_968)))) rfl (apR rfl (apR rfl (apR rfl (WW_o (by omega)))))) hPc hKc hDc) rfl rfl hl.1 rfl (lv_room (Nat.le_of_ble_eq_true rfl)) dX5_lay_255 (by decide +kernel)) hS (fun q _ h => hFc q h) hFc (fun u t9_ H locs ht hvm hw9 hB9 hz1 hk1 hS => ?_)
                  revert u hw9 hB9
                  refine fz_p3 ?_
                  intro wl_973 wb_973 wG_973 hw9 hB9
                  try dsimp only at hw9 hB9
                  revert hw9
                  refine fz_a2 ?_
                  intro b_wl_973 b_wb_973
                  have p8 := cj_4_3 (WO hO aO kO hM hQ hw iO_answered iO_searched iO_searchedRelaxed iO_counted fO_countedCase gO_goalNumber gO_goalScale fO_start_x5 fO_column_x5 fO_chosen) (WM hM aM kM iM_stands iM_variables iM_rows iM_goals iM_differents iM_cases fM_from fM_to fM_whole fM_ways iM_plainRows fM_plainRow fM_kept fM_goalOver fM_goalUnder fM_goalMax fM_different) (WQ hQ aQ kQ hw fQ_inside_674 fQ_outside_674 fQ_shut_674 iQ_rows_674 iQ_allRows_674 iQ_columns_674) (WW nW hw lw kw wl_973 wb_973 wG_973)
                  obtain ⟨hP, hD⟩ := frameG p9 p8 hP hD hk1 hFc (fz_P ht hB9.1) hB9.2
                  refine lv_aload_n hx hb dX5_lay_258 rfl (lv_at hl 4 rfl) ?_
                  refine va_get (D := (dC, dI)) (ci := 5) (v := .ref (hQ 0)) (C := RX5) (T := TX5) (N := 19) hx hb hts iwsMX5_lay_in5 hown hK hP 0 rfl rfl 1 (by decide) (hts _ hm_m_X5_lay_3) (fun _ h9 => h9) rfl dX5_lay_259 ?_
                  refine lv_iload hx hb dX5_lay_262 (lv_at hl 1 rfl) ?_
                  refine lv_aload_n hx hb dX5_lay_264 rfl (lv_at hl 4 rfl) ?_
                  refine va_get (D := (dC, dI)) (ci := 5) (v := .ref (aO 4)) (C := RX5) (T := TX5) (N := 19) hx hb hts iwsMX5_lay_in5 hown hK hP 0 rfl rfl 10 (by decide) (hts _ hm_m_X5_lay_4) (fun _ h9 => h9) rfl dX5_lay_265 ?_
                  refine lv_iload hx hb dX5_lay_268 (lv_at hl 0 rfl) ?_
                  refine va_iald (cA := kO 4) (n := 8) (f := fO_column_x5) hx hb hK hP 5 4 rfl rfl (vp_in_iff.mpr ⟨b_l6_x200.1, (Int.lt_of_lt_of_le (Int.not_le.mp t_209) (Int.le_trans b_iM_variables.2 (by decide)))⟩) dX5_lay_270 ?_
                  refine lv_topi (fun v974 hv974 => ?_)
                  have b_v974 : (-1) ≤ v974.toInt ∧ v974.toInt ≤ 8 := by rw [hv974]; exact b_fO_column_x5 _
                  have b1_v974 : v974 = fO_column_x5 (l6_x200).toNatClampNeg := hv974
                  have b2_v974 : v974.toInt = v967.toInt := by rw [hv974]; exact (congrArg Int32.toInt b1_v967).symm
                  clear hv974
                  have p9 := cj_4_2_3 (WO hO aO kO hM hQ hw iO_answered iO_searched iO_searchedRelaxed iO_counted fO_countedCase gO_goalNumber gO_goalScale fO_start_x5 fO_column_x5 fO_chosen) (WM hM aM kM iM_stands iM_variables iM_rows iM_goals iM_differents iM_cases fM_from fM_to fM_whole fM_ways iM_plainRows fM_plainRow fM_kept fM_goalOver fM_goalUnder fM_goalMax fM_different) (WQ hQ aQ kQ hw fQ_inside_674 fQ_outside_674 fQ_shut_674 iQ_rows_674 iQ_allRows_674 iQ_columns_674) (WW nW hw lw kw wl_973 wb_973 wG_973)
                  have hPc := hP.mem (fun q h => p9.mem_iff.mpr (List.mem_append_left _ h))
                  have hDc := (hD.perm p9).left
                  have hKc : va_K (dC, dI) vwCl (tQ kQ ++ (tW kw)) _ := hK.sub [20, 21, 22, 23, 24] rfl
                  have hFc := freeG p9 hD hS hA
                  refine va_callr (va_runV (As := [.int l5_x200, .int v974]) (rest := []) ⟨hx, hb, hml, hown, hts⟩ (m_X6_cellAt l dC dI hQ aQ kQ hw fQ_inside_674 fQ_outside_674 fQ_shut_674 iQ_rows_674 iQ_allRows_674 iQ_columns_674 nW lw kw wl_973 wb_973 wG_973 l5_x200 v974 (b_iQ_rows_674) (b_iQ_allRows_674) (b_iQ_columns_674) (by first | with_reducible assumption | omega | assumption) b_wl_973 b_wb_973 (⟨b_l5_x200.1, Int.le_trans b_l5_x200.2 (by decide)⟩) (by first | exact b_v974 | with_reducible assumption | exact ⟨by omega, by omega⟩ | assumption) (by omega) ((by have h9 := ix_small (i := l5_x200.toInt) (j := v974.toInt) (c := iQ_columns_674.toInt) (by omega) (by omega) (by omega) (by omega) (by omega) (by omega); exact h9)) H.size) (cwV 2 hts gwsMX5_lay_1 rfl rfl rfl hd_yX6_cellAt_RX6 (by decide +kernel)) (fz_pre (va_recv hK hP (ci := 6) (q0 := 22) rfl rfl) hPc hKc hDc) rfl rfl hl.1 rfl (lv_room (Nat.le_of_ble_eq_true rfl)) dX5_lay_271 (by decide +kernel)) hS (fun q _ h => hFc q h) hFc (fun kR_975 ra975 t9_ H locs ht hvm hw9 hB9 hz1 hk1 hS => ?_)
                  revert hB9
                  refine fz_a2 ?_
                  intro hra hB9
                  subst hra
                  have f975_0 := hw9
                  try dsimp only at f975_0
                  have p8 := p9
                  obtain ⟨hP, hD⟩ := frameG p9 p8 hP hD hk1 hFc (fz_P ht hB9.1) hB9.2
                  refine lv_ldc2 (v := (-1)) hx hb hown (hts (.constantLong RX5 188 (-1)) (by decide +kernel)) dX5_lay_274 ?_
                  have p9 := cj_4_3 (WO hO aO kO hM hQ hw iO_answered iO_searched iO_searchedRelaxed iO_counted fO_countedCase gO_goalNumber gO_goalScale fO_start_x5 fO_column_x5 fO_chosen) (WM hM aM kM iM_stands iM_variables iM_rows iM_goals iM_differents iM_cases fM_from fM_to fM_whole fM_ways iM_plainRows fM_plainRow fM_kept fM_goalOver fM_goalUnder fM_goalMax fM_different) (WQ hQ aQ kQ hw fQ_inside_674 fQ_outside_674 fQ_shut_674 iQ_rows_674 iQ_allRows_674 iQ_columns_674) (WW nW hw lw kw wl_973 wb_973 wG_973)
                  have hPc := hP.mem (fun q h => p9.mem_iff.mpr (List.mem_append_left _ h))
                  have hDc := (hD.perm p9).left
                  have hKc : va_K (dC, dI) vwCl (tW kw) _ := hK.sub [24] rfl
                  have hFc := freeG p9 hD hS hA
                  refine va_callv (va_runV (As := [.long (-1)]) (rest := []) ⟨hx, hb, hml, hown, hts⟩ (m_X8_setLong l dC dI nW hw lw kw wl_973 wb_973 wG_973 kR_975 (-1) b_wl_973 b_wb_973 (by first | with_reducible assumption | omega | (rw [iI_t (by omega) (by omega)]; omega) | decide | assumption) H.size) (cwV 1 hts gwsMX5_lay_2 rfl rfl rfl hd_yX8_setLong_RX8 (by decide +kernel)) (fz_pre (va_recv hK hP (ci := 8) (q0 := 11 + (11 + (5 + (kR_975)))) rfl (apR rfl (apR rfl (apR rfl (WW_o (by omega)))))) hPc hKc hDc) rfl rfl hl.1 rfl (lv_room (Nat.le_of_ble_eq_true rfl)) dX5_lay_277 (by decide +kernel)) hS (fun q _ h => hFc q h) hFc (fun u t9_ H locs ht hvm hw9 hB9 hz1 hk1 hS => ?_)
                  revert u hw9 hB9
                  refine fz_p3 ?_
                  intro wl_976 wb_976 wG_976 hw9 hB9
                  try dsimp only at hw9 hB9
                  revert hw9
                  refine fz_a2 ?_
                  intro b_wl_976 b_wb_976
                  have p8 := cj_4_3 (WO hO aO kO hM hQ hw iO_answered iO_searched iO_searchedRelaxed iO_counted fO_countedCase gO_goalNumber gO_goalScale fO_start_x5 fO_column_x5 fO_chosen) (WM hM aM kM iM_stands iM_variables iM_rows iM_goals iM_differents iM_cases fM_from fM_to fM_whole fM_ways iM_plainRows fM_plainRow fM_kept fM_goalOver fM_goalUnder fM_goalMax fM_different) (WQ hQ aQ kQ hw fQ_inside_674 fQ_outside_674 fQ_shut_674 iQ_rows_674 iQ_allRows_674 iQ_columns_674) (WW nW hw lw kw wl_976 wb_976 wG_976)
                  obtain ⟨hP, hD⟩ := frameG p9 p8 hP hD hk1 hFc (fz_P ht hB9.1) hB9.2
                  refine lv_iinc (v := (iI (l5_x200.toInt + 1))) hx hb dX5_lay_280 hl (k := 1) rfl (iI_add2 (iI_of _) (by decide : (1 : Int32) = iI 1)) (by decide) rfl (fun ls (hl : lv_has ls _ ([(5, .int (iI (l5_x200.toInt + 1))), (6, .int l6_x200), (4, .int k0_j36), (3, .int l3_x5), (0, .ref (hO 0)), (1, .int p1), (2, .int p2)])) => ?_)
                  refine lv_iinc (v := (iI (l6_x200.toInt + 1))) hx hb dX5_lay_283 hl (k := 1) rfl (iI_add2 (iI_of _) (by decide : (1 : Int32) = iI 1)) (by decide) rfl (fun ls (hl : lv_has ls _ ([(6, .int (iI (l6_x200.toInt + 1))), (5, .int (iI (l5_x200.toInt + 1))), (4, .int k0_j36), (3, .int l3_x5), (0, .ref (hO 0)), (1, .int p1), (2, .int p2)])) => ?_)
                  refine lv_goto (tgt := 200) hx hb dX5_lay_286 (by decide) ?_
                  have hl : lv_has _ _ ([(6, .int (iI (l6_x200.toInt + 1))), (5, .int (iI (l5_x200.toInt + 1))), (4, .int k0_j36), (3, .int l3_x5), (0, .ref (hO 0)), (1, .int p1), (2, .int p2)]) := lv_sub hl [0, 1, 2, 3, 4, 5, 6] rfl
                  exact ihx200 wl_976 wb_976 wG_976 (iI (l6_x200.toInt + 1)) (iI (l5_x200.toInt + 1)) _ _ _ b_wl_976 b_wb_976 (iI_rng (Int.le_trans (by decide) (Int.add_le_add (b_l6_x200.1) (Int.le_refl _))) (by omega) (by decide) (by decide)) (iI_rng (Int.le_trans (by decide) (Int.add_le_add (b_l5_x200.1) (Int.le_refl _))) (by omega) (by decide) (by decide)) (show (iI (l5_x200.toInt + 1)).toInt ≤ 12 + (iI (l6_x200.toInt + 1)).toInt from by (try rw [iI_t (E := l3_x5.toInt + 1) (by omega) (by omega)]); (try rw [iI_t (E := l4_x5.toInt + 1) (by omega) (by omega)]); (try rw [iI_t (E := l5_x130.toInt + 1) (by omega) (by omega)]); (try rw [iI_t (E := l6_x130.toInt + 1) (by omega) (by omega)]); (try rw [iI_t (E := l5_x200.toInt + 1) (by omega) (by omega)]); (try rw [iI_t (E := l6_x200.toInt + 1) (by omega) (by omega)]); omega) (by have e9 : ((iI (l6_x200.toInt + 1))).toInt = (l6_x200.toInt + 1) := (iI_t (Int.le_trans (by decide) (Int.add_le_add (b_l6_x200.1) (Int.le_refl _))) (Int.le_trans (Int.add_le_add (b_l6_x200.2) (Int.le_refl _)) (by decide))); omega) hP hD hS hl
          · have t_139 : ¬ l6_x130.toInt ≥ iM_rows.toInt := toI_nge c_139 rfl rfl
            refine lv_iload_n hx hb dX5_lay_142 rfl (lv_at hl 5 rfl) ?_
            refine lv_if_eq (tgt := 160) hx hb dX5_lay_143 (by decide) (fun c_143 => ?_) (fun c_143 => ?_)
            · have t_143 : p1.toInt = 0 := toI_eq c_143 rfl (by decide : (0 : Int32).toInt = 0)
              refine lv_aload_n hx hb dX5_lay_160 rfl (lv_at hl 4 rfl) ?_
              refine lv_iload hx hb dX5_lay_161 (lv_at hl 1 rfl) ?_
              refine lv_iload hx hb dX5_lay_163 (lv_at hl 0 rfl) ?_
              refine lv_iload_n hx hb dX5_lay_165 rfl (lv_at hl 5 rfl) ?_
              refine W.cut (pc := 180) (fun H locs ls stk => ∃ (k0_j41 : Int32), (0 ≤ k0_j41.toInt ∧ k0_j41.toInt ≤ 2) ∧  stk = [.int k0_j41, .int l6_x130, .int l5_x130, .ref (hO 0)] ∧ va_P (dC, dI) vwCl (WO hO aO kO hM hQ hw iO_answered iO_searched iO_searchedRelaxed iO_counted fO_countedCase gO_goalNumber gO_goalScale fO_start_x5 fO_column_x5 fO_chosen ++ (WM hM aM kM iM_stands iM_variables iM_rows iM_goals iM_differents iM_cases fM_from fM_to fM_whole fM_ways iM_plainRows fM_plainRow fM_kept fM_goalOver fM_goalUnder fM_goalMax fM_different ++ (WQ hQ aQ kQ hw fQ_inside_674 fQ_outside_674 fQ_shut_674 iQ_rows_674 iQ_allRows_674 iQ_columns_674 ++ (WW nW hw lw kw wl_x130 wb_x130 wG_x130)))) H ∧ va_D A (WO hO aO kO hM hQ hw iO_answered iO_searched iO_searchedRelaxed iO_counted fO_countedCase gO_goalNumber gO_goalScale fO_start_x5 fO_column_x5 fO_chosen ++ (WM hM aM kM iM_stands iM_variables iM_rows iM_goals iM_differents iM_cases fM_from fM_to fM_whole fM_ways iM_plainRows fM_plainRow fM_kept fM_goalOver fM_goalUnder fM_goalMax fM_different ++ (WQ hQ aQ kQ hw fQ_inside_674 fQ_outside_674 fQ_shut_674 iQ_rows_674 iQ_allRows_674 iQ_columns_674 ++ (WW nW hw lw kw wl_x130 wb_x130 wG_x130)))) ∧ va_S A s.heap H locs ∧ lv_has ls 7 [(6, .int l6_x130), (5, .int l5_x130), (4, .int k0_j36), (3, .int l3_x5), (0, .ref (hO 0)), (1, .int p1), (2, .int p2)]) (fun join41 => ?_) ?_
              · refine lv_if_eq (tgt := 173) hx hb dX5_lay_166 (by decide) (fun c_166 => ?_) (fun c_166 => ?_)
                · have t_166 : p1.toInt = 0 := toI_eq c_166 rfl (by decide : (0 : Int32).toInt = 0)
                  refine lv_aload_n hx hb dX5_lay_173 rfl (lv_at hl 4 rfl) ?_
                  refine va_get (D := (dC, dI)) (ci := 5) (v := .ref (aO 5)) (C := RX5) (T := TX5) (N := 19) hx hb hts iwsMX5_lay_in5 hown hK hP 0 rfl rfl 11 (by decide) (hts _ hm_m_X5_lay_6) (fun _ h9 => h9) rfl dX5_lay_174 ?_
                  refine lv_iload hx hb dX5_lay_177 (lv_at hl 0 rfl) ?_
                  refine va_iald (cA := kO 5) (n := 12) (f := fO_chosen) hx hb hK hP 6 5 rfl rfl (vp_in_iff.mpr ⟨b_l6_x130.1, (by omega)⟩) dX5_lay_179 ?_
                  refine lv_topi (fun v978 hv978 => ?_)
                  have b_v978 : 0 ≤ v978.toInt ∧ v978.toInt ≤ 2 := by rw [hv978]; exact b_fO_chosen _
                  clear hv978
                  have hl : lv_has _ _ ([(6, .int l6_x130), (5, .int l5_x130), (4, .int k0_j36), (3, .int l3_x5), (0, .ref (hO 0)), (1, .int p1), (2, .int p2)]) := lv_sub hl [0, 1, 2, 3, 4, 5, 6] rfl
                  exact join41 _ _ _ _ ⟨v978, (b_v978), rfl, hP, hD, hS, hl⟩
                · have t_166 : ¬ p1.toInt = 0 := toI_neq c_166 rfl (by decide : (0 : Int32).toInt = 0)
                  refine lv_iconst (v := 0) hx hb dX5_lay_169 (by decide) ?_
                  refine lv_goto (tgt := 180) hx hb dX5_lay_170 (by decide) ?_
                  have hl : lv_has _ _ ([(6, .int l6_x130), (5, .int l5_x130), (4, .int k0_j36), (3, .int l3_x5), (0, .ref (hO 0)), (1, .int p1), (2, .int p2)]) := lv_sub hl [0, 1, 2, 3, 4, 5, 6] rfl
                  exact join41 _ _ _ _ ⟨0, (show 0 ≤ (0 : Int32).toInt ∧ (0 : Int32).toInt ≤ 2 from by decide), rfl, hP, hD, hS, hl⟩
              · rintro H locs ls stk ⟨k0_j41, b_k0_j41, rfl, hP, hD, hS, hl⟩
                have hFc := allFree hD hS hA
                refine va_calli (va_runV (As := [.int l5_x130, .int l6_x130, .int k0_j41]) (rest := []) ⟨hx, hb, hml, hown, hts⟩ (m_X5_layWay l dC dI hO aO kO hM hQ hw iO_answered iO_searched iO_searchedRelaxed iO_counted fO_countedCase gO_goalNumber gO_goalScale fO_start_x5 fO_column_x5 fO_chosen aM kM iM_stands iM_variables iM_rows iM_goals iM_differents iM_cases fM_from fM_to fM_whole fM_ways iM_plainRows fM_plainRow fM_kept fM_goalOver fM_goalUnder fM_goalMax fM_different aQ kQ fQ_inside_674 fQ_outside_674 fQ_shut_674 iQ_rows_674 iQ_allRows_674 iQ_columns_674 nW lw kw wl_x130 wb_x130 wG_x130 l5_x130 l6_x130 k0_j41 (b_iO_answered) (b_iO_searched) (b_iO_searchedRelaxed) (b_iO_counted) b_fO_countedCase b_fO_column_x5 b_fO_chosen (b_iM_stands) (b_iM_variables) (b_iM_rows) (b_iM_goals) (b_iM_differents) (b_iM_cases) b_fM_ways (b_iM_plainRows) b_fM_plainRow (by first | with_reducible assumption | omega | assumption) (b_iQ_rows_674) (b_iQ_allRows_674) (b_iQ_columns_674) (by first | with_reducible assumption | omega | assumption) b_wl_x130 b_wb_x130 (⟨b_l5_x130.1, Int.le_trans b_l5_x130.2 (by decide)⟩) (by first | exact b_l6_x130 | with_reducible assumption | exact ⟨by omega, by omega⟩ | assumption) (b_k0_j41) (by omega) (by omega) H.size) (cwV 3 hts gwsMX5_lay_4 rfl rfl rfl hd_yX5_layWay_RX5 (by decide +kernel)) (fz_pre (va_recv hK hP (ci := 5) (q0 := 0) rfl rfl) hP hK hD) rfl rfl hl.1 rfl (lv_room (Nat.le_of_ble_eq_true rfl)) dX5_lay_180 (by decide +kernel)) hS (fun q _ h => hFc q h) hFc (fun r979 u t9_ H locs ht hvm hw9 hB9 hz1 hk1 hS => ?_)
                revert u hw9 hB9
                refine fz_p3 ?_
                intro wl_979 wb_979 wG_979 hw9 hB9
                try dsimp only at hw9 hB9
                revert hw9
                refine fz_a3 ?_
                intro b_wl_979 b_wb_979 b_r979
                have hP : va_P (dC, dI) vwCl (WO hO aO kO hM hQ hw iO_answered iO_searched iO_searchedRelaxed iO_counted fO_countedCase gO_goalNumber gO_goalScale fO_start_x5 fO_column_x5 fO_chosen ++ (WM hM aM kM iM_stands iM_variables iM_rows iM_goals iM_differents iM_cases fM_from fM_to fM_whole fM_ways iM_plainRows fM_plainRow fM_kept fM_goalOver fM_goalUnder fM_goalMax fM_different ++ (WQ hQ aQ kQ hw fQ_inside_674 fQ_outside_674 fQ_shut_674 iQ_rows_674 iQ_allRows_674 iQ_columns_674 ++ (WW nW hw lw kw wl_979 wb_979 wG_979)))) H := fz_P ht hB9.1
                have hD := fz_sd hP (hB9.2.weaken (fun _ q _ h => hFc q.1 h)) rfl
                refine lv_if_ne (tgt := 188) hx hb dX5_lay_183 (by decide) (fun c_183 => ?_) (fun c_183 => ?_)
                · have t_183 : r979.toInt ≠ 0 := toI_ne c_183 rfl (by decide : (0 : Int32).toInt = 0)
                  refine lv_iinc (v := (iI (l5_x130.toInt + 1))) hx hb dX5_lay_188 hl (k := 1) rfl (iI_add2 (iI_of _) (by decide : (1 : Int32) = iI 1)) (by decide) rfl (fun ls (hl : lv_has ls _ ([(5, .int (iI (l5_x130.toInt + 1))), (6, .int l6_x130), (4, .int k0_j36), (3, .int l3_x5), (0, .ref (hO 0)), (1, .int p1), (2, .int p2)])) => ?_)
                  refine lv_iinc (v := (iI (l6_x130.toInt + 1))) hx hb dX5_lay_191 hl (k := 1) rfl (iI_add2 (iI_of _) (by decide : (1 : Int32) = iI 1)) (by decide) rfl (fun ls (hl : lv_has ls _ ([(6, .int (iI (l6_x130.toInt + 1))), (5, .int (iI (l5_x130.toInt + 1))), (4, .int k0_j36), (3, .int l3_x5), (0, .ref (hO 0)), (1, .int p1), (2, .int p2)])) => ?_)
                  refine lv_goto (tgt := 130) hx hb dX5_lay_194 (by decide) ?_
                  have hl : lv_has _ _ ([(6, .int (iI (l6_x130.toInt + 1))), (5, .int (iI (l5_x130.toInt + 1))), (4, .int k0_j36), (3, .int l3_x5), (0, .ref (hO 0)), (1, .int p1), (2, .int p2)]) := lv_sub hl [0, 1, 2, 3, 4, 5, 6] rfl
                  exact ihx130 wl_979 wb_979 wG_979 (iI (l6_x130.toInt + 1)) (iI (l5_x130.toInt + 1)) _ _ _ b_wl_979 b_wb_979 (iI_rng (Int.le_trans (by decide) (Int.add_le_add (b_l6_x130.1) (Int.le_refl _))) (by omega) (by decide) (by decide)) (iI_rng (Int.le_trans (by decide) (Int.add_le_add (b_l5_x130.1) (Int.le_refl _))) (by omega) (by decide) (by decide)) (show (iI (l5_x130.toInt + 1)).toInt ≤ (iI (l6_x130.toInt + 1)).toInt from by (try rw [iI_t (E := l3_x5.toInt + 1) (by omega) (by omega)]); (try rw [iI_t (E := l4_x5.toInt + 1) (by omega) (by omega)]); (try rw [iI_t (E := l5_x130.toInt + 1) (by omega) (by omega)]); (try rw [iI_t (E := l6_x130.toInt + 1) (by omega) (by omega)]); (try rw [iI_t (E := l5_x200.toInt + 1) (by omega) (by omega)]); (try rw [iI_t (E := l6_x200.toInt + 1) (by omega) (by omega)]); omega) (by have e9 : ((iI (l6_x130.toInt + 1))).toInt = (l6_x130.toInt + 1) := (iI_t (Int.le_trans (by decide) (Int.add_le_add (b_l6_x130.1) (Int.le_refl _))) (Int.le_trans (Int.add_le_add (b_l6_x130.2) (Int.le_refl _)) (by decide))); omega) hP hD hS hl
                · have t_183 : r979.toInt = 0 := toI_nne c_183 rfl (by decide : (0 : Int32).toInt = 0)
                  refine lv_iconst (v := 0) hx hb dX5_lay_186 (by decide) ?_
                  refine W.widen (k := 0) (n := 0) (by decide +kernel) (by decide +kernel) ?_
                  exact W.zret (v := 0) hx hb hr rfl (fun t9_ ht hW => ⟨⟨(0 : Int32), (fO_start_x5, fO_column_x5, fQ_inside_674, fQ_outside_674, fQ_shut_674, iQ_rows_674, iQ_allRows_674, iQ_columns_674, wl_979, wb_979, wG_979), rfl, ⟨b_fO_column_x5, b_iQ_rows_674, b_iQ_allRows_674, b_iQ_columns_674, b_wl_979, b_wb_979, (by (try dsimp only); exact (by first | with_reducible assumption | omega | assumption)), (show 0 ≤ (0 : Int32).toInt ∧ (0 : Int32).toInt ≤ 1 from by decide), (by (try dsimp only); omega), (by (try dsimp only); omega)⟩, by rw [ht]; exact hP, hD⟩, hS.F ht⟩) hS.2.2 dX5_lay_187
            · have t_143 : ¬ p1.toInt = 0 := toI_neq c_143 rfl (by decide : (0 : Int32).toInt = 0)
              refine lv_aload_n hx hb dX5_lay_146 rfl (lv_at hl 4 rfl) ?_
              refine va_get (D := (dC, dI)) (ci := 5) (v := .ref (hM 0)) (C := RX5) (T := TX5) (N := 19) hx hb hts iwsMX5_lay_in5 hown hK hP 0 rfl rfl 0 (by decide) (hts _ hm_m_X5_lay_0) (fun _ h9 => h9) rfl dX5_lay_147 ?_
              refine va_get (D := (dC, dI)) (ci := 1) (v := .ref (aM 3)) (C := RX1) (T := TX1) (N := 17) hx hb hts iwsMX5_lay_in1 hown hK hP 11 rfl rfl 9 (by decide) (hts (.fieldLink RX5 134 "OptimaWorks$Model" "ways" "[I") (by decide +kernel)) (fun _ h9 => h9) rfl dX5_lay_150 ?_
              refine lv_iload hx hb dX5_lay_153 (lv_at hl 0 rfl) ?_
              refine va_iald (cA := kM 3) (n := 12) (f := fM_ways) hx hb hK hP 15 13 rfl rfl (vp_in_iff.mpr ⟨b_l6_x130.1, (by omega)⟩) dX5_lay_155 ?_
              refine lv_topi (fun v980 hv980 => ?_)
              have b_v980 : 0 ≤ v980.toInt ∧ v980.toInt ≤ 3 := by rw [hv980]; exact b_fM_ways _
              clear hv980
              refine lv_iconst (v := 1) hx hb dX5_lay_156 (by decide) ?_
              refine lv_icmp_ne (tgt := 191) hx hb dX5_lay_157 (by decide) (fun c_157 => ?_) (fun c_157 => ?_)
              · have t_157 : v980.toInt ≠ 1 := toI_ne c_157 rfl (by decide : (1 : Int32).toInt = 1)
                refine lv_iinc (v := (iI (l6_x130.toInt + 1))) hx hb dX5_lay_191 hl (k := 0) rfl (iI_add2 (iI_of _) (by decide : (1 : Int32) = iI 1)) (by decide) rfl (fun ls (hl : lv_has ls _ ([(6, .int (iI (l6_x130.toInt + 1))), (5, .int l5_x130), (4, .int k0_j36), (3, .int l3_x5), (0, .ref (hO 0)), (1, .int p1), (2, .int p2)])) => ?_)
                refine lv_goto (tgt := 130) hx hb dX5_lay_194 (by decide) ?_
                have hl : lv_has _ _ ([(6, .int (iI (l6_x130.toInt + 1))), (5, .int l5_x130), (4, .int k0_j36), (3, .int l3_x5), (0, .ref (hO 0)), (1, .int p1), (2, .int p2)]) := lv_sub hl [0, 1, 2, 3, 4, 5, 6] rfl
                exact ihx130 wl_x130 wb_x130 wG_x130 (iI (l6_x130.toInt + 1)) l5_x130 _ _ _ b_wl_x130 b_wb_x130 (iI_rng (Int.le_trans (by decide) (Int.add_le_add (b_l6_x130.1) (Int.le_refl _))) (by omega) (by decide) (by decide)) (b_l5_x130) (show l5_x130.toInt ≤ (iI (l6_x130.toInt + 1)).toInt from by (try rw [iI_t (E := l3_x5.toInt + 1) (by omega) (by omega)]); (try rw [iI_t (E := l4_x5.toInt + 1) (by omega) (by omega)]); (try rw [iI_t (E := l5_x130.toInt + 1) (by omega) (by omega)]); (try rw [iI_t (E := l6_x130.toInt + 1) (by omega) (by omega)]); (try rw [iI_t (E := l5_x200.toInt + 1) (by omega) (by omega)]); (try rw [iI_t (E := l6_x200.toInt + 1) (by omega) (by omega)]); omega) (by have e9 : ((iI (l6_x130.toInt + 1))).toInt = (l6_x130.toInt + 1) := (iI_t (Int.le_trans (by decide) (Int.add_le_add (b_l6_x130.1) (Int.le_refl _))) (Int.le_trans (Int.add_le_add (b_l6_x130.2) (Int.le_refl _)) (by decide))); omega) hP hD hS hl
              · have t_157 : v980.toInt = 1 := toI_nne c_157 rfl (by decide : (1 : Int32).toInt = 1)
                refine lv_aload_n hx hb dX5_lay_160 rfl (lv_at hl 4 rfl) ?_
                refine lv_iload hx hb dX5_lay_161 (lv_at hl 1 rfl) ?_
                refine lv_iload hx hb dX5_lay_163 (lv_at hl 0 rfl) ?_
                refine lv_iload_n hx hb dX5_lay_165 rfl (lv_at hl 5 rfl) ?_
                refine W.cut (pc := 180) (fun H locs ls stk => ∃ (k0_j42 : Int32), (0 ≤ k0_j42.toInt ∧ k0_j42.toInt ≤ 2) ∧  stk = [.int k0_j42, .int l6_x130, .int l5_x130, .ref (hO 0)] ∧ va_P (dC, dI) vwCl (WO hO aO kO hM hQ hw iO_answered iO_searched iO_searchedRelaxed iO_counted fO_countedCase gO_goalNumber gO_goalScale fO_start_x5 fO_column_x5 fO_chosen ++ (WM hM aM kM iM_stands iM_variables iM_rows iM_goals iM_differents iM_cases fM_from fM_to fM_whole fM_ways iM_plainRows fM_plainRow fM_kept fM_goalOver fM_goalUnder fM_goalMax fM_different ++ (WQ hQ aQ kQ hw fQ_inside_674 fQ_outside_674 fQ_shut_674 iQ_rows_674 iQ_allRows_674 iQ_columns_674 ++ (WW nW hw lw kw wl_x130 wb_x130 wG_x130)))) H ∧ va_D A (WO hO aO kO hM hQ hw iO_answered iO_searched iO_searchedRelaxed iO_counted fO_countedCase gO_goalNumber gO_goalScale fO_start_x5 fO_column_x5 fO_chosen ++ (WM hM aM kM iM_stands iM_variables iM_rows iM_goals iM_differents iM_cases fM_from fM_to fM_whole fM_ways iM_plainRows fM_plainRow fM_kept fM_goalOver fM_goalUnder fM_goalMax fM_different ++ (WQ hQ aQ kQ hw fQ_inside_674 fQ_outside_674 fQ_shut_674 iQ_rows_674 iQ_allRows_674 iQ_columns_674 ++ (WW nW hw lw kw wl_x130 wb_x130 wG_x130)))) ∧ va_S A s.heap H locs ∧ lv_has ls 7 [(6, .int l6_x130), (5, .int l5_x130), (4, .int k0_j36), (3, .int l3_x5), (0, .ref (hO 0)), (1, .int p1), (2, .int p2)]) (fun join42 => ?_) ?_
                · refine lv_if_eq (tgt := 173) hx hb dX5_lay_166 (by decide) (fun c_166 => ?_) (fun c_166 => ?_)
                  · have t_166 : p1.toInt = 0 := toI_eq c_166 rfl (by decide : (0 : Int32).toInt = 0)
                    refine lv_aload_n hx hb dX5_lay_173 rfl (lv_at hl 4 rfl) ?_
                    refine va_get (D := (dC, dI)) (ci := 5) (v := .ref (aO 5)) (C := RX5) (T := TX5) (N := 19) hx hb hts iwsMX5_lay_in5 hown hK hP 0 rfl rfl 11 (by decide) (hts _ hm_m_X5_lay_6) (fun _ h9 => h9) rfl dX5_lay_174 ?_
                    refine lv_iload hx hb dX5_lay_177 (lv_at hl 0 rfl) ?_
                    refine va_iald (cA := kO 5) (n := 12) (f := fO_chosen) hx hb hK hP 6 5 rfl rfl (vp_in_iff.mpr ⟨b_l6_x130.1, (by omega)⟩) dX5_lay_179 ?_
                    refine lv_topi (fun v982 hv982 => ?_)
                    have b_v982 : 0 ≤ v982.toInt ∧ v982.toInt ≤ 2 := by rw [hv982]; exact b_fO_chosen _
                    clear hv982
                    have hl : lv_has _ _ ([(6, .int l6_x130), (5, .int l5_x130), (4, .int k0_j36), (3, .int l3_x5), (0, .ref (hO 0)), (1, .int p1), (2, .int p2)]) := lv_sub hl [0, 1, 2, 3, 4, 5, 6] rfl
                    exact join42 _ _ _ _ ⟨v982, (b_v982), rfl, hP, hD, hS, hl⟩
                  · have t_166 : ¬ p1.toInt = 0 := toI_neq c_166 rfl (by decide : (0 : Int32).toInt = 0)
                    refine lv_iconst (v := 0) hx hb dX5_lay_169 (by decide) ?_
                    refine lv_goto (tgt := 180) hx hb dX5_lay_170 (by decide) ?_
                    have hl : lv_has _ _ ([(6, .int l6_x130), (5, .int l5_x130), (4, .int k0_j36), (3, .int l3_x5), (0, .ref (hO 0)), (1, .int p1), (2, .int p2)]) := lv_sub hl [0, 1, 2, 3, 4, 5, 6] rfl
                    exact join42 _ _ _ _ ⟨0, (show 0 ≤ (0 : Int32).toInt ∧ (0 : Int32).toInt ≤ 2 from by decide), rfl, hP, hD, hS, hl⟩
                · rintro H locs ls stk ⟨k0_j42, b_k0_j42, rfl, hP, hD, hS, hl⟩
                  have hFc := allFree hD hS hA
                  refine va_calli (va_runV (As := [.int l5_x130, .int l6_x130, .int k0_j42]) (rest := []) ⟨hx, hb, hml, hown, hts⟩ (m_X5_layWay l dC dI hO aO kO hM hQ hw iO_answered iO_searched iO_searchedRelaxed iO_counted fO_countedCase gO_goalNumber gO_goalScale fO_start_x5 fO_column_x5 fO_chosen aM kM iM_stands iM_variables iM_rows iM_goals iM_differents iM_cases fM_from fM_to fM_whole fM_ways iM_plainRows fM_plainRow fM_kept fM_goalOver fM_goalUnder fM_goalMax fM_different aQ kQ fQ_inside_674 fQ_outside_674 fQ_shut_674 iQ_rows_674 iQ_allRows_674 iQ_columns_674 nW lw kw wl_x130 wb_x130 wG_x130 l5_x130 l6_x130 k0_j42 (b_iO_answered) (b_iO_searched) (b_iO_searchedRelaxed) (b_iO_counted) b_fO_countedCase b_fO_column_x5 b_fO_chosen (b_iM_stands) (b_iM_variables) (b_iM_rows) (b_iM_goals) (b_iM_differents) (b_iM_cases) b_fM_ways (b_iM_plainRows) b_fM_plainRow (by first | with_reducible assumption | omega | assumption) (b_iQ_rows_674) (b_iQ_allRows_674) (b_iQ_columns_674) (by first | with_reducible assumption | omega | assumption) b_wl_x130 b_wb_x130 (⟨b_l5_x130.1, Int.le_trans b_l5_x130.2 (by decide)⟩) (by first | exact b_l6_x130 | with_reducible assumption | exact ⟨by omega, by omega⟩ | assumption) (b_k0_j42) (by omega) (by omega) H.size) (cwV 3 hts gwsMX5_lay_4 rfl rfl rfl hd_yX5_layWay_RX5 (by decide +kernel)) (fz_pre (va_recv hK hP (ci := 5) (q0 := 0) rfl rfl) hP hK hD) rfl rfl hl.1 rfl (lv_room (Nat.le_of_ble_eq_true rfl)) dX5_lay_180 (by decide +kernel)) hS (fun q _ h => hFc q h) hFc (fun r983 u t9_ H locs ht hvm hw9 hB9 hz1 hk1 hS => ?_)
                  revert u hw9 hB9
                  refine fz_p3 ?_
                  intro wl_983 wb_983 wG_983 hw9 hB9
                  try dsimp only at hw9 hB9
                  revert hw9
                  refine fz_a3 ?_
                  intro b_wl_983 b_wb_983 b_r983
                  have hP : va_P (dC, dI) vwCl (WO hO aO kO hM hQ hw iO_answered iO_searched iO_searchedRelaxed iO_counted fO_countedCase gO_goalNumber gO_goalScale fO_start_x5 fO_column_x5 fO_chosen ++ (WM hM aM kM iM_stands iM_variables iM_rows iM_goals iM_differents iM_cases fM_from fM_to fM_whole fM_ways iM_plainRows fM_plainRow fM_kept fM_goalOver fM_goalUnder fM_goalMax fM_different ++ (WQ hQ aQ kQ hw fQ_inside_674 fQ_outside_674 fQ_shut_674 iQ_rows_674 iQ_allRows_674 iQ_columns_674 ++ (WW nW hw lw kw wl_983 wb_983 wG_983)))) H := fz_P ht hB9.1
                  have hD := fz_sd hP (hB9.2.weaken (fun _ q _ h => hFc q.1 h)) rfl
                  refine lv_if_ne (tgt := 188) hx hb dX5_lay_183 (by decide) (fun c_183 => ?_) (fun c_183 => ?_)
                  · have t_183 : r983.toInt ≠ 0 := toI_ne c_183 rfl (by decide : (0 : Int32).toInt = 0)
                    refine lv_iinc (v := (iI (l5_x130.toInt + 1))) hx hb dX5_lay_188 hl (k := 1) rfl (iI_add2 (iI_of _) (by decide : (1 : Int32) = iI 1)) (by decide) rfl (fun ls (hl : lv_has ls _ ([(5, .int (iI (l5_x130.toInt + 1))), (6, .int l6_x130), (4, .int k0_j36), (3, .int l3_x5), (0, .ref (hO 0)), (1, .int p1), (2, .int p2)])) => ?_)
                    refine lv_iinc (v := (iI (l6_x130.toInt + 1))) hx hb dX5_lay_191 hl (k := 1) rfl (iI_add2 (iI_of _) (by decide : (1 : Int32) = iI 1)) (by decide) rfl (fun ls (hl : lv_has ls _ ([(6, .int (iI (l6_x130.toInt + 1))), (5, .int (iI (l5_x130.toInt + 1))), (4, .int k0_j36), (3, .int l3_x5), (0, .ref (hO 0)), (1, .int p1), (2, .int p2)])) => ?_)
                    refine lv_goto (tgt := 130) hx hb dX5_lay_194 (by decide) ?_
                    have hl : lv_has _ _ ([(6, .int (iI (l6_x130.toInt + 1))), (5, .int (iI (l5_x130.toInt + 1))), (4, .int k0_j36), (3, .int l3_x5), (0, .ref (hO 0)), (1, .int p1), (2, .int p2)]) := lv_sub hl [0, 1, 2, 3, 4, 5, 6] rfl
                    exact ihx130 wl_983 wb_983 wG_983 (iI (l6_x130.toInt + 1)) (iI (l5_x130.toInt + 1)) _ _ _ b_wl_983 b_wb_983 (iI_rng (Int.le_trans (by decide) (Int.add_le_add (b_l6_x130.1) (Int.le_refl _))) (by omega) (by decide) (by decide)) (iI_rng (Int.le_trans (by decide) (Int.add_le_add (b_l5_x130.1) (Int.le_refl _))) (by omega) (by decide) (by decide)) (show (iI (l5_x130.toInt + 1)).toInt ≤ (iI (l6_x130.toInt + 1)).toInt from by (try rw [iI_t (E := l3_x5.toInt + 1) (by omega) (by omega)]); (try rw [iI_t (E := l4_x5.toInt + 1) (by omega) (by omega)]); (try rw [iI_t (E := l5_x130.toInt + 1) (by omega) (by omega)]); (try rw [iI_t (E := l6_x130.toInt + 1) (by omega) (by omega)]); (try rw [iI_t (E := l5_x200.toInt + 1) (by omega) (by omega)]); (try rw [iI_t (E := l6_x200.toInt + 1) (by omega) (by omega)]); omega) (by have e9 : ((iI (l6_x130.toInt + 1))).toInt = (l6_x130.toInt + 1) := (iI_t (Int.le_trans (by decide) (Int.add_le_add (b_l6_x130.1) (Int.le_refl _))) (Int.le_trans (Int.add_le_add (b_l6_x130.2) (Int.le_refl _)) (by decide))); omega) hP hD hS hl
                  · have t_183 : r983.toInt = 0 := toI_nne c_183 rfl (by decide : (0 : Int32).toInt = 0)
                    refine lv_iconst (v := 0) hx hb dX5_lay_186 (by decide) ?_
                    refine W.widen (k := 0) (n := 0) (by decide +kernel) (by decide +kernel) ?_
                    exact W.zret (v := 0) hx hb hr rfl (fun t9_ ht hW => ⟨⟨(0 : Int32), (fO_start_x5, fO_column_x5, fQ_inside_674, fQ_outside_674, fQ_shut_674, iQ_rows_674, iQ_allRows_674, iQ_columns_674, wl_983, wb_983, wG_983), rfl, ⟨b_fO_column_x5, b_iQ_rows_674, b_iQ_allRows_674, b_iQ_columns_674, b_wl_983, b_wb_983, (by (try dsimp only); exact (by first | with_reducible assumption | omega | assumption)), (show 0 ≤ (0 : Int32).toInt ∧ (0 : Int32).toInt ≤ 1 from by decide), (by (try dsimp only); omega), (by (try dsimp only); omega)⟩, by rw [ht]; exact hP, hD⟩, hS.F ht⟩) hS.2.2 dX5_lay_187
    · have t_14 : ¬ l4_x5.toInt ≥ iM_variables.toInt := toI_nge c_14 rfl rfl
      refine lv_iload_n hx hb dX5_lay_17 rfl (lv_at hl 3 rfl) ?_
      refine lv_if_ne (tgt := 34) hx hb dX5_lay_18 (by decide) (fun c_18 => ?_) (fun c_18 => ?_)
      · have t_18 : p1.toInt ≠ 0 := toI_ne c_18 rfl (by decide : (0 : Int32).toInt = 0)
        refine lv_iconst (v := 1) hx hb dX5_lay_34 (by decide) ?_
        refine lv_goto (tgt := 39) hx hb dX5_lay_35 (by decide) ?_
        refine lv_istore hx hb dX5_lay_39 hl (by decide) rfl (fun ls (hl : lv_has ls _ ([(5, .int 1), (4, .int l4_x5), (3, .int l3_x5), (0, .ref (hO 0)), (1, .int p1), (2, .int p2)])) => ?_)
        refine lv_aload_n hx hb dX5_lay_41 rfl (lv_at hl 3 rfl) ?_
        refine va_get (D := (dC, dI)) (ci := 5) (v := .ref (aO 4)) (C := RX5) (T := TX5) (N := 19) hx hb hts iwsMX5_lay_in5 hown hK hP 0 rfl rfl 10 (by decide) (hts _ hm_m_X5_lay_4) (fun _ h9 => h9) rfl dX5_lay_42 ?_
        refine lv_iload hx hb dX5_lay_45 (lv_at hl 1 rfl) ?_
        refine lv_iload hx hb dX5_lay_47 (lv_at hl 0 rfl) ?_
        refine lv_if_eq (tgt := 59) hx hb dX5_lay_49 (by decide) (fun c9 => absurd c9 (by decide)) (fun _ => ?_)
        refine lv_iinc (v := (iI (l3_x5.toInt + 1))) hx hb dX5_lay_52 hl (k := 2) rfl (iI_add2 (iI_of _) (by decide : (1 : Int32) = iI 1)) (by decide) rfl (fun ls (hl : lv_has ls _ ([(3, .int (iI (l3_x5.toInt + 1))), (5, .int 1), (4, .int l4_x5), (0, .ref (hO 0)), (1, .int p1), (2, .int p2)])) => ?_)
        refine lv_iload_n hx hb dX5_lay_55 rfl (lv_at hl 0 rfl) ?_
        refine lv_goto (tgt := 60) hx hb dX5_lay_56 (by decide) ?_
        refine va_iast (cA := kO 4) (n := 8) (f := fO_column_x5) hx hb hK hP hD hS 5 4 rfl rfl (vp_in_iff.mpr ⟨b_l4_x5.1, (Int.lt_of_lt_of_le (Int.not_le.mp t_14) (Int.le_trans b_iM_variables.2 (by decide)))⟩) dX5_lay_60 (fun H locs hP hD hS => ?_)
        obtain ⟨u984, hu984⟩ : ∃ f9, f9 = upd fO_column_x5 (l4_x5).toNatClampNeg (iI (l3_x5.toInt + 1)) := ⟨_, rfl⟩
        have hP : va_P (dC, dI) vwCl (WO hO aO kO hM hQ hw iO_answered iO_searched iO_searchedRelaxed iO_counted fO_countedCase gO_goalNumber gO_goalScale fO_start_x5 u984 fO_chosen ++ (WM hM aM kM iM_stands iM_variables iM_rows iM_goals iM_differents iM_cases fM_from fM_to fM_whole fM_ways iM_plainRows fM_plainRow fM_kept fM_goalOver fM_goalUnder fM_goalMax fM_different ++ (WQ hQ aQ kQ hw fQ_inside fQ_outside fQ_shut iQ_rows iQ_allRows iQ_columns ++ (WW nW hw lw kw wl wb wG)))) H := by rw [hu984]; exact hP
        have hD : va_D A (WO hO aO kO hM hQ hw iO_answered iO_searched iO_searchedRelaxed iO_counted fO_countedCase gO_goalNumber gO_goalScale fO_start_x5 u984 fO_chosen ++ (WM hM aM kM iM_stands iM_variables iM_rows iM_goals iM_differents iM_cases fM_from fM_to fM_whole fM_ways iM_plainRows fM_plainRow fM_kept fM_goalOver fM_goalUnder fM_goalMax fM_different ++ (WQ hQ aQ kQ hw fQ_inside fQ_outside fQ_shut iQ_rows iQ_allRows iQ_columns ++ (WW nW hw lw kw wl wb wG)))) := by rw [hu984]; exact hD
        have b_u984 : ∀ q : Nat, (-1) ≤ (u984 q).toInt ∧ (u984 q).toInt ≤ 8 := by rw [hu984]; exact upd_r b_fO_column_x5 (iI_rng (Int.le_trans (by decide) (Int.add_le_add (b_l3_x5.1) (Int.le_refl _))) (by omega) (by decide) (by decide))
        clear hu984
        refine lv_iload_n hx hb dX5_lay_61 rfl (lv_at hl 4 rfl) ?_
        refine lv_if_eq (tgt := 82) hx hb dX5_lay_62 (by decide) (fun c_62 => ?_) (fun c_62 => ?_)
        · have t_62 : p1.toInt = 0 := toI_eq c_62 rfl (by decide : (0 : Int32).toInt = 0)
          refine lv_iinc (v := (iI (l4_x5.toInt + 1))) hx hb dX5_lay_82 hl (k := 2) rfl (iI_add2 (iI_of _) (by decide : (1 : Int32) = iI 1)) (by decide) rfl (fun ls (hl : lv_has ls _ ([(4, .int (iI (l4_x5.toInt + 1))), (3, .int (iI (l3_x5.toInt + 1))), (5, .int 1), (0, .ref (hO 0)), (1, .int p1), (2, .int p2)])) => ?_)
          refine lv_goto (tgt := 5) hx hb dX5_lay_85 (by decide) ?_
          have hl : lv_has _ _ ([(4, .int (iI (l4_x5.toInt + 1))), (3, .int (iI (l3_x5.toInt + 1))), (0, .ref (hO 0)), (1, .int p1), (2, .int p2)]) := lv_sub hl [0, 1, 3, 4, 5] rfl
          exact ihx5 fO_start_x5 u984 (iI (l4_x5.toInt + 1)) (iI (l3_x5.toInt + 1)) _ _ _ b_u984 (iI_rng (Int.le_trans (by decide) (Int.add_le_add (b_l4_x5.1) (Int.le_refl _))) (by omega) (by decide) (by decide)) (iI_rng (Int.le_trans (by decide) (Int.add_le_add (b_l3_x5.1) (Int.le_refl _))) (by omega) (by decide) (by decide)) (show (iI (l3_x5.toInt + 1)).toInt ≤ (iI (l4_x5.toInt + 1)).toInt from by (try rw [iI_t (E := l3_x5.toInt + 1) (by omega) (by omega)]); (try rw [iI_t (E := l4_x5.toInt + 1) (by omega) (by omega)]); (try rw [iI_t (E := l5_x130.toInt + 1) (by omega) (by omega)]); (try rw [iI_t (E := l6_x130.toInt + 1) (by omega) (by omega)]); (try rw [iI_t (E := l5_x200.toInt + 1) (by omega) (by omega)]); (try rw [iI_t (E := l6_x200.toInt + 1) (by omega) (by omega)]); omega) (by have e9 : ((iI (l4_x5.toInt + 1))).toInt = (l4_x5.toInt + 1) := (iI_t (Int.le_trans (by decide) (Int.add_le_add (b_l4_x5.1) (Int.le_refl _))) (Int.le_trans (Int.add_le_add (b_l4_x5.2) (Int.le_refl _)) (by decide))); omega) hP hD hS hl
        · have t_62 : ¬ p1.toInt = 0 := toI_neq c_62 rfl (by decide : (0 : Int32).toInt = 0)
          refine lv_aload_n hx hb dX5_lay_65 rfl (lv_at hl 3 rfl) ?_
          refine va_get (D := (dC, dI)) (ci := 5) (v := .ref (aO 3)) (C := RX5) (T := TX5) (N := 19) hx hb hts iwsMX5_lay_in5 hown hK hP 0 rfl rfl 9 (by decide) (hts _ hm_m_X5_lay_7) (fun _ h9 => h9) rfl dX5_lay_66 ?_
          refine lv_iload hx hb dX5_lay_69 (lv_at hl 2 rfl) ?_
          refine lv_aload_n hx hb dX5_lay_71 rfl (lv_at hl 3 rfl) ?_
          refine va_get (D := (dC, dI)) (ci := 5) (v := .ref (hM 0)) (C := RX5) (T := TX5) (N := 19) hx hb hts iwsMX5_lay_in5 hown hK hP 0 rfl rfl 0 (by decide) (hts _ hm_m_X5_lay_0) (fun _ h9 => h9) rfl dX5_lay_72 ?_
          refine va_get (D := (dC, dI)) (ci := 1) (v := .ref (aM 0)) (C := RX1) (T := TX1) (N := 17) hx hb hts iwsMX5_lay_in1 hown hK hP 11 rfl rfl 6 (by decide) (hts _ hm_m_X5_lay_5) (fun _ h9 => h9) rfl dX5_lay_75 ?_
          refine lv_iload hx hb dX5_lay_78 (lv_at hl 2 rfl) ?_
          refine va_iald (cA := kM 0) (n := 8) (f := fM_from) hx hb hK hP 12 10 rfl rfl (vp_in_iff.mpr ⟨b_l4_x5.1, (Int.lt_of_lt_of_le (Int.not_le.mp t_14) (Int.le_trans b_iM_variables.2 (by decide)))⟩) dX5_lay_80 ?_
          refine lv_topi (fun v985 hv985 => ?_)
          clear hv985
          refine va_iast (cA := kO 3) (n := 8) (f := fO_start_x5) hx hb hK hP hD hS 4 3 rfl rfl (vp_in_iff.mpr ⟨b_l4_x5.1, (Int.lt_of_lt_of_le (Int.not_le.mp t_14) (Int.le_trans b_iM_variables.2 (by decide)))⟩) dX5_lay_81 (fun H locs hP hD hS => ?_)
          obtain ⟨u986, hu986⟩ : ∃ f9, f9 = upd fO_start_x5 (l4_x5).toNatClampNeg v985 := ⟨_, rfl⟩
          have hP : va_P (dC, dI) vwCl (WO hO aO kO hM hQ hw iO_answered iO_searched iO_searchedRelaxed iO_counted fO_countedCase gO_goalNumber gO_goalScale u986 u984 fO_chosen ++ (WM hM aM kM iM_stands iM_variables iM_rows iM_goals iM_differents iM_cases fM_from fM_to fM_whole fM_ways iM_plainRows fM_plainRow fM_kept fM_goalOver fM_goalUnder fM_goalMax fM_different ++ (WQ hQ aQ kQ hw fQ_inside fQ_outside fQ_shut iQ_rows iQ_allRows iQ_columns ++ (WW nW hw lw kw wl wb wG)))) H := by rw [hu986]; exact hP
          have hD : va_D A (WO hO aO kO hM hQ hw iO_answered iO_searched iO_searchedRelaxed iO_counted fO_countedCase gO_goalNumber gO_goalScale u986 u984 fO_chosen ++ (WM hM aM kM iM_stands iM_variables iM_rows iM_goals iM_differents iM_cases fM_from fM_to fM_whole fM_ways iM_plainRows fM_plainRow fM_kept fM_goalOver fM_goalUnder fM_goalMax fM_different ++ (WQ hQ aQ kQ hw fQ_inside fQ_outside fQ_shut iQ_rows iQ_allRows iQ_columns ++ (WW nW hw lw kw wl wb wG)))) := by rw [hu986]; exact hD
          clear hu986
          refine lv_iinc (v := (iI (l4_x5.toInt + 1))) hx hb dX5_lay_82 hl (k := 2) rfl (iI_add2 (iI_of _) (by decide : (1 : Int32) = iI 1)) (by decide) rfl (fun ls (hl : lv_has ls _ ([(4, .int (iI (l4_x5.toInt + 1))), (3, .int (iI (l3_x5.toInt + 1))), (5, .int 1), (0, .ref (hO 0)), (1, .int p1), (2, .int p2)])) => ?_)
          refine lv_goto (tgt := 5) hx hb dX5_lay_85 (by decide) ?_
          have hl : lv_has _ _ ([(4, .int (iI (l4_x5.toInt + 1))), (3, .int (iI (l3_x5.toInt + 1))), (0, .ref (hO 0)), (1, .int p1), (2, .int p2)]) := lv_sub hl [0, 1, 3, 4, 5] rfl
          exact ihx5 u986 u984 (iI (l4_x5.toInt + 1)) (iI (l3_x5.toInt + 1)) _ _ _ b_u984 (iI_rng (Int.le_trans (by decide) (Int.add_le_add (b_l4_x5.1) (Int.le_refl _))) (by omega) (by decide) (by decide)) (iI_rng (Int.le_trans (by decide) (Int.add_le_add (b_l3_x5.1) (Int.le_refl _))) (by omega) (by decide) (by decide)) (show (iI (l3_x5.toInt + 1)).toInt ≤ (iI (l4_x5.toInt + 1)).toInt from by (try rw [iI_t (E := l3_x5.toInt + 1) (by omega) (by omega)]); (try rw [iI_t (E := l4_x5.toInt + 1) (by omega) (by omega)]); (try rw [iI_t (E := l5_x130.toInt + 1) (by omega) (by omega)]); (try rw [iI_t (E := l6_x130.toInt + 1) (by omega) (by omega)]); (try rw [iI_t (E := l5_x200.toInt + 1) (by omega) (by omega)]); (try rw [iI_t (E := l6_x200.toInt + 1) (by omega) (by omega)]); omega) (by have e9 : ((iI (l4_x5.toInt + 1))).toInt = (l4_x5.toInt + 1) := (iI_t (Int.le_trans (by decide) (Int.add_le_add (b_l4_x5.1) (Int.le_refl _))) (Int.le_trans (Int.add_le_add (b_l4_x5.2) (Int.le_refl _)) (by decide))); omega) hP hD hS hl
      · have t_18 : p1.toInt = 0 := toI_nne c_18 rfl (by decide : (0 : Int32).toInt = 0)
        refine lv_aload_n hx hb dX5_lay_21 rfl (lv_at hl 2 rfl) ?_
        refine va_get (D := (dC, dI)) (ci := 5) (v := .ref (hM 0)) (C := RX5) (T := TX5) (N := 19) hx hb hts iwsMX5_lay_in5 hown hK hP 0 rfl rfl 0 (by decide) (hts _ hm_m_X5_lay_0) (fun _ h9 => h9) rfl dX5_lay_22 ?_
        refine va_get (D := (dC, dI)) (ci := 1) (v := .ref (aM 2)) (C := RX1) (T := TX1) (N := 17) hx hb hts iwsMX5_lay_in1 hown hK hP 11 rfl rfl 8 (by decide) (hts (.fieldLink RX5 143 "OptimaWorks$Model" "whole" "[Z") (by decide +kernel)) (fun _ h9 => h9) rfl dX5_lay_25 ?_
        refine lv_iload hx hb dX5_lay_28 (lv_at hl 0 rfl) ?_
        refine va_zald (cA := kM 2) (n := 8) (f := fM_whole) hx hb hK hP 14 12 rfl rfl (vp_in_iff.mpr ⟨b_l4_x5.1, (Int.lt_of_lt_of_le (Int.not_le.mp t_14) (Int.le_trans b_iM_variables.2 (by decide)))⟩) dX5_lay_30 ?_
        refine lv_topi (fun v987 hv987 => ?_)
        clear hv987
        refine lv_if_ne (tgt := 38) hx hb dX5_lay_31 (by decide) (fun c_31 => ?_) (fun c_31 => ?_)
        · have t_31 : v987.toInt ≠ 0 := toI_ne c_31 rfl (by decide : (0 : Int32).toInt = 0)
          refine lv_iconst (v := 0) hx hb dX5_lay_38 (by decide) ?_
          refine lv_istore hx hb dX5_lay_39 hl (by decide) rfl (fun ls (hl : lv_has ls _ ([(5, .int 0), (4, .int l4_x5), (3, .int l3_x5), (0, .ref (hO 0)), (1, .int p1), (2, .int p2)])) => ?_)
          refine lv_aload_n hx hb dX5_lay_41 rfl (lv_at hl 3 rfl) ?_
          refine va_get (D := (dC, dI)) (ci := 5) (v := .ref (aO 4)) (C := RX5) (T := TX5) (N := 19) hx hb hts iwsMX5_lay_in5 hown hK hP 0 rfl rfl 10 (by decide) (hts _ hm_m_X5_lay_4) (fun _ h9 => h9) rfl dX5_lay_42 ?_
          refine lv_iload hx hb dX5_lay_45 (lv_at hl 1 rfl) ?_
          refine lv_iload hx hb dX5_lay_47 (lv_at hl 0 rfl) ?_
          refine lv_if_eq (tgt := 59) hx hb dX5_lay_49 (by decide) (fun _ => ?_) (fun c9 => absurd (by decide) c9)
          refine lv_iconst (v := (-1)) hx hb dX5_lay_59 (by decide) ?_
          refine va_iast (cA := kO 4) (n := 8) (f := fO_column_x5) hx hb hK hP hD hS 5 4 rfl rfl (vp_in_iff.mpr ⟨b_l4_x5.1, (Int.lt_of_lt_of_le (Int.not_le.mp t_14) (Int.le_trans b_iM_variables.2 (by decide)))⟩) dX5_lay_60 (fun H locs hP hD hS => ?_)
          obtain ⟨u988, hu988⟩ : ∃ f9, f9 = upd fO_column_x5 (l4_x5).toNatClampNeg ((-1) : Int32) := ⟨_, rfl⟩
          have hP : va_P (dC, dI) vwCl (WO hO aO kO hM hQ hw iO_answered iO_searched iO_searchedRelaxed iO_counted fO_countedCase gO_goalNumber gO_goalScale fO_start_x5 u988 fO_chosen ++ (WM hM aM kM iM_stands iM_variables iM_rows iM_goals iM_differents iM_cases fM_from fM_to fM_whole fM_ways iM_plainRows fM_plainRow fM_kept fM_goalOver fM_goalUnder fM_goalMax fM_different ++ (WQ hQ aQ kQ hw fQ_inside fQ_outside fQ_shut iQ_rows iQ_allRows iQ_columns ++ (WW nW hw lw kw wl wb wG)))) H := by rw [hu988]; exact hP
          have hD : va_D A (WO hO aO kO hM hQ hw iO_answered iO_searched iO_searchedRelaxed iO_counted fO_countedCase gO_goalNumber gO_goalScale fO_start_x5 u988 fO_chosen ++ (WM hM aM kM iM_stands iM_variables iM_rows iM_goals iM_differents iM_cases fM_from fM_to fM_whole fM_ways iM_plainRows fM_plainRow fM_kept fM_goalOver fM_goalUnder fM_goalMax fM_different ++ (WQ hQ aQ kQ hw fQ_inside fQ_outside fQ_shut iQ_rows iQ_allRows iQ_columns ++ (WW nW hw lw kw wl wb wG)))) := by rw [hu988]; exact hD
          have b_u988 : ∀ q : Nat, (-1) ≤ (u988 q).toInt ∧ (u988 q).toInt ≤ 8 := by rw [hu988]; exact upd_r b_fO_column_x5 (show (-1) ≤ ((-1) : Int32).toInt ∧ ((-1) : Int32).toInt ≤ 8 from by decide)
          clear hu988
          refine lv_iload_n hx hb dX5_lay_61 rfl (lv_at hl 4 rfl) ?_
          refine lv_if_eq (tgt := 82) hx hb dX5_lay_62 (by decide) (fun c_62 => ?_) (fun c_62 => ?_)
          · have t_62 : p1.toInt = 0 := toI_eq c_62 rfl (by decide : (0 : Int32).toInt = 0)
            refine lv_iinc (v := (iI (l4_x5.toInt + 1))) hx hb dX5_lay_82 hl (k := 1) rfl (iI_add2 (iI_of _) (by decide : (1 : Int32) = iI 1)) (by decide) rfl (fun ls (hl : lv_has ls _ ([(4, .int (iI (l4_x5.toInt + 1))), (5, .int 0), (3, .int l3_x5), (0, .ref (hO 0)), (1, .int p1), (2, .int p2)])) => ?_)
            refine lv_goto (tgt := 5) hx hb dX5_lay_85 (by decide) ?_
            have hl : lv_has _ _ ([(4, .int (iI (l4_x5.toInt + 1))), (3, .int l3_x5), (0, .ref (hO 0)), (1, .int p1), (2, .int p2)]) := lv_sub hl [0, 2, 3, 4, 5] rfl
            exact ihx5 fO_start_x5 u988 (iI (l4_x5.toInt + 1)) l3_x5 _ _ _ b_u988 (iI_rng (Int.le_trans (by decide) (Int.add_le_add (b_l4_x5.1) (Int.le_refl _))) (by omega) (by decide) (by decide)) (b_l3_x5) (show l3_x5.toInt ≤ (iI (l4_x5.toInt + 1)).toInt from by (try rw [iI_t (E := l3_x5.toInt + 1) (by omega) (by omega)]); (try rw [iI_t (E := l4_x5.toInt + 1) (by omega) (by omega)]); (try rw [iI_t (E := l5_x130.toInt + 1) (by omega) (by omega)]); (try rw [iI_t (E := l6_x130.toInt + 1) (by omega) (by omega)]); (try rw [iI_t (E := l5_x200.toInt + 1) (by omega) (by omega)]); (try rw [iI_t (E := l6_x200.toInt + 1) (by omega) (by omega)]); omega) (by have e9 : ((iI (l4_x5.toInt + 1))).toInt = (l4_x5.toInt + 1) := (iI_t (Int.le_trans (by decide) (Int.add_le_add (b_l4_x5.1) (Int.le_refl _))) (Int.le_trans (Int.add_le_add (b_l4_x5.2) (Int.le_refl _)) (by decide))); omega) hP hD hS hl
          · have t_62 : ¬ p1.toInt = 0 := toI_neq c_62 rfl (by decide : (0 : Int32).toInt = 0)
            refine lv_aload_n hx hb dX5_lay_65 rfl (lv_at hl 3 rfl) ?_
            refine va_get (D := (dC, dI)) (ci := 5) (v := .ref (aO 3)) (C := RX5) (T := TX5) (N := 19) hx hb hts iwsMX5_lay_in5 hown hK hP 0 rfl rfl 9 (by decide) (hts _ hm_m_X5_lay_7) (fun _ h9 => h9) rfl dX5_lay_66 ?_
            refine lv_iload hx hb dX5_lay_69 (lv_at hl 1 rfl) ?_
            refine lv_aload_n hx hb dX5_lay_71 rfl (lv_at hl 3 rfl) ?_
            refine va_get (D := (dC, dI)) (ci := 5) (v := .ref (hM 0)) (C := RX5) (T := TX5) (N := 19) hx hb hts iwsMX5_lay_in5 hown hK hP 0 rfl rfl 0 (by decide) (hts _ hm_m_X5_lay_0) (fun _ h9 => h9) rfl dX5_lay_72 ?_
            refine va_get (D := (dC, dI)) (ci := 1) (v := .ref (aM 0)) (C := RX1) (T := TX1) (N := 17) hx hb hts iwsMX5_lay_in1 hown hK hP 11 rfl rfl 6 (by decide) (hts _ hm_m_X5_lay_5) (fun _ h9 => h9) rfl dX5_lay_75 ?_
            refine lv_iload hx hb dX5_lay_78 (lv_at hl 1 rfl) ?_
            refine va_iald (cA := kM 0) (n := 8) (f := fM_from) hx hb hK hP 12 10 rfl rfl (vp_in_iff.mpr ⟨b_l4_x5.1, (Int.lt_of_lt_of_le (Int.not_le.mp t_14) (Int.le_trans b_iM_variables.2 (by decide)))⟩) dX5_lay_80 ?_
            refine lv_topi (fun v989 hv989 => ?_)
            clear hv989
            refine va_iast (cA := kO 3) (n := 8) (f := fO_start_x5) hx hb hK hP hD hS 4 3 rfl rfl (vp_in_iff.mpr ⟨b_l4_x5.1, (Int.lt_of_lt_of_le (Int.not_le.mp t_14) (Int.le_trans b_iM_variables.2 (by decide)))⟩) dX5_lay_81 (fun H locs hP hD hS => ?_)
            obtain ⟨u990, hu990⟩ : ∃ f9, f9 = upd fO_start_x5 (l4_x5).toNatClampNeg v989 := ⟨_, rfl⟩
            have hP : va_P (dC, dI) vwCl (WO hO aO kO hM hQ hw iO_answered iO_searched iO_searchedRelaxed iO_counted fO_countedCase gO_goalNumber gO_goalScale u990 u988 fO_chosen ++ (WM hM aM kM iM_stands iM_variables iM_rows iM_goals iM_differents iM_cases fM_from fM_to fM_whole fM_ways iM_plainRows fM_plainRow fM_kept fM_goalOver fM_goalUnder fM_goalMax fM_different ++ (WQ hQ aQ kQ hw fQ_inside fQ_outside fQ_shut iQ_rows iQ_allRows iQ_columns ++ (WW nW hw lw kw wl wb wG)))) H := by rw [hu990]; exact hP
            have hD : va_D A (WO hO aO kO hM hQ hw iO_answered iO_searched iO_searchedRelaxed iO_counted fO_countedCase gO_goalNumber gO_goalScale u990 u988 fO_chosen ++ (WM hM aM kM iM_stands iM_variables iM_rows iM_goals iM_differents iM_cases fM_from fM_to fM_whole fM_ways iM_plainRows fM_plainRow fM_kept fM_goalOver fM_goalUnder fM_goalMax fM_different ++ (WQ hQ aQ kQ hw fQ_inside fQ_outside fQ_shut iQ_rows iQ_allRows iQ_columns ++ (WW nW hw lw kw wl wb wG)))) := by rw [hu990]; exact hD
            clear hu990
            refine lv_iinc (v := (iI (l4_x5.toInt + 1))) hx hb dX5_lay_82 hl (k := 1) rfl (iI_add2 (iI_of _) (by decide : (1 : Int32) = iI 1)) (by decide) rfl (fun ls (hl : lv_has ls _ ([(4, .int (iI (l4_x5.toInt + 1))), (5, .int 0), (3, .int l3_x5), (0, .ref (hO 0)), (1, .int p1), (2, .int p2)])) => ?_)
            refine lv_goto (tgt := 5) hx hb dX5_lay_85 (by decide) ?_
            have hl : lv_has _ _ ([(4, .int (iI (l4_x5.toInt + 1))), (3, .int l3_x5), (0, .ref (hO 0)), (1, .int p1), (2, .int p2)]) := lv_sub hl [0, 2, 3, 4, 5] rfl
            exact ihx5 u990 u988 (iI (l4_x5.toInt + 1)) l3_x5 _ _ _ b_u988 (iI_rng (Int.le_trans (by decide) (Int.add_le_add (b_l4_x5.1) (Int.le_refl _))) (by omega) (by decide) (by decide)) (b_l3_x5) (show l3_x5.toInt ≤ (iI (l4_x5.toInt + 1)).toInt from by (try rw [iI_t (E := l3_x5.toInt + 1) (by omega) (by omega)]); (try rw [iI_t (E := l4_x5.toInt + 1) (by omega) (by omega)]); (try rw [iI_t (E := l5_x130.toInt + 1) (by omega) (by omega)]); (try rw [iI_t (E := l6_x130.toInt + 1) (by omega) (by omega)]); (try rw [iI_t (E := l5_x200.toInt + 1) (by omega) (by omega)]); (try rw [iI_t (E := l6_x200.toInt + 1) (by omega) (by omega)]); omega) (by have e9 : ((iI (l4_x5.toInt + 1))).toInt = (l4_x5.toInt + 1) := (iI_t (Int.le_trans (by decide) (Int.add_le_add (b_l4_x5.1) (Int.le_refl _))) (Int.le_trans (Int.add_le_add (b_l4_x5.2) (Int.le_refl _)) (by decide))); omega) hP hD hS hl
        · have t_31 : v987.toInt = 0 := toI_nne c_31 rfl (by decide : (0 : Int32).toInt = 0)
          refine lv_iconst (v := 1) hx hb dX5_lay_34 (by decide) ?_
          refine lv_goto (tgt := 39) hx hb dX5_lay_35 (by decide) ?_
          refine lv_istore hx hb dX5_lay_39 hl (by decide) rfl (fun ls (hl : lv_has ls _ ([(5, .int 1), (4, .int l4_x5), (3, .int l3_x5), (0, .ref (hO 0)), (1, .int p1), (2, .int p2)])) => ?_)
          refine lv_aload_n hx hb dX5_lay_41 rfl (lv_at hl 3 rfl) ?_
          refine va_get (D := (dC, dI)) (ci := 5) (v := .ref (aO 4)) (C := RX5) (T := TX5) (N := 19) hx hb hts iwsMX5_lay_in5 hown hK hP 0 rfl rfl 10 (by decide) (hts _ hm_m_X5_lay_4) (fun _ h9 => h9) rfl dX5_lay_42 ?_
          refine lv_iload hx hb dX5_lay_45 (lv_at hl 1 rfl) ?_
          refine lv_iload hx hb dX5_lay_47 (lv_at hl 0 rfl) ?_
          refine lv_if_eq (tgt := 59) hx hb dX5_lay_49 (by decide) (fun c9 => absurd c9 (by decide)) (fun _ => ?_)
          refine lv_iinc (v := (iI (l3_x5.toInt + 1))) hx hb dX5_lay_52 hl (k := 2) rfl (iI_add2 (iI_of _) (by decide : (1 : Int32) = iI 1)) (by decide) rfl (fun ls (hl : lv_has ls _ ([(3, .int (iI (l3_x5.toInt + 1))), (5, .int 1), (4, .int l4_x5), (0, .ref (hO 0)), (1, .int p1), (2, .int p2)])) => ?_)
          refine lv_iload_n hx hb dX5_lay_55 rfl (lv_at hl 0 rfl) ?_
          refine lv_goto (tgt := 60) hx hb dX5_lay_56 (by decide) ?_
          refine va_iast (cA := kO 4) (n := 8) (f := fO_column_x5) hx hb hK hP hD hS 5 4 rfl rfl (vp_in_iff.mpr ⟨b_l4_x5.1, (Int.lt_of_lt_of_le (Int.not_le.mp t_14) (Int.le_trans b_iM_variables.2 (by decide)))⟩) dX5_lay_60 (fun H locs hP hD hS => ?_)
          obtain ⟨u991, hu991⟩ : ∃ f9, f9 = upd fO_column_x5 (l4_x5).toNatClampNeg (iI (l3_x5.toInt + 1)) := ⟨_, rfl⟩
          have hP : va_P (dC, dI) vwCl (WO hO aO kO hM hQ hw iO_answered iO_searched iO_searchedRelaxed iO_counted fO_countedCase gO_goalNumber gO_goalScale fO_start_x5 u991 fO_chosen ++ (WM hM aM kM iM_stands iM_variables iM_rows iM_goals iM_differents iM_cases fM_from fM_to fM_whole fM_ways iM_plainRows fM_plainRow fM_kept fM_goalOver fM_goalUnder fM_goalMax fM_different ++ (WQ hQ aQ kQ hw fQ_inside fQ_outside fQ_shut iQ_rows iQ_allRows iQ_columns ++ (WW nW hw lw kw wl wb wG)))) H := by rw [hu991]; exact hP
          have hD : va_D A (WO hO aO kO hM hQ hw iO_answered iO_searched iO_searchedRelaxed iO_counted fO_countedCase gO_goalNumber gO_goalScale fO_start_x5 u991 fO_chosen ++ (WM hM aM kM iM_stands iM_variables iM_rows iM_goals iM_differents iM_cases fM_from fM_to fM_whole fM_ways iM_plainRows fM_plainRow fM_kept fM_goalOver fM_goalUnder fM_goalMax fM_different ++ (WQ hQ aQ kQ hw fQ_inside fQ_outside fQ_shut iQ_rows iQ_allRows iQ_columns ++ (WW nW hw lw kw wl wb wG)))) := by rw [hu991]; exact hD
          have b_u991 : ∀ q : Nat, (-1) ≤ (u991 q).toInt ∧ (u991 q).toInt ≤ 8 := by rw [hu991]; exact upd_r b_fO_column_x5 (iI_rng (Int.le_trans (by decide) (Int.add_le_add (b_l3_x5.1) (Int.le_refl _))) (by omega) (by decide) (by decide))
          clear hu991
          refine lv_iload_n hx hb dX5_lay_61 rfl (lv_at hl 4 rfl) ?_
          refine lv_if_eq (tgt := 82) hx hb dX5_lay_62 (by decide) (fun c_62 => ?_) (fun c_62 => ?_)
          · have t_62 : p1.toInt = 0 := toI_eq c_62 rfl (by decide : (0 : Int32).toInt = 0)
            refine lv_iinc (v := (iI (l4_x5.toInt + 1))) hx hb dX5_lay_82 hl (k := 2) rfl (iI_add2 (iI_of _) (by decide : (1 : Int32) = iI 1)) (by decide) rfl (fun ls (hl : lv_has ls _ ([(4, .int (iI (l4_x5.toInt + 1))), (3, .int (iI (l3_x5.toInt + 1))), (5, .int 1), (0, .ref (hO 0)), (1, .int p1), (2, .int p2)])) => ?_)
            refine lv_goto (tgt := 5) hx hb dX5_lay_85 (by decide) ?_
            have hl : lv_has _ _ ([(4, .int (iI (l4_x5.toInt + 1))), (3, .int (iI (l3_x5.toInt + 1))), (0, .ref (hO 0)), (1, .int p1), (2, .int p2)]) := lv_sub hl [0, 1, 3, 4, 5] rfl
            exact ihx5 fO_start_x5 u991 (iI (l4_x5.toInt + 1)) (iI (l3_x5.toInt + 1)) _ _ _ b_u991 (iI_rng (Int.le_trans (by decide) (Int.add_le_add (b_l4_x5.1) (Int.le_refl _))) (by omega) (by decide) (by decide)) (iI_rng (Int.le_trans (by decide) (Int.add_le_add (b_l3_x5.1) (Int.le_refl _))) (by omega) (by decide) (by decide)) (show (iI (l3_x5.toInt + 1)).toInt ≤ (iI (l4_x5.toInt + 1)).toInt from by (try rw [iI_t (E := l3_x5.toInt + 1) (by omega) (by omega)]); (try rw [iI_t (E := l4_x5.toInt + 1) (by omega) (by omega)]); (try rw [iI_t (E := l5_x130.toInt + 1) (by omega) (by omega)]); (try rw [iI_t (E := l6_x130.toInt + 1) (by omega) (by omega)]); (try rw [iI_t (E := l5_x200.toInt + 1) (by omega) (by omega)]); (try rw [iI_t (E := l6_x200.toInt + 1) (by omega) (by omega)]); omega) (by have e9 : ((iI (l4_x5.toInt + 1))).toInt = (l4_x5.toInt + 1) := (iI_t (Int.le_trans (by decide) (Int.add_le_add (b_l4_x5.1) (Int.le_refl _))) (Int.le_trans (Int.add_le_add (b_l4_x5.2) (Int.le_refl _)) (by decide))); omega) hP hD hS hl
          · have t_62 : ¬ p1.toInt = 0 := toI_neq c_62 rfl (by decide : (0 : Int32).toInt = 0)
            refine lv_aload_n hx hb dX5_lay_65 rfl (lv_at hl 3 rfl) ?_
            refine va_get (D := (dC, dI)) (ci := 5) (v := .ref (aO 3)) (C := RX5) (T := TX5) (N := 19) hx hb hts iwsMX5_lay_in5 hown hK hP 0 rfl rfl 9 (by decide) (hts _ hm_m_X5_lay_7) (fun _ h9 => h9) rfl dX5_lay_66 ?_
            refine lv_iload hx hb dX5_lay_69 (lv_at hl 2 rfl) ?_
            refine lv_aload_n hx hb dX5_lay_71 rfl (lv_at hl 3 rfl) ?_
            refine va_get (D := (dC, dI)) (ci := 5) (v := .ref (hM 0)) (C := RX5) (T := TX5) (N := 19) hx hb hts iwsMX5_lay_in5 hown hK hP 0 rfl rfl 0 (by decide) (hts _ hm_m_X5_lay_0) (fun _ h9 => h9) rfl dX5_lay_72 ?_
            refine va_get (D := (dC, dI)) (ci := 1) (v := .ref (aM 0)) (C := RX1) (T := TX1) (N := 17) hx hb hts iwsMX5_lay_in1 hown hK hP 11 rfl rfl 6 (by decide) (hts _ hm_m_X5_lay_5) (fun _ h9 => h9) rfl dX5_lay_75 ?_
            refine lv_iload hx hb dX5_lay_78 (lv_at hl 2 rfl) ?_
            refine va_iald (cA := kM 0) (n := 8) (f := fM_from) hx hb hK hP 12 10 rfl rfl (vp_in_iff.mpr ⟨b_l4_x5.1, (Int.lt_of_lt_of_le (Int.not_le.mp t_14) (Int.le_trans b_iM_variables.2 (by decide)))⟩) dX5_lay_80 ?_
            refine lv_topi (fun v992 hv992 => ?_)
            clear hv992
            refine va_iast (cA := kO 3) (n := 8) (f := fO_start_x5) hx hb hK hP hD hS 4 3 rfl rfl (vp_in_iff.mpr ⟨b_l4_x5.1, (Int.lt_of_lt_of_le (Int.not_le.mp t_14) (Int.le_trans b_iM_variables.2 (by decide)))⟩) dX5_lay_81 (fun H locs hP hD hS => ?_)
            obtain ⟨u993, hu993⟩ : ∃ f9, f9 = upd fO_start_x5 (l4_x5).toNatClampNeg v992 := ⟨_, rfl⟩
            have hP : va_P (dC, dI) vwCl (WO hO aO kO hM hQ hw iO_answered iO_searched iO_searchedRelaxed iO_counted fO_countedCase gO_goalNumber gO_goalScale u993 u991 fO_chosen ++ (WM hM aM kM iM_stands iM_variables iM_rows iM_goals iM_differents iM_cases fM_from fM_to fM_whole fM_ways iM_plainRows fM_plainRow fM_kept fM_goalOver fM_goalUnder fM_goalMax fM_different ++ (WQ hQ aQ kQ hw fQ_inside fQ_outside fQ_shut iQ_rows iQ_allRows iQ_columns ++ (WW nW hw lw kw wl wb wG)))) H := by rw [hu993]; exact hP
            have hD : va_D A (WO hO aO kO hM hQ hw iO_answered iO_searched iO_searchedRelaxed iO_counted fO_countedCase gO_goalNumber gO_goalScale u993 u991 fO_chosen ++ (WM hM aM kM iM_stands iM_variables iM_rows iM_goals iM_differents iM_cases fM_from fM_to fM_whole fM_ways iM_plainRows fM_plainRow fM_kept fM_goalOver fM_goalUnder fM_goalMax fM_different ++ (WQ hQ aQ kQ hw fQ_inside fQ_outside fQ_shut iQ_rows iQ_allRows iQ_columns ++ (WW nW hw lw kw wl wb wG)))) := by rw [hu993]; exact hD
            clear hu993
            refine lv_iinc (v := (iI (l4_x5.toInt + 1))) hx hb dX5_lay_82 hl (k := 2) rfl (iI_add2 (iI_of _) (by decide : (1 : Int32) = iI 1)) (by decide) rfl (fun ls (hl : lv_has ls _ ([(4, .int (iI (l4_x5.toInt + 1))), (3, .int (iI (l3_x5.toInt + 1))), (5, .int 1), (0, .ref (hO 0)), (1, .int p1), (2, .int p2)])) => ?_)
            refine lv_goto (tgt := 5) hx hb dX5_lay_85 (by decide) ?_
            have hl : lv_has _ _ ([(4, .int (iI (l4_x5.toInt + 1))), (3, .int (iI (l3_x5.toInt + 1))), (0, .ref (hO 0)), (1, .int p1), (2, .int p2)]) := lv_sub hl [0, 1, 3, 4, 5] rfl
            exact ihx5 u993 u991 (iI (l4_x5.toInt + 1)) (iI (l3_x5.toInt + 1)) _ _ _ b_u991 (iI_rng (Int.le_trans (by decide) (Int.add_le_add (b_l4_x5.1) (Int.le_refl _))) (by omega) (by decide) (by decide)) (iI_rng (Int.le_trans (by decide) (Int.add_le_add (b_l3_x5.1) (Int.le_refl _))) (by omega) (by decide) (by decide)) (show (iI (l3_x5.toInt + 1)).toInt ≤ (iI (l4_x5.toInt + 1)).toInt from by (try rw [iI_t (E := l3_x5.toInt + 1) (by omega) (by omega)]); (try rw [iI_t (E := l4_x5.toInt + 1) (by omega) (by omega)]); (try rw [iI_t (E := l5_x130.toInt + 1) (by omega) (by omega)]); (try rw [iI_t (E := l6_x130.toInt + 1) (by omega) (by omega)]); (try rw [iI_t (E := l5_x200.toInt + 1) (by omega) (by omega)]); (try rw [iI_t (E := l6_x200.toInt + 1) (by omega) (by omega)]); omega) (by have e9 : ((iI (l4_x5.toInt + 1))).toInt = (l4_x5.toInt + 1) := (iI_t (Int.le_trans (by decide) (Int.add_le_add (b_l4_x5.1) (Int.le_refl _))) (Int.le_trans (Int.add_le_add (b_l4_x5.2) (Int.le_refl _)) (by decide))); omega) hP hD hS hl
end
section
theorem hd_yX6_canKeep_RX6 : yX6_canKeep.cls = RX6 ∧ yX6_canKeep.cls ≠ "java/lang/invoke/MethodHandle" ∧ yX6_canKeep.cls ≠ "java/lang/invoke/VarHandle" ∧ (parseMethodDescriptor yX6_canKeep.desc).map (fun d => d.parameters.length) = some 0 := by decide +kernel
theorem hd_yX6_holdAtNought_RX6 : yX6_holdAtNought.cls = RX6 ∧ yX6_holdAtNought.cls ≠ "java/lang/invoke/MethodHandle" ∧ yX6_holdAtNought.cls ≠ "java/lang/invoke/VarHandle" ∧ (parseMethodDescriptor yX6_holdAtNought.desc).map (fun d => d.parameters.length) = some 1 := by decide +kernel
theorem hd_yX6_rowCount_RX6 : yX6_rowCount.cls = RX6 ∧ yX6_rowCount.cls ≠ "java/lang/invoke/MethodHandle" ∧ yX6_rowCount.cls ≠ "java/lang/invoke/VarHandle" ∧ (parseMethodDescriptor yX6_rowCount.desc).map (fun d => d.parameters.length) = some 0 := by decide +kernel
theorem hd_yX5_goalRow_RX5 : yX5_goalRow.cls = RX5 ∧ yX5_goalRow.cls ≠ "java/lang/invoke/MethodHandle" ∧ yX5_goalRow.cls ≠ "java/lang/invoke/VarHandle" ∧ (parseMethodDescriptor yX5_goalRow.desc).map (fun d => d.parameters.length) = some 1 := by decide +kernel
theorem hd_yX5_takeNumbers_RX5 : yX5_takeNumbers.cls = RX5 ∧ yX5_takeNumbers.cls ≠ "java/lang/invoke/MethodHandle" ∧ yX5_takeNumbers.cls ≠ "java/lang/invoke/VarHandle" ∧ (parseMethodDescriptor yX5_takeNumbers.desc).map (fun d => d.parameters.length) = some 1 := by decide +kernel
theorem hd_yX5_compare_RX5 : yX5_compare.cls = RX5 ∧ yX5_compare.cls ≠ "java/lang/invoke/MethodHandle" ∧ yX5_compare.cls ≠ "java/lang/invoke/VarHandle" ∧ (parseMethodDescriptor yX5_compare.desc).map (fun d => d.parameters.length) = some 2 := by decide +kernel
theorem hd_yX5_keepAnswer_RX5 : yX5_keepAnswer.cls = RX5 ∧ yX5_keepAnswer.cls ≠ "java/lang/invoke/MethodHandle" ∧ yX5_keepAnswer.cls ≠ "java/lang/invoke/VarHandle" ∧ (parseMethodDescriptor yX5_keepAnswer.desc).map (fun d => d.parameters.length) = some 0 := by decide +kernel
theorem hd_yX6_sink_RX6 : yX6_sink.cls = RX6 ∧ yX6_sink.cls ≠ "java/lang/invoke/MethodHandle" ∧ yX6_sink.cls ≠ "java/lang/invoke/VarHandle" ∧ (parseMethodDescriptor yX6_sink.desc).map (fun d => d.parameters.length) = some 1 := by decide +kernel
theorem hd_yX6_keepSunk_RX6 : yX6_keepSunk.cls = RX6 ∧ yX6_keepSunk.cls ≠ "java/lang/invoke/MethodHandle" ∧ yX6_keepSunk.cls ≠ "java/lang/invoke/VarHandle" ∧ (parseMethodDescriptor yX6_keepSunk.desc).map (fun d => d.parameters.length) = some 1 := by decide +kernel
theorem hd_yX6_makeLeast_RX6 : yX6_makeLeast.cls = RX6 ∧ yX6_makeLeast.cls ≠ "java/lang/invoke/MethodHandle" ∧ yX6_makeLeast.cls ≠ "java/lang/invoke/VarHandle" ∧ (parseMethodDescriptor yX6_makeLeast.desc).map (fun d => d.parameters.length) = some 1 := by decide +kernel
theorem dX5_settle_0 : decode cX5_settle 0 = .ok (.iconst 0, 1) := dk_3 (by decide +kernel)
theorem dX5_settle_1 : decode cX5_settle 1 = .ok (.istore_n 2, 1) := dk_61 (by decide +kernel)
theorem dX5_settle_2 : decode cX5_settle 2 = .ok (.iconst 0, 1) := dk_3 (by decide +kernel)
theorem dX5_settle_3 : decode cX5_settle 3 = .ok (.istore_n 3, 1) := dk_62 (by decide +kernel)
theorem dX5_settle_4 : decode cX5_settle 4 = .ok (.iload_n 3, 1) := dk_29 (by decide +kernel)
theorem dX5_settle_5 : decode cX5_settle 5 = .ok (.aload_n 0, 1) := dk_42 (by decide +kernel)
theorem dX5_settle_6 : decode cX5_settle 6 = .ok (.getfield 74, 3) := dk_180 (by decide +kernel)
theorem dX5_settle_9 : decode cX5_settle 9 = .ok (.getfield 131, 3) := dk_180 (by decide +kernel)
theorem dX5_settle_12 : decode cX5_settle 12 = .ok (.if_icmp .ge 72, 3) := dk_162 (by decide +kernel)
theorem dX5_settle_15 : decode cX5_settle 15 = .ok (.iload_n 1, 1) := dk_27 (by decide +kernel)
theorem dX5_settle_16 : decode cX5_settle 16 = .ok (.ifCond .eq 16, 3) := dk_153 (by decide +kernel)
theorem dX5_settle_19 : decode cX5_settle 19 = .ok (.aload_n 0, 1) := dk_42 (by decide +kernel)
theorem dX5_settle_20 : decode cX5_settle 20 = .ok (.getfield 74, 3) := dk_180 (by decide +kernel)
theorem dX5_settle_23 : decode cX5_settle 23 = .ok (.getfield 134, 3) := dk_180 (by decide +kernel)
theorem dX5_settle_26 : decode cX5_settle 26 = .ok (.iload_n 3, 1) := dk_29 (by decide +kernel)
theorem dX5_settle_27 : decode cX5_settle 27 = .ok (.iaload, 1) := dk_46 (by decide +kernel)
theorem dX5_settle_28 : decode cX5_settle 28 = .ok (.iconst 1, 1) := dk_4 (by decide +kernel)
theorem dX5_settle_29 : decode cX5_settle 29 = .ok (.if_icmp .ne 49, 3) := dk_160 (by decide +kernel)
theorem dX5_settle_32 : decode cX5_settle 32 = .ok (.aload_n 0, 1) := dk_42 (by decide +kernel)
theorem dX5_settle_33 : decode cX5_settle 33 = .ok (.getfield 74, 3) := dk_180 (by decide +kernel)
theorem dX5_settle_36 : decode cX5_settle 36 = .ok (.iload_n 3, 1) := dk_29 (by decide +kernel)
theorem dX5_settle_37 : decode cX5_settle 37 = .ok (.iload_n 1, 1) := dk_27 (by decide +kernel)
theorem dX5_settle_38 : decode cX5_settle 38 = .ok (.ifCond .eq 7, 3) := dk_153 (by decide +kernel)
theorem dX5_settle_41 : decode cX5_settle 41 = .ok (.iconst 0, 1) := dk_3 (by decide +kernel)
theorem dX5_settle_42 : decode cX5_settle 42 = .ok (.goto 9, 3) := dk_167 (by decide +kernel)
theorem dX5_settle_45 : decode cX5_settle 45 = .ok (.aload_n 0, 1) := dk_42 (by decide +kernel)
theorem dX5_settle_46 : decode cX5_settle 46 = .ok (.getfield 41, 3) := dk_180 (by decide +kernel)
theorem dX5_settle_49 : decode cX5_settle 49 = .ok (.iload_n 3, 1) := dk_29 (by decide +kernel)
theorem dX5_settle_50 : decode cX5_settle 50 = .ok (.iaload, 1) := dk_46 (by decide +kernel)
theorem dX5_settle_51 : decode cX5_settle 51 = .ok (.invokevirtual 194, 3) := dk_182 (by decide +kernel)
theorem dX5_settle_54 : decode cX5_settle 54 = .ok (.istore 4, 2) := dk_54 (by decide +kernel)
theorem dX5_settle_56 : decode cX5_settle 56 = .ok (.iload 4, 2) := dk_21 (by decide +kernel)
theorem dX5_settle_58 : decode cX5_settle 58 = .ok (.iconst 2, 1) := dk_5 (by decide +kernel)
theorem dX5_settle_59 : decode cX5_settle 59 = .ok (.if_icmp .ne 16, 3) := dk_160 (by decide +kernel)
theorem dX5_settle_62 : decode cX5_settle 62 = .ok (.aload_n 0, 1) := dk_42 (by decide +kernel)
theorem dX5_settle_63 : decode cX5_settle 63 = .ok (.getfield 12, 3) := dk_180 (by decide +kernel)
theorem dX5_settle_66 : decode cX5_settle 66 = .ok (.iload_n 2, 1) := dk_28 (by decide +kernel)
theorem dX5_settle_67 : decode cX5_settle 67 = .ok (.invokevirtual 215, 3) := dk_182 (by decide +kernel)
theorem dX5_settle_70 : decode cX5_settle 70 = .ok (.ifCond .ne 5, 3) := dk_154 (by decide +kernel)
theorem dX5_settle_73 : decode cX5_settle 73 = .ok (.iconst 0, 1) := dk_3 (by decide +kernel)
theorem dX5_settle_74 : decode cX5_settle 74 = .ok (.ireturn, 1) := dk_172 (by decide +kernel)
theorem dX5_settle_75 : decode cX5_settle 75 = .ok (.iinc 2 1, 3) := dk_132 (by decide +kernel)
theorem dX5_settle_78 : decode cX5_settle 78 = .ok (.iinc 3 1, 3) := dk_132 (by decide +kernel)
theorem dX5_settle_81 : decode cX5_settle 81 = .ok (.goto (-77), 3) := dk_167 (by decide +kernel)
theorem dX5_settle_84 : decode cX5_settle 84 = .ok (.aload_n 0, 1) := dk_42 (by decide +kernel)
theorem dX5_settle_85 : decode cX5_settle 85 = .ok (.getfield 12, 3) := dk_180 (by decide +kernel)
theorem dX5_settle_88 : decode cX5_settle 88 = .ok (.invokevirtual 218, 3) := dk_182 (by decide +kernel)
theorem dX5_settle_91 : decode cX5_settle 91 = .ok (.ireturn, 1) := dk_172 (by decide +kernel)
def wsMX5_settle : List Cond := .code yX5_settle cX5_settle 5 (some .boolean) :: ([.fieldLink RX5 74 "OptimaWorks$Solver" "model" "LOptimaWorks$Model;", .fieldLink RX5 131 "OptimaWorks$Model" "rows" "I", .fieldLink RX5 12 "OptimaWorks$Solver" "tableau" "LOptimaWorks$Tableau;", .fieldLink RX5 41 "OptimaWorks$Solver" "chosen" "[I", .fieldLink RX5 134 "OptimaWorks$Model" "ways" "[I"] ++ wsX10 ++ wsX50 ++ (wsV RX5 218 RX6 yX6_canKeep wsMX6_canKeep) ++ (wsV RX5 194 RX1 yX1_sign wsMX1_sign) ++ (wsV RX5 215 RX6 yX6_holdAtNought wsMX6_holdAtNought))
theorem iwsMX5_settle_in1 : ∀ w ∈ wsX10, w ∈ wsMX5_settle := fun _ h => List.mem_cons_of_mem _ (List.mem_append_left _ (List.mem_append_left _ (List.mem_append_left _ (List.mem_append_left _ (List.mem_append_right _ h)))))
theorem iwsMX5_settle_in5 : ∀ w ∈ wsX50, w ∈ wsMX5_settle := fun _ h => List.mem_cons_of_mem _ (List.mem_append_left _ (List.mem_append_left _ (List.mem_append_left _ (List.mem_append_right _ h))))
theorem gwsMX5_settle_0 : GoodIn wsMX5_settle (wsV RX5 218 RX6 yX6_canKeep wsMX6_canKeep) := goodIn_sub (fun _ h => List.mem_cons_of_mem _ (List.mem_append_left _ (List.mem_append_left _ (List.mem_append_right _ h)))) (gdV (by decide +kernel) gdwsMX6_canKeep)
theorem gwsMX5_settle_1 : GoodIn wsMX5_settle (wsV RX5 194 RX1 yX1_sign wsMX1_sign) := goodIn_sub (fun _ h => List.mem_cons_of_mem _ (List.mem_append_left _ (List.mem_append_right _ h))) (gdV (by decide +kernel) gdwsMX1_sign)
theorem gwsMX5_settle_2 : GoodIn wsMX5_settle (wsV RX5 215 RX6 yX6_holdAtNought wsMX6_holdAtNought) := goodIn_sub (fun _ h => List.mem_cons_of_mem _ (List.mem_append_right _ h)) (gdV (by decide +kernel) gdwsMX6_holdAtNought)
theorem gdwsMX5_settle : wsMX5_settle.all goodWord = true := gdC rfl (gdA (gdA (gdA (gdA (gdA (by decide +kernel : ([.fieldLink RX5 74 "OptimaWorks$Solver" "model" "LOptimaWorks$Model;", .fieldLink RX5 131 "OptimaWorks$Model" "rows" "I", .fieldLink RX5 12 "OptimaWorks$Solver" "tableau" "LOptimaWorks$Tableau;", .fieldLink RX5 41 "OptimaWorks$Solver" "chosen" "[I", .fieldLink RX5 134 "OptimaWorks$Model" "ways" "[I"] : List Cond).all goodWord = true) gdwsX10) gdwsX50) (gdV (by decide +kernel) gdwsMX6_canKeep)) (gdV (by decide +kernel) gdwsMX1_sign)) (gdV (by decide +kernel) gdwsMX6_holdAtNought))
theorem hm_m_X5_settle_0 : (.fieldLink RX5 74 "OptimaWorks$Solver" "model" "LOptimaWorks$Model;" : Cond) ∈ wsMX5_settle := by decide +kernel
theorem hm_m_X5_settle_1 : (.fieldLink RX5 12 "OptimaWorks$Solver" "tableau" "LOptimaWorks$Tableau;" : Cond) ∈ wsMX5_settle := by decide +kernel
theorem hm_m_X5_settle_2 : (.fieldLink RX5 41 "OptimaWorks$Solver" "chosen" "[I" : Cond) ∈ wsMX5_settle := by decide +kernel
set_option maxHeartbeats 4000000 in
set_option maxRecDepth 100000 in
/-- is it kept -/
theorem m_X5_settle (l : Launch) (dC : Nat → ClassId) (dI : Nat → Nat → Nat) (hO : Nat → Nat) (aO : Nat → Nat) (kO : Nat → ClassId) (hM : Nat → Nat) (hQ : Nat → Nat) (hw : Nat → Nat) (iO_answered : Int32) (iO_searched : Int32) (iO_searchedRelaxed : Int32) (iO_counted : Int32) (fO_countedCase : Nat → Int32) (gO_goalNumber : Nat → Int64) (gO_goalScale : Nat → Int64) (fO_start : Nat → Int32) (fO_column : Nat → Int32) (fO_chosen : Nat → Int32) (aM : Nat → Nat) (kM : Nat → ClassId) (iM_stands : Int32) (iM_variables : Int32) (iM_rows : Int32) (iM_goals : Int32) (iM_differents : Int32) (iM_cases : Int32) (fM_from : Nat → Int32) (fM_to : Nat → Int32) (fM_whole : Nat → Int32) (fM_ways : Nat → Int32) (iM_plainRows : Int32) (fM_plainRow : Nat → Int32) (fM_kept : Nat → Int32) (fM_goalOver : Nat → Int32) (fM_goalUnder : Nat → Int32) (fM_goalMax : Nat → Int32) (fM_different : Nat → Int32) (aQ : Nat → Nat) (kQ : Nat → ClassId) (fQ_inside : Nat → Int32) (fQ_outside : Nat → Int32) (fQ_shut : Nat → Int32) (iQ_rows : Int32) (iQ_allRows : Int32) (iQ_columns : Int32) (nW : Nat) (lw : Nat → Nat) (kw : ClassId) (wl : Nat → Int32) (wb : Nat → Int32) (wG : Nat → Nat → Int64) (p1 : Int32) (b_iO_answered : 0 ≤ iO_answered.toInt ∧ iO_answered.toInt ≤ 1) (b_iO_searched : 0 ≤ iO_searched.toInt ∧ iO_searched.toInt ≤ 1) (b_iO_searchedRelaxed : 0 ≤ iO_searchedRelaxed.toInt ∧ iO_searchedRelaxed.toInt ≤ 1) (b_iO_counted : (-1) ≤ iO_counted.toInt ∧ iO_counted.toInt ≤ 64) (b_fO_countedCase : ∀ q : Nat, 0 ≤ (fO_countedCase q).toInt ∧ (fO_countedCase q).toInt ≤ 200000) (b_fO_column : ∀ q : Nat, (-1) ≤ (fO_column q).toInt ∧ (fO_column q).toInt ≤ 8) (b_fO_chosen : ∀ q : Nat, 0 ≤ (fO_chosen q).toInt ∧ (fO_chosen q).toInt ≤ 2) (b_iM_stands : 0 ≤ iM_stands.toInt ∧ iM_stands.toInt ≤ 1) (b_iM_variables : 0 ≤ iM_variables.toInt ∧ iM_variables.toInt ≤ 8) (b_iM_rows : 0 ≤ iM_rows.toInt ∧ iM_rows.toInt ≤ 12) (b_iM_goals : 0 ≤ iM_goals.toInt ∧ iM_goals.toInt ≤ 3) (b_iM_differents : 0 ≤ iM_differents.toInt ∧ iM_differents.toInt ≤ 8) (b_iM_cases : 0 ≤ iM_cases.toInt ∧ iM_cases.toInt ≤ 200000) (b_fM_ways : ∀ q : Nat, 0 ≤ (fM_ways q).toInt ∧ (fM_ways q).toInt ≤ 3) (b_iM_plainRows : 0 ≤ iM_plainRows.toInt ∧ iM_plainRows.toInt ≤ 12) (b_fM_plainRow : ∀ q : Nat, 0 ≤ (fM_plainRow q).toInt ∧ (fM_plainRow q).toInt ≤ 11) (b_pr : iM_plainRows.toInt ≤ iM_rows.toInt) (b_iQ_rows : 0 ≤ iQ_rows.toInt ∧ iQ_rows.toInt ≤ 40) (b_iQ_allRows : 0 ≤ iQ_allRows.toInt ∧ iQ_allRows.toInt ≤ 40) (b_iQ_columns : 0 ≤ iQ_columns.toInt ∧ iQ_columns.toInt ≤ 40) (b_tb : TbO iQ_rows iQ_allRows iQ_columns) (b_wl : ∀ q : Nat, 0 ≤ (wl q).toInt ∧ (wl q).toInt ≤ 14) (b_wb : ∀ q : Nat, 0 ≤ (wb q).toInt ∧ (wb q).toInt ≤ 1) (hnW : 432 ≤ nW) (hc8 : iQ_columns.toInt ≤ 8) (sz : Nat) : Met l yX5_settle wsMX5_settle ({ frames := 6, cells := 0, slots := 0, locals := 154 }) (va_Pc [.ref (hO 0), .int p1] (fun U => U.heap.size = sz ∧ va_P (dC, dI) vwCl (WO hO aO kO hM hQ hw iO_answered iO_searched iO_searchedRelaxed iO_counted fO_countedCase gO_goalNumber gO_goalScale fO_start fO_column fO_chosen ++ (WM hM aM kM iM_stands iM_variables iM_rows iM_goals iM_differents iM_cases fM_from fM_to fM_whole fM_ways iM_plainRows fM_plainRow fM_kept fM_goalOver fM_goalUnder fM_goalMax fM_different ++ (WQ hQ aQ kQ hw fQ_inside fQ_outside fQ_shut iQ_rows iQ_allRows iQ_columns ++ (WW nW hw lw kw wl wb wG)))) U.heap ∧ va_K (dC, dI) vwCl (tO kO ++ (tM kM ++ (tQ kQ ++ (tW kw)))) U ∧ va_D (fun _ => True) (WO hO aO kO hM hQ hw iO_answered iO_searched iO_searchedRelaxed iO_counted fO_countedCase gO_goalNumber gO_goalScale fO_start fO_column fO_chosen ++ (WM hM aM kM iM_stands iM_variables iM_rows iM_goals iM_differents iM_cases fM_from fM_to fM_whole fM_ways iM_plainRows fM_plainRow fM_kept fM_goalOver fM_goalUnder fM_goalMax fM_different ++ (WQ hQ aQ kQ hw fQ_inside fQ_outside fQ_shut iQ_rows iQ_allRows iQ_columns ++ (WW nW hw lw kw wl wb wG)))))) (va_Qi (fun (r : Int32) (u : (Nat → Int32) × (Nat → Int32) × (Nat → Int32) × (Nat → Int32) × (Nat → Int32) × (Nat → Nat → Int64)) => (∀ q : Nat, 0 ≤ ((u.2.2.2.1) q).toInt ∧ ((u.2.2.2.1) q).toInt ≤ 14) ∧ (∀ q : Nat, 0 ≤ ((u.2.2.2.2.1) q).toInt ∧ ((u.2.2.2.2.1) q).toInt ≤ 1) ∧ (0 ≤ r.toInt ∧ r.toInt ≤ 1)) (fun (u : (Nat → Int32) × (Nat → Int32) × (Nat → Int32) × (Nat → Int32) × (Nat → Int32) × (Nat → Nat → Int64)) t => va_P (dC, dI) vwCl (WO hO aO kO hM hQ hw iO_answered iO_searched iO_searchedRelaxed iO_counted fO_countedCase gO_goalNumber gO_goalScale fO_start fO_column fO_chosen ++ (WM hM aM kM iM_stands iM_variables iM_rows iM_goals iM_differents iM_cases fM_from fM_to fM_whole fM_ways iM_plainRows fM_plainRow fM_kept fM_goalOver fM_goalUnder fM_goalMax fM_different ++ (WQ hQ aQ kQ hw (u.1) (u.2.1) (u.2.2.1) iQ_rows iQ_allRows iQ_columns ++ (WW nW hw lw kw (u.2.2.2.1) (u.2.2.2.2.1) (u.2.2.2.2.2))))) t.heap ∧ va_D (va_A (WO hO aO kO hM hQ hw iO_answered iO_searched iO_searchedRelaxed iO_counted fO_countedCase gO_goalNumber gO_goalScale fO_start fO_column fO_chosen ++ (WM hM aM kM iM_stands iM_variables iM_rows iM_goals iM_differents iM_cases fM_from fM_to fM_whole fM_ways iM_plainRows fM_plainRow fM_kept fM_goalOver fM_goalUnder fM_goalMax fM_different ++ (WQ hQ aQ kQ hw fQ_inside fQ_outside fQ_shut iQ_rows iQ_allRows iQ_columns ++ (WW nW hw lw kw wl wb wG)))) sz) (WO hO aO kO hM hQ hw iO_answered iO_searched iO_searchedRelaxed iO_counted fO_countedCase gO_goalNumber gO_goalScale fO_start fO_column fO_chosen ++ (WM hM aM kM iM_stands iM_variables iM_rows iM_goals iM_differents iM_cases fM_from fM_to fM_whole fM_ways iM_plainRows fM_plainRow fM_kept fM_goalOver fM_goalUnder fM_goalMax fM_different ++ (WQ hQ aQ kQ hw (u.1) (u.2.1) (u.2.2.1) iQ_rows iQ_allRows iQ_columns ++ (WW nW hw lw kw (u.2.2.2.1) (u.2.2.2.2.1) (u.2.2.2.2.2)))))) (va_A (WO hO aO kO hM hQ hw iO_answered iO_searched iO_searchedRelaxed iO_counted fO_countedCase gO_goalNumber gO_goalScale fO_start fO_column fO_chosen ++ (WM hM aM kM iM_stands iM_variables iM_rows iM_goals iM_differents iM_cases fM_from fM_to fM_whole fM_ways iM_plainRows fM_plainRow fM_kept fM_goalOver fM_goalUnder fM_goalMax fM_different ++ (WQ hQ aQ kQ hw fQ_inside fQ_outside fQ_shut iQ_rows iQ_allRows iQ_columns ++ (WW nW hw lw kw wl wb wG)))) sz)) 0 0 (va_A (WO hO aO kO hM hQ hw iO_answered iO_searched iO_searchedRelaxed iO_counted fO_countedCase gO_goalNumber gO_goalScale fO_start fO_column fO_chosen ++ (WM hM aM kM iM_stands iM_variables iM_rows iM_goals iM_differents iM_cases fM_from fM_to fM_whole fM_ways iM_plainRows fM_plainRow fM_kept fM_goalOver fM_goalUnder fM_goalMax fM_different ++ (WQ hQ aQ kQ hw fQ_inside fQ_outside fQ_shut iQ_rows iQ_allRows iQ_columns ++ (WW nW hw lw kw wl wb wG)))) sz) := by
  refine Met.ofW (cc := cX5_settle) (maxL := 5) (ret := (some .boolean)) (by decide) rfl ?_
  intro p e s m args below meth c s₁ B hml hv
  obtain ⟨rfl, hsz, hP, hK, hD0⟩ := hv
  have hx := B.exec
  have hb := B.bytes
  have hr := B.returns
  have hts := atoms_spec (ws := wsMX5_settle) B.pre
  have hown : s.vm.findClass RX5 = some m.cls := findClass_of_methodNamed B.named
  have hlocks := B.notSynchronized
  subst hsz
  have hD := hD0.self (sz := s.heap.size)
  generalize hAe : va_A (WO hO aO kO hM hQ hw iO_answered iO_searched iO_searchedRelaxed iO_counted fO_countedCase gO_goalNumber gO_goalScale fO_start fO_column fO_chosen ++ (WM hM aM kM iM_stands iM_variables iM_rows iM_goals iM_differents iM_cases fM_from fM_to fM_whole fM_ways iM_plainRows fM_plainRow fM_kept fM_goalOver fM_goalUnder fM_goalMax fM_different ++ (WQ hQ aQ kQ hw fQ_inside fQ_outside fQ_shut iQ_rows iQ_allRows iQ_columns ++ (WW nW hw lw kw wl wb wG)))) s.heap.size = A at hD ⊢
  have hA : ∀ q : Nat, s.heap.size ≤ q → A q := fun q h => by rw [← hAe]; exact Or.inr h
  have hS : va_S A s.heap s.heap [] := va_S.rf
  have hl := lv_entry ([.ref (hO 0), .int p1]) (n := 5) (Nat.le_of_ble_eq_true rfl)
  rw [lg_entry_eq]
  generalize (lg_sl ([.ref (hO 0), .int p1]) ++ List.replicate (5 - (lg_sl ([.ref (hO 0), .int p1])).length) Slot.unset).toArray = ls at hl ⊢
  have hl : lv_has ls 5 [(0, .ref (hO 0)), (1, .int p1)] := hl
  refine lv_iconst (v := 0) hx hb dX5_settle_0 (by decide) ?_
  refine lv_istore_n hx hb dX5_settle_1 rfl hl (by decide) rfl (fun ls (hl : lv_has ls _ ([(2, .int 0), (0, .ref (hO 0)), (1, .int p1)])) => ?_)
  refine lv_iconst (v := 0) hx hb dX5_settle_2 (by decide) ?_
  refine lv_istore_n hx hb dX5_settle_3 rfl hl (by decide) rfl (fun ls (hl : lv_has ls _ ([(3, .int 0), (2, .int 0), (0, .ref (hO 0)), (1, .int p1)])) => ?_)
  have hl : lv_has _ _ ([(3, .int 0), (2, .int 0), (0, .ref (hO 0)), (1, .int p1)]) := lv_sub hl [0, 1, 2, 3] rfl
  refine (fun (loop : ∀ (n9 : Nat) (fQ_inside_x4 : Nat → Int32) (fQ_outside_x4 : Nat → Int32) (fQ_shut_x4 : Nat → Int32) (wl_x4 : Nat → Int32) (wb_x4 : Nat → Int32) (wG_x4 : Nat → Nat → Int64) (l3_x4 : Int32) (l2_x4 : Int32) (H : Heap) (locs : List Loc) (ls : Array Slot), (∀ q : Nat, 0 ≤ (wl_x4 q).toInt ∧ (wl_x4 q).toInt ≤ 14) → (∀ q : Nat, 0 ≤ (wb_x4 q).toInt ∧ (wb_x4 q).toInt ≤ 1) → (0 ≤ l3_x4.toInt ∧ l3_x4.toInt ≤ 12) → (0 ≤ l2_x4.toInt ∧ l2_x4.toInt ≤ 12) → (l2_x4.toInt ≤ l3_x4.toInt) → (12 - l3_x4.toInt < ((n9 : Nat) : Int)) → va_P (dC, dI) vwCl (WO hO aO kO hM hQ hw iO_answered iO_searched iO_searchedRelaxed iO_counted fO_countedCase gO_goalNumber gO_goalScale fO_start fO_column fO_chosen ++ (WM hM aM kM iM_stands iM_variables iM_rows iM_goals iM_differents iM_cases fM_from fM_to fM_whole fM_ways iM_plainRows fM_plainRow fM_kept fM_goalOver fM_goalUnder fM_goalMax fM_different ++ (WQ hQ aQ kQ hw fQ_inside_x4 fQ_outside_x4 fQ_shut_x4 iQ_rows iQ_allRows iQ_columns ++ (WW nW hw lw kw wl_x4 wb_x4 wG_x4)))) H → va_D A (WO hO aO kO hM hQ hw iO_answered iO_searched iO_searchedRelaxed iO_counted fO_countedCase gO_goalNumber gO_goalScale fO_start fO_column fO_chosen ++ (WM hM aM kM iM_stands iM_variables iM_rows iM_goals iM_differents iM_cases fM_from fM_to fM_whole fM_ways iM_plainRows fM_plainRow fM_kept fM_goalOver fM_goalUnder fM_goalMax fM_different ++ (WQ hQ aQ kQ hw fQ_inside_x4 fQ_outside_x4 fQ_shut_x4 iQ_rows iQ_allRows iQ_columns ++ (WW nW hw lw kw wl_x4 wb_x4 wG_x4)))) → va_S A s.heap H locs → lv_has ls 5 [(3, .int l3_x4), (2, .int l2_x4), (0, .ref (hO 0)), (1, .int p1)] → W p l e _ s m _ below meth c H locs 0 0 _ (F0 m 4 ls [])) => loop (13) fQ_inside fQ_outside fQ_shut wl wb wG 0 0 _ _ _ b_wl b_wb (show 0 ≤ (0 : Int32).toInt ∧ (0 : Int32).toInt ≤ 12 from by decide) (show 0 ≤ (0 : Int32).toInt ∧ (0 : Int32).toInt ≤ 12 from by decide) (show (0 : Int32).toInt ≤ (0 : Int32).toInt from by decide) ((by have e9 : (0 : Int32).toInt = 0 := (by decide : (0 : Int32).toInt = 0); omega)) hP hD hS hl) ?_
  intro n9
  induction n9 with
  | zero => intro fQ_inside_x4 fQ_outside_x4 fQ_shut_x4 wl_x4 wb_x4 wG_x4 l3_x4 l2_x4 H locs ls b_wl_x4 b_wb_x4 b_l3_x4 b_l2_x4 hl1 hf9; exact False.elim (by omega)
  | succ n9 ihx4 =>
    intro fQ_inside_x4 fQ_outside_x4 fQ_shut_x4 wl_x4 wb_x4 wG_x4 l3_x4 l2_x4 H locs ls b_wl_x4 b_wb_x4 b_l3_x4 b_l2_x4 hl1 hfx4 hP hD hS hl
    refine lv_iload_n hx hb dX5_settle_4 rfl (lv_at hl 0 rfl) ?_
    refine lv_aload_n hx hb dX5_settle_5 rfl (lv_at hl 2 rfl) ?_
    refine va_get (D := (dC, dI)) (ci := 5) (v := .ref (hM 0)) (C := RX5) (T := TX5) (N := 19) hx hb hts iwsMX5_settle_in5 hown hK hP 0 rfl rfl 0 (by decide) (hts _ hm_m_X5_settle_0) (fun _ h9 => h9) rfl dX5_settle_6 ?_
    refine va_get (D := (dC, dI)) (ci := 1) (v := .int iM_rows) (C := RX1) (T := TX1) (N := 17) hx hb hts iwsMX5_settle_in1 hown hK hP 11 rfl rfl 2 (by decide) (hts (.fieldLink RX5 131 "OptimaWorks$Model" "rows" "I") (by decide +kernel)) (fun _ h9 => h9) rfl dX5_settle_9 ?_
    refine lv_icmp_ge (tgt := 84) hx hb dX5_settle_12 (by decide) (fun c_12 => ?_) (fun c_12 => ?_)
    · have t_12 : l3_x4.toInt ≥ iM_rows.toInt := toI_ge c_12 rfl rfl
      refine lv_aload_n hx hb dX5_settle_84 rfl (lv_at hl 2 rfl) ?_
      refine va_get (D := (dC, dI)) (ci := 5) (v := .ref (hQ 0)) (C := RX5) (T := TX5) (N := 19) hx hb hts iwsMX5_settle_in5 hown hK hP 0 rfl rfl 1 (by decide) (hts _ hm_m_X5_settle_1) (fun _ h9 => h9) rfl dX5_settle_85 ?_
      have p9 := cj_4_2_3 (WO hO aO kO hM hQ hw iO_answered iO_searched iO_searchedRelaxed iO_counted fO_countedCase gO_goalNumber gO_goalScale fO_start fO_column fO_chosen) (WM hM aM kM iM_stands iM_variables iM_rows iM_goals iM_differents iM_cases fM_from fM_to fM_whole fM_ways iM_plainRows fM_plainRow fM_kept fM_goalOver fM_goalUnder fM_goalMax fM_different) (WQ hQ aQ kQ hw fQ_inside_x4 fQ_outside_x4 fQ_shut_x4 iQ_rows iQ_allRows iQ_columns) (WW nW hw lw kw wl_x4 wb_x4 wG_x4)
      have hPc := hP.mem (fun q h => p9.mem_iff.mpr (List.mem_append_left _ h))
      have hDc := (hD.perm p9).left
      have hKc : va_K (dC, dI) vwCl (tQ kQ ++ (tW kw)) _ := hK.sub [20, 21, 22, 23, 24] rfl
      have hFc := freeG p9 hD hS hA
      refine va_calli (va_runV (As := []) (rest := []) ⟨hx, hb, hml, hown, hts⟩ (m_X6_canKeep l dC dI hQ aQ kQ hw fQ_inside_x4 fQ_outside_x4 fQ_shut_x4 iQ_rows iQ_allRows iQ_columns nW lw kw wl_x4 wb_x4 wG_x4 (b_iQ_rows) (b_iQ_allRows) (b_iQ_columns) (by first | with_reducible assumption | omega | assumption) b_wl_x4 b_wb_x4 (by omega) H.size) (cwV 0 hts gwsMX5_settle_0 rfl rfl rfl hd_yX6_canKeep_RX6 (by decide +kernel)) (fz_pre (va_recv hK hP (ci := 6) (q0 := 22) rfl rfl) hPc hKc hDc) rfl rfl hl.1 rfl (lv_room (Nat.le_of_ble_eq_true rfl)) dX5_settle_88 (by decide +kernel)) hS (fun q _ h => hFc q h) hFc (fun r21 u t9_ H locs ht hvm hw9 hB9 hz1 hk1 hS => ?_)
      revert u hw9 hB9
      refine fz_p5 ?_
      intro fQ_inside_21 fQ_outside_21 wl_21 wb_21 wG_21 hw9 hB9
      try dsimp only at hw9 hB9
      revert hw9
      refine fz_a3 ?_
      intro b_wl_21 b_wb_21 b_r21
      have p8 := cj_4_2_3 (WO hO aO kO hM hQ hw iO_answered iO_searched iO_searchedRelaxed iO_counted fO_countedCase gO_goalNumber gO_goalScale fO_start fO_column fO_chosen) (WM hM aM kM iM_stands iM_variables iM_rows iM_goals iM_differents iM_cases fM_from fM_to fM_whole fM_ways iM_plainRows fM_plainRow fM_kept fM_goalOver fM_goalUnder fM_goalMax fM_different) (WQ hQ aQ kQ hw fQ_inside_21 fQ_outside_21 fQ_shut_x4 iQ_rows iQ_allRows iQ_columns) (WW nW hw lw kw wl_21 wb_21 wG_21)
      obtain ⟨hP, hD⟩ := frameG p9 p8 hP hD hk1 hFc (fz_P ht hB9.1) hB9.2
      refine W.widen (k := 0) (n := 0) (by decide +kernel) (by decide +kernel) ?_
      exact W.zret (v := r21) hx hb hr (by rcases z01 (x := r21) (by first | exact b_r21 | with_reducible assumption | exact ⟨by omega, by omega⟩ | assumption) with h9 | h9 <;> rw [h9] <;> rfl) (fun t9_ ht hW => ⟨⟨r21, (fQ_inside_21, fQ_outside_21, fQ_shut_x4, wl_21, wb_21, wG_21), rfl, ⟨b_wl_21, b_wb_21, (by first | exact b_r21 | with_reducible assumption | exact ⟨by omega, by omega⟩ | assumption)⟩, by rw [ht]; exact hP, hD⟩, hS.F ht⟩) hS.2.2 dX5_settle_91
    · have t_12 : ¬ l3_x4.toInt ≥ iM_rows.toInt := toI_nge c_12 rfl rfl
      refine lv_iload_n hx hb dX5_settle_15 rfl (lv_at hl 3 rfl) ?_
      refine lv_if_eq (tgt := 32) hx hb dX5_settle_16 (by decide) (fun c_16 => ?_) (fun c_16 => ?_)
      · have t_16 : p1.toInt = 0 := toI_eq c_16 rfl (by decide : (0 : Int32).toInt = 0)
        refine lv_aload_n hx hb dX5_settle_32 rfl (lv_at hl 2 rfl) ?_
        refine va_get (D := (dC, dI)) (ci := 5) (v := .ref (hM 0)) (C := RX5) (T := TX5) (N := 19) hx hb hts iwsMX5_settle_in5 hown hK hP 0 rfl rfl 0 (by decide) (hts _ hm_m_X5_settle_0) (fun _ h9 => h9) rfl dX5_settle_33 ?_
        refine lv_iload_n hx hb dX5_settle_36 rfl (lv_at hl 0 rfl) ?_
        refine lv_iload_n hx hb dX5_settle_37 rfl (lv_at hl 3 rfl) ?_
        refine W.cut (pc := 51) (fun H locs ls stk => ∃ (k0_j11 : Int32), (0 ≤ k0_j11.toInt ∧ k0_j11.toInt ≤ 2) ∧  stk = [.int k0_j11, .int l3_x4, .ref (hM 0)] ∧ va_P (dC, dI) vwCl (WO hO aO kO hM hQ hw iO_answered iO_searched iO_searchedRelaxed iO_counted fO_countedCase gO_goalNumber gO_goalScale fO_start fO_column fO_chosen ++ (WM hM aM kM iM_stands iM_variables iM_rows iM_goals iM_differents iM_cases fM_from fM_to fM_whole fM_ways iM_plainRows fM_plainRow fM_kept fM_goalOver fM_goalUnder fM_goalMax fM_different ++ (WQ hQ aQ kQ hw fQ_inside_x4 fQ_outside_x4 fQ_shut_x4 iQ_rows iQ_allRows iQ_columns ++ (WW nW hw lw kw wl_x4 wb_x4 wG_x4)))) H ∧ va_D A (WO hO aO kO hM hQ hw iO_answered iO_searched iO_searchedRelaxed iO_counted fO_countedCase gO_goalNumber gO_goalScale fO_start fO_column fO_chosen ++ (WM hM aM kM iM_stands iM_variables iM_rows iM_goals iM_differents iM_cases fM_from fM_to fM_whole fM_ways iM_plainRows fM_plainRow fM_kept fM_goalOver fM_goalUnder fM_goalMax fM_different ++ (WQ hQ aQ kQ hw fQ_inside_x4 fQ_outside_x4 fQ_shut_x4 iQ_rows iQ_allRows iQ_columns ++ (WW nW hw lw kw wl_x4 wb_x4 wG_x4)))) ∧ va_S A s.heap H locs ∧ lv_has ls 5 [(3, .int l3_x4), (2, .int l2_x4), (0, .ref (hO 0)), (1, .int p1)]) (fun join11 => ?_) ?_
        · refine lv_if_eq (tgt := 45) hx hb dX5_settle_38 (by decide) (fun c_38 => ?_) (fun c_38 => ?_)
          · have t_38 : p1.toInt = 0 := toI_eq c_38 rfl (by decide : (0 : Int32).toInt = 0)
            refine lv_aload_n hx hb dX5_settle_45 rfl (lv_at hl 2 rfl) ?_
            refine va_get (D := (dC, dI)) (ci := 5) (v := .ref (aO 5)) (C := RX5) (T := TX5) (N := 19) hx hb hts iwsMX5_settle_in5 hown hK hP 0 rfl rfl 11 (by decide) (hts _ hm_m_X5_settle_2) (fun _ h9 => h9) rfl dX5_settle_46 ?_
            refine lv_iload_n hx hb dX5_settle_49 rfl (lv_at hl 0 rfl) ?_
            refine va_iald (cA := kO 5) (n := 12) (f := fO_chosen) hx hb hK hP 6 5 rfl rfl (vp_in_iff.mpr ⟨b_l3_x4.1, (by omega)⟩) dX5_settle_50 ?_
            refine lv_topi (fun v23 hv23 => ?_)
            have b_v23 : 0 ≤ v23.toInt ∧ v23.toInt ≤ 2 := by rw [hv23]; exact b_fO_chosen _
            clear hv23
            have hl : lv_has _ _ ([(3, .int l3_x4), (2, .int l2_x4), (0, .ref (hO 0)), (1, .int p1)]) := lv_sub hl [0, 1, 2, 3] rfl
            exact join11 _ _ _ _ ⟨v23, (b_v23), rfl, hP, hD, hS, hl⟩
          · have t_38 : ¬ p1.toInt = 0 := toI_neq c_38 rfl (by decide : (0 : Int32).toInt = 0)
            refine lv_iconst (v := 0) hx hb dX5_settle_41 (by decide) ?_
            refine lv_goto (tgt := 51) hx hb dX5_settle_42 (by decide) ?_
            have hl : lv_has _ _ ([(3, .int l3_x4), (2, .int l2_x4), (0, .ref (hO 0)), (1, .int p1)]) := lv_sub hl [0, 1, 2, 3] rfl
            exact join11 _ _ _ _ ⟨0, (show 0 ≤ (0 : Int32).toInt ∧ (0 : Int32).toInt ≤ 2 from by decide), rfl, hP, hD, hS, hl⟩
        · rintro H locs ls stk ⟨k0_j11, b_k0_j11, rfl, hP, hD, hS, hl⟩
          have p9 := cj_4_1 (WO hO aO kO hM hQ hw iO_answered iO_searched iO_searchedRelaxed iO_counted fO_countedCase gO_goalNumber gO_goalScale fO_start fO_column fO_chosen) (WM hM aM kM iM_stands iM_variables iM_rows iM_goals iM_differents iM_cases fM_from fM_to fM_whole fM_ways iM_plainRows fM_plainRow fM_kept fM_goalOver fM_goalUnder fM_goalMax fM_different) (WQ hQ aQ kQ hw fQ_inside_x4 fQ_outside_x4 fQ_shut_x4 iQ_rows iQ_allRows iQ_columns) (WW nW hw lw kw wl_x4 wb_x4 wG_x4)
          have hPc := hP.mem (fun q h => p9.mem_iff.mpr (List.mem_append_left _ h))
          have hDc := (hD.perm p9).left
          have hKc : va_K (dC, dI) vwCl (tM kM) _ := hK.sub [10, 11, 12, 13, 14, 15, 16, 17, 18, 19] rfl
          have hFc := freeG p9 hD hS hA
          refine va_calli (va_runV (As := [.int l3_x4, .int k0_j11]) (rest := []) ⟨hx, hb, hml, hown, hts⟩ (m_X1_sign l dC dI hM aM kM iM_stands iM_variables iM_rows iM_goals iM_differents iM_cases fM_from fM_to fM_whole fM_ways iM_plainRows fM_plainRow fM_kept fM_goalOver fM_goalUnder fM_goalMax fM_different l3_x4 k0_j11 (b_iM_stands) (b_iM_variables) (b_iM_rows) (b_iM_goals) (b_iM_differents) (b_iM_cases) b_fM_ways (b_iM_plainRows) b_fM_plainRow (by first | with_reducible assumption | omega | assumption) (by first | exact b_l3_x4 | with_reducible assumption | exact ⟨by omega, by omega⟩ | assumption) (b_k0_j11) H.size) (cwV 2 hts gwsMX5_settle_1 rfl rfl rfl hd_yX1_sign_RX1 (by decide +kernel)) (fz_pre (va_recv hK hP (ci := 1) (q0 := 11) rfl rfl) hPc hKc hDc) rfl rfl hl.1 rfl (lv_room (Nat.le_of_ble_eq_true rfl)) dX5_settle_51 (by decide +kernel)) hS (fun q _ h => hFc q h) hFc (fun r24 u t9_ H locs ht hvm hw9 hB9 hz1 hk1 hS => ?_)
          clear hw9
          have p8 := p9
          obtain ⟨hP, hD⟩ := frameG p9 p8 hP hD hk1 hFc (fz_P ht hB9.1) hB9.2
          refine lv_istore hx hb dX5_settle_54 hl (by decide) rfl (fun ls (hl : lv_has ls _ ([(4, .int r24), (3, .int l3_x4), (2, .int l2_x4), (0, .ref (hO 0)), (1, .int p1)])) => ?_)
          refine lv_iload hx hb dX5_settle_56 (lv_at hl 0 rfl) ?_
          refine lv_iconst (v := 2) hx hb dX5_settle_58 (by decide) ?_
          refine lv_icmp_ne (tgt := 75) hx hb dX5_settle_59 (by decide) (fun c_59 => ?_) (fun c_59 => ?_)
          · have t_59 : r24.toInt ≠ 2 := toI_ne c_59 rfl (by decide : (2 : Int32).toInt = 2)
            refine lv_iinc (v := (iI (l2_x4.toInt + 1))) hx hb dX5_settle_75 hl (k := 2) rfl (iI_add2 (iI_of _) (by decide : (1 : Int32) = iI 1)) (by decide) rfl (fun ls (hl : lv_has ls _ ([(2, .int (iI (l2_x4.toInt + 1))), (4, .int r24), (3, .int l3_x4), (0, .ref (hO 0)), (1, .int p1)])) => ?_)
            refine lv_iinc (v := (iI (l3_x4.toInt + 1))) hx hb dX5_settle_78 hl (k := 2) rfl (iI_add2 (iI_of _) (by decide : (1 : Int32) = iI 1)) (by decide) rfl (fun ls (hl : lv_has ls _ ([(3, .int (iI (l3_x4.toInt + 1))), (2, .int (iI (l2_x4.toInt + 1))), (4, .int r24), (0, .ref (hO 0)), (1, .int p1)])) => ?_)
            refine lv_goto (tgt := 4) hx hb dX5_settle_81 (by decide) ?_
            have hl : lv_has _ _ ([(3, .int (iI (l3_x4.toInt + 1))), (2, .int (iI (l2_x4.toInt + 1))), (0, .ref (hO 0)), (1, .int p1)]) := lv_sub hl [0, 1, 3, 4] rfl
            exact ihx4 fQ_inside_x4 fQ_outside_x4 fQ_shut_x4 wl_x4 wb_x4 wG_x4 (iI (l3_x4.toInt + 1)) (iI (l2_x4.toInt + 1)) _ _ _ b_wl_x4 b_wb_x4 (iI_rng (Int.le_trans (by decide) (Int.add_le_add (b_l3_x4.1) (Int.le_refl _))) (by omega) (by decide) (by decide)) (iI_rng (Int.le_trans (by decide) (Int.add_le_add (b_l2_x4.1) (Int.le_refl _))) (by omega) (by decide) (by decide)) (show (iI (l2_x4.toInt + 1)).toInt ≤ (iI (l3_x4.toInt + 1)).toInt from by (try rw [iI_t (E := l2_x4.toInt + 1) (by omega) (by omega)]); rw [iI_t (E := l3_x4.toInt + 1) (by omega) (by omega)]; omega) (by have e9 : ((iI (l3_x4.toInt + 1))).toInt = (l3_x4.toInt + 1) := (iI_t (Int.le_trans (by decide) (Int.add_le_add (b_l3_x4.1) (Int.le_refl _))) (Int.le_trans (Int.add_le_add (b_l3_x4.2) (Int.le_refl _)) (by decide))); omega) hP hD hS hl
          · have t_59 : r24.toInt = 2 := toI_nne c_59 rfl (by decide : (2 : Int32).toInt = 2)
            refine lv_aload_n hx hb dX5_settle_62 rfl (lv_at hl 3 rfl) ?_
            refine va_get (D := (dC, dI)) (ci := 5) (v := .ref (hQ 0)) (C := RX5) (T := TX5) (N := 19) hx hb hts iwsMX5_settle_in5 hown hK hP 0 rfl rfl 1 (by decide) (hts _ hm_m_X5_settle_1) (fun _ h9 => h9) rfl dX5_settle_63 ?_
            refine lv_iload_n hx hb dX5_settle_66 rfl (lv_at hl 2 rfl) ?_
            have p9 := cj_4_2_3 (WO hO aO kO hM hQ hw iO_answered iO_searched iO_searchedRelaxed iO_counted fO_countedCase gO_goalNumber gO_goalScale fO_start fO_column fO_chosen) (WM hM aM kM iM_stands iM_variables iM_rows iM_goals iM_differents iM_cases fM_from fM_to fM_whole fM_ways iM_plainRows fM_plainRow fM_kept fM_goalOver fM_goalUnder fM_goalMax fM_different) (WQ hQ aQ kQ hw fQ_inside_x4 fQ_outside_x4 fQ_shut_x4 iQ_rows iQ_allRows iQ_columns) (WW nW hw lw kw wl_x4 wb_x4 wG_x4)
            have hPc := hP.mem (fun q h => p9.mem_iff.mpr (List.mem_append_left _ h))
            have hDc := (hD.perm p9).left
            have hKc : va_K (dC, dI) vwCl (tQ kQ ++ (tW kw)) _ := hK.sub [20, 21, 22, 23, 24] rfl
            have hFc := freeG p9 hD hS hA
            refine va_calli (va_runV (As := [.int l2_x4]) (rest := []) ⟨hx, hb, hml, hown, hts⟩ (m_X6_holdAtNought l dC dI hQ aQ kQ hw fQ_inside_x4 fQ_outside_x4 fQ_shut_x4 iQ_rows iQ_allRows iQ_columns nW lw kw wl_x4 wb_x4 wG_x4 l2_x4 (b_iQ_rows) (b_iQ_allRows) (b_iQ_columns) (by first | with_reducible assumption | omega | assumption) b_wl_x4 b_wb_x4 (⟨b_l2_x4.1, Int.le_trans b_l2_x4.2 (by decide)⟩) (by omega) (FitR.small (I := 39) (C := 8) (by omega) (by omega) (by omega) (by omega) (by decide)) H.size) (cwV 1 hts gwsMX5_settle_2 rfl rfl rfl hd_yX6_holdAtNought_RX6 (by decide +kernel)) (fz_pre (va_recv hK hP (ci := 6) (q0 := 22) rfl rfl) hPc hKc hDc) rfl rfl hl.1 rfl (lv_room (Nat.le_of_ble_eq_true rfl)) dX5_settle_67 (by decide +kernel)) hS (fun q _ h => hFc q h) hFc (fun r25 u t9_ H locs ht hvm hw9 hB9 hz1 hk1 hS => ?_)
            revert u hw9 hB9
            refine fz_p6 ?_
            intro fQ_inside_25 fQ_outside_25 fQ_shut_25 wl_25 wb_25 wG_25 hw9 hB9
            try dsimp only at hw9 hB9
            revert hw9
            refine fz_a3 ?_
            intro b_wl_25 b_wb_25 b_r25
            have p8 := cj_4_2_3 (WO hO aO kO hM hQ hw iO_answered iO_searched iO_searchedRelaxed iO_counted fO_countedCase gO_goalNumber gO_goalScale fO_start fO_column fO_chosen) (WM hM aM kM iM_stands iM_variables iM_rows iM_goals iM_differents iM_cases fM_from fM_to fM_whole fM_ways iM_plainRows fM_plainRow fM_kept fM_goalOver fM_goalUnder fM_goalMax fM_different) (WQ hQ aQ kQ hw fQ_inside_25 fQ_outside_25 fQ_shut_25 iQ_rows iQ_allRows iQ_columns) (WW nW hw lw kw wl_25 wb_25 wG_25)
            obtain ⟨hP, hD⟩ := frameG p9 p8 hP hD hk1 hFc (fz_P ht hB9.1) hB9.2
            refine lv_if_ne (tgt := 75) hx hb dX5_settle_70 (by decide) (fun c_70 => ?_) (fun c_70 => ?_)
            · have t_70 : r25.toInt ≠ 0 := toI_ne c_70 rfl (by decide : (0 : Int32).toInt = 0)
              refine lv_iinc (v := (iI (l2_x4.toInt + 1))) hx hb dX5_settle_75 hl (k := 2) rfl (iI_add2 (iI_of _) (by decide : (1 : Int32) = iI 1)) (by decide) rfl (fun ls (hl : lv_has ls _ ([(2, .int (iI (l2_x4.toInt + 1))), (4, .int r24), (3, .int l3_x4), (0, .ref (hO 0)), (1, .int p1)])) => ?_)
              refine lv_iinc (v := (iI (l3_x4.toInt + 1))) hx hb dX5_settle_78 hl (k := 2) rfl (iI_add2 (iI_of _) (by decide : (1 : Int32) = iI 1)) (by decide) rfl (fun ls (hl : lv_has ls _ ([(3, .int (iI (l3_x4.toInt + 1))), (2, .int (iI (l2_x4.toInt + 1))), (4, .int r24), (0, .ref (hO 0)), (1, .int p1)])) => ?_)
              refine lv_goto (tgt := 4) hx hb dX5_settle_81 (by decide) ?_
              have hl : lv_has _ _ ([(3, .int (iI (l3_x4.toInt + 1))), (2, .int (iI (l2_x4.toInt + 1))), (0, .ref (hO 0)), (1, .int p1)]) := lv_sub hl [0, 1, 3, 4] rfl
              exact ihx4 fQ_inside_25 fQ_outside_25 fQ_shut_25 wl_25 wb_25 wG_25 (iI (l3_x4.toInt + 1)) (iI (l2_x4.toInt + 1)) _ _ _ b_wl_25 b_wb_25 (iI_rng (Int.le_trans (by decide) (Int.add_le_add (b_l3_x4.1) (Int.le_refl _))) (by omega) (by decide) (by decide)) (iI_rng (Int.le_trans (by decide) (Int.add_le_add (b_l2_x4.1) (Int.le_refl _))) (by omega) (by decide) (by decide)) (show (iI (l2_x4.toInt + 1)).toInt ≤ (iI (l3_x4.toInt + 1)).toInt from by (try rw [iI_t (E := l2_x4.toInt + 1) (by omega) (by omega)]); rw [iI_t (E := l3_x4.toInt + 1) (by omega) (by omega)]; omega) (by have e9 : ((iI (l3_x4.toInt + 1))).toInt = (l3_x4.toInt + 1) := (iI_t (Int.le_trans (by decide) (Int.add_le_add (b_l3_x4.1) (Int.le_refl _))) (Int.le_trans (Int.add_le_add (b_l3_x4.2) (Int.le_refl _)) (by decide))); omega) hP hD hS hl
            · have t_70 : r25.toInt = 0 := toI_nne c_70 rfl (by decide : (0 : Int32).toInt = 0)
              refine lv_iconst (v := 0) hx hb dX5_settle_73 (by decide) ?_
              refine W.widen (k := 0) (n := 0) (by decide +kernel) (by decide +kernel) ?_
              exact W.zret (v := 0) hx hb hr rfl (fun t9_ ht hW => ⟨⟨(0 : Int32), (fQ_inside_25, fQ_outside_25, fQ_shut_25, wl_25, wb_25, wG_25), rfl, ⟨b_wl_25, b_wb_25, (show 0 ≤ (0 : Int32).toInt ∧ (0 : Int32).toInt ≤ 1 from by decide)⟩, by rw [ht]; exact hP, hD⟩, hS.F ht⟩) hS.2.2 dX5_settle_74
      · have t_16 : ¬ p1.toInt = 0 := toI_neq c_16 rfl (by decide : (0 : Int32).toInt = 0)
        refine lv_aload_n hx hb dX5_settle_19 rfl (lv_at hl 2 rfl) ?_
        refine va_get (D := (dC, dI)) (ci := 5) (v := .ref (hM 0)) (C := RX5) (T := TX5) (N := 19) hx hb hts iwsMX5_settle_in5 hown hK hP 0 rfl rfl 0 (by decide) (hts _ hm_m_X5_settle_0) (fun _ h9 => h9) rfl dX5_settle_20 ?_
        refine va_get (D := (dC, dI)) (ci := 1) (v := .ref (aM 3)) (C := RX1) (T := TX1) (N := 17) hx hb hts iwsMX5_settle_in1 hown hK hP 11 rfl rfl 9 (by decide) (hts (.fieldLink RX5 134 "OptimaWorks$Model" "ways" "[I") (by decide +kernel)) (fun _ h9 => h9) rfl dX5_settle_23 ?_
        refine lv_iload_n hx hb dX5_settle_26 rfl (lv_at hl 0 rfl) ?_
        refine va_iald (cA := kM 3) (n := 12) (f := fM_ways) hx hb hK hP 15 13 rfl rfl (vp_in_iff.mpr ⟨b_l3_x4.1, (by omega)⟩) dX5_settle_27 ?_
        refine lv_topi (fun v26 hv26 => ?_)
        have b_v26 : 0 ≤ v26.toInt ∧ v26.toInt ≤ 3 := by rw [hv26]; exact b_fM_ways _
        clear hv26
        refine lv_iconst (v := 1) hx hb dX5_settle_28 (by decide) ?_
        refine lv_icmp_ne (tgt := 78) hx hb dX5_settle_29 (by decide) (fun c_29 => ?_) (fun c_29 => ?_)
        · have t_29 : v26.toInt ≠ 1 := toI_ne c_29 rfl (by decide : (1 : Int32).toInt = 1)
          refine lv_iinc (v := (iI (l3_x4.toInt + 1))) hx hb dX5_settle_78 hl (k := 0) rfl (iI_add2 (iI_of _) (by decide : (1 : Int32) = iI 1)) (by decide) rfl (fun ls (hl : lv_has ls _ ([(3, .int (iI (l3_x4.toInt + 1))), (2, .int l2_x4), (0, .ref (hO 0)), (1, .int p1)])) => ?_)
          refine lv_goto (tgt := 4) hx hb dX5_settle_81 (by decide) ?_
          have hl : lv_has _ _ ([(3, .int (iI (l3_x4.toInt + 1))), (2, .int l2_x4), (0, .ref (hO 0)), (1, .int p1)]) := lv_sub hl [0, 1, 2, 3] rfl
          exact ihx4 fQ_inside_x4 fQ_outside_x4 fQ_shut_x4 wl_x4 wb_x4 wG_x4 (iI (l3_x4.toInt + 1)) l2_x4 _ _ _ b_wl_x4 b_wb_x4 (iI_rng (Int.le_trans (by decide) (Int.add_le_add (b_l3_x4.1) (Int.le_refl _))) (by omega) (by decide) (by decide)) (b_l2_x4) (show l2_x4.toInt ≤ (iI (l3_x4.toInt + 1)).toInt from by (try rw [iI_t (E := l2_x4.toInt + 1) (by omega) (by omega)]); rw [iI_t (E := l3_x4.toInt + 1) (by omega) (by omega)]; omega) (by have e9 : ((iI (l3_x4.toInt + 1))).toInt = (l3_x4.toInt + 1) := (iI_t (Int.le_trans (by decide) (Int.add_le_add (b_l3_x4.1) (Int.le_refl _))) (Int.le_trans (Int.add_le_add (b_l3_x4.2) (Int.le_refl _)) (by decide))); omega) hP hD hS hl
        · have t_29 : v26.toInt = 1 := toI_nne c_29 rfl (by decide : (1 : Int32).toInt = 1)
          refine lv_aload_n hx hb dX5_settle_32 rfl (lv_at hl 2 rfl) ?_
          refine va_get (D := (dC, dI)) (ci := 5) (v := .ref (hM 0)) (C := RX5) (T := TX5) (N := 19) hx hb hts iwsMX5_settle_in5 hown hK hP 0 rfl rfl 0 (by decide) (hts _ hm_m_X5_settle_0) (fun _ h9 => h9) rfl dX5_settle_33 ?_
          refine lv_iload_n hx hb dX5_settle_36 rfl (lv_at hl 0 rfl) ?_
          refine lv_iload_n hx hb dX5_settle_37 rfl (lv_at hl 3 rfl) ?_
          refine W.cut (pc := 51) (fun H locs ls stk => ∃ (k0_j12 : Int32), (0 ≤ k0_j12.toInt ∧ k0_j12.toInt ≤ 2) ∧  stk = [.int k0_j12, .int l3_x4, .ref (hM 0)] ∧ va_P (dC, dI) vwCl (WO hO aO kO hM hQ hw iO_answered iO_searched iO_searchedRelaxed iO_counted fO_countedCase gO_goalNumber gO_goalScale fO_start fO_column fO_chosen ++ (WM hM aM kM iM_stands iM_variables iM_rows iM_goals iM_differents iM_cases fM_from fM_to fM_whole fM_ways iM_plainRows fM_plainRow fM_kept fM_goalOver fM_goalUnder fM_goalMax fM_different ++ (WQ hQ aQ kQ hw fQ_inside_x4 fQ_outside_x4 fQ_shut_x4 iQ_rows iQ_allRows iQ_columns ++ (WW nW hw lw kw wl_x4 wb_x4 wG_x4)))) H ∧ va_D A (WO hO aO kO hM hQ hw iO_answered iO_searched iO_searchedRelaxed iO_counted fO_countedCase gO_goalNumber gO_goalScale fO_start fO_column fO_chosen ++ (WM hM aM kM iM_stands iM_variables iM_rows iM_goals iM_differents iM_cases fM_from fM_to fM_whole fM_ways iM_plainRows fM_plainRow fM_kept fM_goalOver fM_goalUnder fM_goalMax fM_different ++ (WQ hQ aQ kQ hw fQ_inside_x4 fQ_outside_x4 fQ_shut_x4 iQ_rows iQ_allRows iQ_columns ++ (WW nW hw lw kw wl_x4 wb_x4 wG_x4)))) ∧ va_S A s.heap H locs ∧ lv_has ls 5 [(3, .int l3_x4), (2, .int l2_x4), (0, .ref (hO 0)), (1, .int p1)]) (fun join12 => ?_) ?_
          · refine lv_if_eq (tgt := 45) hx hb dX5_settle_38 (by decide) (fun c_38 => ?_) (fun c_38 => ?_)
            · have t_38 : p1.toInt = 0 := toI_eq c_38 rfl (by decide : (0 : Int32).toInt = 0)
              refine lv_aload_n hx hb dX5_settle_45 rfl (lv_at hl 2 rfl) ?_
              refine va_get (D := (dC, dI)) (ci := 5) (v := .ref (aO 5)) (C := RX5) (T := TX5) (N := 19) hx hb hts iwsMX5_settle_in5 hown hK hP 0 rfl rfl 11 (by decide) (hts _ hm_m_X5_settle_2) (fun _ h9 => h9) rfl dX5_settle_46 ?_
              refine lv_iload_n hx hb dX5_settle_49 rfl (lv_at hl 0 rfl) ?_
              refine va_iald (cA := kO 5) (n := 12) (f := fO_chosen) hx hb hK hP 6 5 rfl rfl (vp_in_iff.mpr ⟨b_l3_x4.1, (by omega)⟩) dX5_settle_50 ?_
              refine lv_topi (fun v28 hv28 => ?_)
              have b_v28 : 0 ≤ v28.toInt ∧ v28.toInt ≤ 2 := by rw [hv28]; exact b_fO_chosen _
              clear hv28
              have hl : lv_has _ _ ([(3, .int l3_x4), (2, .int l2_x4), (0, .ref (hO 0)), (1, .int p1)]) := lv_sub hl [0, 1, 2, 3] rfl
              exact join12 _ _ _ _ ⟨v28, (b_v28), rfl, hP, hD, hS, hl⟩
            · have t_38 : ¬ p1.toInt = 0 := toI_neq c_38 rfl (by decide : (0 : Int32).toInt = 0)
              refine lv_iconst (v := 0) hx hb dX5_settle_41 (by decide) ?_
              refine lv_goto (tgt := 51) hx hb dX5_settle_42 (by decide) ?_
              have hl : lv_has _ _ ([(3, .int l3_x4), (2, .int l2_x4), (0, .ref (hO 0)), (1, .int p1)]) := lv_sub hl [0, 1, 2, 3] rfl
              exact join12 _ _ _ _ ⟨0, (show 0 ≤ (0 : Int32).toInt ∧ (0 : Int32).toInt ≤ 2 from by decide), rfl, hP, hD, hS, hl⟩
          · rintro H locs ls stk ⟨k0_j12, b_k0_j12, rfl, hP, hD, hS, hl⟩
            have p9 := cj_4_1 (WO hO aO kO hM hQ hw iO_answered iO_searched iO_searchedRelaxed iO_counted fO_countedCase gO_goalNumber gO_goalScale fO_start fO_column fO_chosen) (WM hM aM kM iM_stands iM_variables iM_rows iM_goals iM_differents iM_cases fM_from fM_to fM_whole fM_ways iM_plainRows fM_plainRow fM_kept fM_goalOver fM_goalUnder fM_goalMax fM_different) (WQ hQ aQ kQ hw fQ_inside_x4 fQ_outside_x4 fQ_shut_x4 iQ_rows iQ_allRows iQ_columns) (WW nW hw lw kw wl_x4 wb_x4 wG_x4)
            have hPc := hP.mem (fun q h => p9.mem_iff.mpr (List.mem_append_left _ h))
            have hDc := (hD.perm p9).left
            have hKc : va_K (dC, dI) vwCl (tM kM) _ := hK.sub [10, 11, 12, 13, 14, 15, 16, 17, 18, 19] rfl
            have hFc := freeG p9 hD hS hA
            refine va_calli (va_runV (As := [.int l3_x4, .int k0_j12]) (rest := []) ⟨hx, hb, hml, hown, hts⟩ (m_X1_sign l dC dI hM aM kM iM_stands iM_variables iM_rows iM_goals iM_differents iM_cases fM_from fM_to fM_whole fM_ways iM_plainRows fM_plainRow fM_kept fM_goalOver fM_goalUnder fM_goalMax fM_different l3_x4 k0_j12 (b_iM_stands) (b_iM_variables) (b_iM_rows) (b_iM_goals) (b_iM_differents) (b_iM_cases) b_fM_ways (b_iM_plainRows) b_fM_plainRow (by first | with_reducible assumption | omega | assumption) (by first | exact b_l3_x4 | with_reducible assumption | exact ⟨by omega, by omega⟩ | assumption) (b_k0_j12) H.size) (cwV 2 hts gwsMX5_settle_1 rfl rfl rfl hd_yX1_sign_RX1 (by decide +kernel)) (fz_pre (va_recv hK hP (ci := 1) (q0 := 11) rfl rfl) hPc hKc hDc) rfl rfl hl.1 rfl (lv_room (Nat.le_of_ble_eq_true rfl)) dX5_settle_51 (by decide +kernel)) hS (fun q _ h => hFc q h) hFc (fun r29 u t9_ H locs ht hvm hw9 hB9 hz1 hk1 hS => ?_)
            clear hw9
            have p8 := p9
            obtain ⟨hP, hD⟩ := frameG p9 p8 hP hD hk1 hFc (fz_P ht hB9.1) hB9.2
            refine lv_istore hx hb dX5_settle_54 hl (by decide) rfl (fun ls (hl : lv_has ls _ ([(4, .int r29), (3, .int l3_x4), (2, .int l2_x4), (0, .ref (hO 0)), (1, .int p1)])) => ?_)
            refine lv_iload hx hb dX5_settle_56 (lv_at hl 0 rfl) ?_
            refine lv_iconst (v := 2) hx hb dX5_settle_58 (by decide) ?_
            refine lv_icmp_ne (tgt := 75) hx hb dX5_settle_59 (by decide) (fun c_59 => ?_) (fun c_59 => ?_)
            · have t_59 : r29.toInt ≠ 2 := toI_ne c_59 rfl (by decide : (2 : Int32).toInt = 2)
              refine lv_iinc (v := (iI (l2_x4.toInt + 1))) hx hb dX5_settle_75 hl (k := 2) rfl (iI_add2 (iI_of _) (by decide : (1 : Int32) = iI 1)) (by decide) rfl (fun ls (hl : lv_has ls _ ([(2, .int (iI (l2_x4.toInt + 1))), (4, .int r29), (3, .int l3_x4), (0, .ref (hO 0)), (1, .int p1)])) => ?_)
              refine lv_iinc (v := (iI (l3_x4.toInt + 1))) hx hb dX5_settle_78 hl (k := 2) rfl (iI_add2 (iI_of _) (by decide : (1 : Int32) = iI 1)) (by decide) rfl (fun ls (hl : lv_has ls _ ([(3, .int (iI (l3_x4.toInt + 1))), (2, .int (iI (l2_x4.toInt + 1))), (4, .int r29), (0, .ref (hO 0)), (1, .int p1)])) => ?_)
              refine lv_goto (tgt := 4) hx hb dX5_settle_81 (by decide) ?_
              have hl : lv_has _ _ ([(3, .int (iI (l3_x4.toInt + 1))), (2, .int (iI (l2_x4.toInt + 1))), (0, .ref (hO 0)), (1, .int p1)]) := lv_sub hl [0, 1, 3, 4] rfl
              exact ihx4 fQ_inside_x4 fQ_outside_x4 fQ_shut_x4 wl_x4 wb_x4 wG_x4 (iI (l3_x4.toInt + 1)) (iI (l2_x4.toInt + 1)) _ _ _ b_wl_x4 b_wb_x4 (iI_rng (Int.le_trans (by decide) (Int.add_le_add (b_l3_x4.1) (Int.le_refl _))) (by omega) (by decide) (by decide)) (iI_rng (Int.le_trans (by decide) (Int.add_le_add (b_l2_x4.1) (Int.le_refl _))) (by omega) (by decide) (by decide)) (show (iI (l2_x4.toInt + 1)).toInt ≤ (iI (l3_x4.toInt + 1)).toInt from by (try rw [iI_t (E := l2_x4.toInt + 1) (by omega) (by omega)]); rw [iI_t (E := l3_x4.toInt + 1) (by omega) (by omega)]; omega) (by have e9 : ((iI (l3_x4.toInt + 1))).toInt = (l3_x4.toInt + 1) := (iI_t (Int.le_trans (by decide) (Int.add_le_add (b_l3_x4.1) (Int.le_refl _))) (Int.le_trans (Int.add_le_add (b_l3_x4.2) (Int.le_refl _)) (by decide))); omega) hP hD hS hl
            · have t_59 : r29.toInt = 2 := toI_nne c_59 rfl (by decide : (2 : Int32).toInt = 2)
              refine lv_aload_n hx hb dX5_settle_62 rfl (lv_at hl 3 rfl) ?_
              refine va_get (D := (dC, dI)) (ci := 5) (v := .ref (hQ 0)) (C := RX5) (T := TX5) (N := 19) hx hb hts iwsMX5_settle_in5 hown hK hP 0 rfl rfl 1 (by decide) (hts _ hm_m_X5_settle_1) (fun _ h9 => h9) rfl dX5_settle_63 ?_
              refine lv_iload_n hx hb dX5_settle_66 rfl (lv_at hl 2 rfl) ?_
              have p9 := cj_4_2_3 (WO hO aO kO hM hQ hw iO_answered iO_searched iO_searchedRelaxed iO_counted fO_countedCase gO_goalNumber gO_goalScale fO_start fO_column fO_chosen) (WM hM aM kM iM_stands iM_variables iM_rows iM_goals iM_differents iM_cases fM_from fM_to fM_whole fM_ways iM_plainRows fM_plainRow fM_kept fM_goalOver fM_goalUnder fM_goalMax fM_different) (WQ hQ aQ kQ hw fQ_inside_x4 fQ_outside_x4 fQ_shut_x4 iQ_rows iQ_allRows iQ_columns) (WW nW hw lw kw wl_x4 wb_x4 wG_x4)
              have hPc := hP.mem (fun q h => p9.mem_iff.mpr (List.mem_append_left _ h))
              have hDc := (hD.perm p9).left
              have hKc : va_K (dC, dI) vwCl (tQ kQ ++ (tW kw)) _ := hK.sub [20, 21, 22, 23, 24] rfl
              have hFc := freeG p9 hD hS hA
              refine va_calli (va_runV (As := [.int l2_x4]) (rest := []) ⟨hx, hb, hml, hown, hts⟩ (m_X6_holdAtNought l dC dI hQ aQ kQ hw fQ_inside_x4 fQ_outside_x4 fQ_shut_x4 iQ_rows iQ_allRows iQ_columns nW lw kw wl_x4 wb_x4 wG_x4 l2_x4 (b_iQ_rows) (b_iQ_allRows) (b_iQ_columns) (by first | with_reducible assumption | omega | assumption) b_wl_x4 b_wb_x4 (⟨b_l2_x4.1, Int.le_trans b_l2_x4.2 (by decide)⟩) (by omega) (FitR.small (I := 39) (C := 8) (by omega) (by omega) (by omega) (by omega) (by decide)) H.size) (cwV 1 hts gwsMX5_settle_2 rfl rfl rfl hd_yX6_holdAtNought_RX6 (by decide +kernel)) (fz_pre (va_recv hK hP (ci := 6) (q0 := 22) rfl rfl) hPc hKc hDc) rfl rfl hl.1 rfl (lv_room (Nat.le_of_ble_eq_true rfl)) dX5_settle_67 (by decide +kernel)) hS (fun q _ h => hFc q h) hFc (fun r30 u t9_ H locs ht hvm hw9 hB9 hz1 hk1 hS => ?_)
              revert u hw9 hB9
              refine fz_p6 ?_
              intro fQ_inside_30 fQ_outside_30 fQ_shut_30 wl_30 wb_30 wG_30 hw9 hB9
              try dsimp only at hw9 hB9
              revert hw9
              refine fz_a3 ?_
              intro b_wl_30 b_wb_30 b_r30
              have p8 := cj_4_2_3 (WO hO aO kO hM hQ hw iO_answered iO_searched iO_searchedRelaxed iO_counted fO_countedCase gO_goalNumber gO_goalScale fO_start fO_column fO_chosen) (WM hM aM kM iM_stands iM_variables iM_rows iM_goals iM_differents iM_cases fM_from fM_to fM_whole fM_ways iM_plainRows fM_plainRow fM_kept fM_goalOver fM_goalUnder fM_goalMax fM_different) (WQ hQ aQ kQ hw fQ_inside_30 fQ_outside_30 fQ_shut_30 iQ_rows iQ_allRows iQ_columns) (WW nW hw lw kw wl_30 wb_30 wG_30)
              obtain ⟨hP, hD⟩ := frameG p9 p8 hP hD hk1 hFc (fz_P ht hB9.1) hB9.2
              refine lv_if_ne (tgt := 75) hx hb dX5_settle_70 (by decide) (fun c_70 => ?_) (fun c_70 => ?_)
              · have t_70 : r30.toInt ≠ 0 := toI_ne c_70 rfl (by decide : (0 : Int32).toInt = 0)
                refine lv_iinc (v := (iI (l2_x4.toInt + 1))) hx hb dX5_settle_75 hl (k := 2) rfl (iI_add2 (iI_of _) (by decide : (1 : Int32) = iI 1)) (by decide) rfl (fun ls (hl : lv_has ls _ ([(2, .int (iI (l2_x4.toInt + 1))), (4, .int r29), (3, .int l3_x4), (0, .ref (hO 0)), (1, .int p1)])) => ?_)
                refine lv_iinc (v := (iI (l3_x4.toInt + 1))) hx hb dX5_settle_78 hl (k := 2) rfl (iI_add2 (iI_of _) (by decide : (1 : Int32) = iI 1)) (by decide) rfl (fun ls (hl : lv_has ls _ ([(3, .int (iI (l3_x4.toInt + 1))), (2, .int (iI (l2_x4.toInt + 1))), (4, .int r29), (0, .ref (hO 0)), (1, .int p1)])) => ?_)
                refine lv_goto (tgt := 4) hx hb dX5_settle_81 (by decide) ?_
                have hl : lv_has _ _ ([(3, .int (iI (l3_x4.toInt + 1))), (2, .int (iI (l2_x4.toInt + 1))), (0, .ref (hO 0)), (1, .int p1)]) := lv_sub hl [0, 1, 3, 4] rfl
                exact ihx4 fQ_inside_30 fQ_outside_30 fQ_shut_30 wl_30 wb_30 wG_30 (iI (l3_x4.toInt + 1)) (iI (l2_x4.toInt + 1)) _ _ _ b_wl_30 b_wb_30 (iI_rng (Int.le_trans (by decide) (Int.add_le_add (b_l3_x4.1) (Int.le_refl _))) (by omega) (by decide) (by decide)) (iI_rng (Int.le_trans (by decide) (Int.add_le_add (b_l2_x4.1) (Int.le_refl _))) (by omega) (by decide) (by decide)) (show (iI (l2_x4.toInt + 1)).toInt ≤ (iI (l3_x4.toInt + 1)).toInt from by (try rw [iI_t (E := l2_x4.toInt + 1) (by omega) (by omega)]); rw [iI_t (E := l3_x4.toInt + 1) (by omega) (by omega)]; omega) (by have e9 : ((iI (l3_x4.toInt + 1))).toInt = (l3_x4.toInt + 1) := (iI_t (Int.le_trans (by decide) (Int.add_le_add (b_l3_x4.1) (Int.le_refl _))) (Int.le_trans (Int.add_le_add (b_l3_x4.2) (Int.le_refl _)) (by decide))); omega) hP hD hS hl
              · have t_70 : r30.toInt = 0 := toI_nne c_70 rfl (by decide : (0 : Int32).toInt = 0)
                refine lv_iconst (v := 0) hx hb dX5_settle_73 (by decide) ?_
                refine W.widen (k := 0) (n := 0) (by decide +kernel) (by decide +kernel) ?_
                exact W.zret (v := 0) hx hb hr rfl (fun t9_ ht hW => ⟨⟨(0 : Int32), (fQ_inside_30, fQ_outside_30, fQ_shut_30, wl_30, wb_30, wG_30), rfl, ⟨b_wl_30, b_wb_30, (show 0 ≤ (0 : Int32).toInt ∧ (0 : Int32).toInt ≤ 1 from by decide)⟩, by rw [ht]; exact hP, hD⟩, hS.F ht⟩) hS.2.2 dX5_settle_74
theorem dX5_goalRow_0 : decode cX5_goalRow 0 = .ok (.aload_n 0, 1) := dk_42 (by decide +kernel)
theorem dX5_goalRow_1 : decode cX5_goalRow 1 = .ok (.getfield 12, 3) := dk_180 (by decide +kernel)
theorem dX5_goalRow_4 : decode cX5_goalRow 4 = .ok (.invokevirtual 221, 3) := dk_182 (by decide +kernel)
theorem dX5_goalRow_7 : decode cX5_goalRow 7 = .ok (.iload_n 1, 1) := dk_27 (by decide +kernel)
theorem dX5_goalRow_8 : decode cX5_goalRow 8 = .ok (.iadd, 1) := dk_96 (by decide +kernel)
theorem dX5_goalRow_9 : decode cX5_goalRow 9 = .ok (.ireturn, 1) := dk_172 (by decide +kernel)
def wsMX5_goalRow : List Cond := .code yX5_goalRow cX5_goalRow 2 (some .int) :: ([.fieldLink RX5 12 "OptimaWorks$Solver" "tableau" "LOptimaWorks$Tableau;"] ++ wsX50 ++ (wsV RX5 221 RX6 yX6_rowCount wsMX6_rowCount))
theorem iwsMX5_goalRow_in5 : ∀ w ∈ wsX50, w ∈ wsMX5_goalRow := fun _ h => List.mem_cons_of_mem _ (List.mem_append_left _ (List.mem_append_right _ h))
theorem gwsMX5_goalRow_0 : GoodIn wsMX5_goalRow (wsV RX5 221 RX6 yX6_rowCount wsMX6_rowCount) := goodIn_sub (fun _ h => List.mem_cons_of_mem _ (List.mem_append_right _ h)) (gdV (by decide +kernel) gdwsMX6_rowCount)
theorem gdwsMX5_goalRow : wsMX5_goalRow.all goodWord = true := gdC rfl (gdA (gdA (by decide +kernel : ([.fieldLink RX5 12 "OptimaWorks$Solver" "tableau" "LOptimaWorks$Tableau;"] : List Cond).all goodWord = true) gdwsX50) (gdV (by decide +kernel) gdwsMX6_rowCount))
set_option maxHeartbeats 4000000 in
set_option maxRecDepth 100000 in
/-- the row of a goal -/
theorem m_X5_goalRow (l : Launch) (dC : Nat → ClassId) (dI : Nat → Nat → Nat) (hO : Nat → Nat) (aO : Nat → Nat) (kO : Nat → ClassId) (hM : Nat → Nat) (hQ : Nat → Nat) (hw : Nat → Nat) (iO_answered : Int32) (iO_searched : Int32) (iO_searchedRelaxed : Int32) (iO_counted : Int32) (fO_countedCase : Nat → Int32) (gO_goalNumber : Nat → Int64) (gO_goalScale : Nat → Int64) (fO_start : Nat → Int32) (fO_column : Nat → Int32) (fO_chosen : Nat → Int32) (aM : Nat → Nat) (kM : Nat → ClassId) (iM_stands : Int32) (iM_variables : Int32) (iM_rows : Int32) (iM_goals : Int32) (iM_differents : Int32) (iM_cases : Int32) (fM_from : Nat → Int32) (fM_to : Nat → Int32) (fM_whole : Nat → Int32) (fM_ways : Nat → Int32) (iM_plainRows : Int32) (fM_plainRow : Nat → Int32) (fM_kept : Nat → Int32) (fM_goalOver : Nat → Int32) (fM_goalUnder : Nat → Int32) (fM_goalMax : Nat → Int32) (fM_different : Nat → Int32) (aQ : Nat → Nat) (kQ : Nat → ClassId) (fQ_inside : Nat → Int32) (fQ_outside : Nat → Int32) (fQ_shut : Nat → Int32) (iQ_rows : Int32) (iQ_allRows : Int32) (iQ_columns : Int32) (nW : Nat) (lw : Nat → Nat) (kw : ClassId) (wl : Nat → Int32) (wb : Nat → Int32) (wG : Nat → Nat → Int64) (p1 : Int32) (b_iO_answered : 0 ≤ iO_answered.toInt ∧ iO_answered.toInt ≤ 1) (b_iO_searched : 0 ≤ iO_searched.toInt ∧ iO_searched.toInt ≤ 1) (b_iO_searchedRelaxed : 0 ≤ iO_searchedRelaxed.toInt ∧ iO_searchedRelaxed.toInt ≤ 1) (b_iO_counted : (-1) ≤ iO_counted.toInt ∧ iO_counted.toInt ≤ 64) (b_fO_countedCase : ∀ q : Nat, 0 ≤ (fO_countedCase q).toInt ∧ (fO_countedCase q).toInt ≤ 200000) (b_fO_column : ∀ q : Nat, (-1) ≤ (fO_column q).toInt ∧ (fO_column q).toInt ≤ 8) (b_fO_chosen : ∀ q : Nat, 0 ≤ (fO_chosen q).toInt ∧ (fO_chosen q).toInt ≤ 2) (b_iM_stands : 0 ≤ iM_stands.toInt ∧ iM_stands.toInt ≤ 1) (b_iM_variables : 0 ≤ iM_variables.toInt ∧ iM_variables.toInt ≤ 8) (b_iM_rows : 0 ≤ iM_rows.toInt ∧ iM_rows.toInt ≤ 12) (b_iM_goals : 0 ≤ iM_goals.toInt ∧ iM_goals.toInt ≤ 3) (b_iM_differents : 0 ≤ iM_differents.toInt ∧ iM_differents.toInt ≤ 8) (b_iM_cases : 0 ≤ iM_cases.toInt ∧ iM_cases.toInt ≤ 200000) (b_fM_ways : ∀ q : Nat, 0 ≤ (fM_ways q).toInt ∧ (fM_ways q).toInt ≤ 3) (b_iM_plainRows : 0 ≤ iM_plainRows.toInt ∧ iM_plainRows.toInt ≤ 12) (b_fM_plainRow : ∀ q : Nat, 0 ≤ (fM_plainRow q).toInt ∧ (fM_plainRow q).toInt ≤ 11) (b_pr : iM_plainRows.toInt ≤ iM_rows.toInt) (b_iQ_rows : 0 ≤ iQ_rows.toInt ∧ iQ_rows.toInt ≤ 40) (b_iQ_allRows : 0 ≤ iQ_allRows.toInt ∧ iQ_allRows.toInt ≤ 40) (b_iQ_columns : 0 ≤ iQ_columns.toInt ∧ iQ_columns.toInt ≤ 40) (b_tb : TbO iQ_rows iQ_allRows iQ_columns) (b_wl : ∀ q : Nat, 0 ≤ (wl q).toInt ∧ (wl q).toInt ≤ 14) (b_wb : ∀ q : Nat, 0 ≤ (wb q).toInt ∧ (wb q).toInt ≤ 1) (b_p1 : 0 ≤ p1.toInt ∧ p1.toInt ≤ 2) (hnW : 432 ≤ nW) (hr20 : iQ_rows.toInt ≤ 20) (sz : Nat) : Met l yX5_goalRow wsMX5_goalRow ({ frames := 1, cells := 0, slots := 0, locals := 20 }) (va_Pc [.ref (hO 0), .int p1] (fun U => U.heap.size = sz ∧ va_P (dC, dI) vwCl (WO hO aO kO hM hQ hw iO_answered iO_searched iO_searchedRelaxed iO_counted fO_countedCase gO_goalNumber gO_goalScale fO_start fO_column fO_chosen ++ (WM hM aM kM iM_stands iM_variables iM_rows iM_goals iM_differents iM_cases fM_from fM_to fM_whole fM_ways iM_plainRows fM_plainRow fM_kept fM_goalOver fM_goalUnder fM_goalMax fM_different ++ (WQ hQ aQ kQ hw fQ_inside fQ_outside fQ_shut iQ_rows iQ_allRows iQ_columns ++ (WW nW hw lw kw wl wb wG)))) U.heap ∧ va_K (dC, dI) vwCl (tO kO ++ (tM kM ++ (tQ kQ ++ (tW kw)))) U ∧ va_D (fun _ => True) (WO hO aO kO hM hQ hw iO_answered iO_searched iO_searchedRelaxed iO_counted fO_countedCase gO_goalNumber gO_goalScale fO_start fO_column fO_chosen ++ (WM hM aM kM iM_stands iM_variables iM_rows iM_goals iM_differents iM_cases fM_from fM_to fM_whole fM_ways iM_plainRows fM_plainRow fM_kept fM_goalOver fM_goalUnder fM_goalMax fM_different ++ (WQ hQ aQ kQ hw fQ_inside fQ_outside fQ_shut iQ_rows iQ_allRows iQ_columns ++ (WW nW hw lw kw wl wb wG)))))) (va_Qi (fun (r : Int32) (u : Unit) => (0 ≤ r.toInt ∧ r.toInt ≤ 22)) (fun (u : Unit) t => va_P (dC, dI) vwCl (WO hO aO kO hM hQ hw iO_answered iO_searched iO_searchedRelaxed iO_counted fO_countedCase gO_goalNumber gO_goalScale fO_start fO_column fO_chosen ++ (WM hM aM kM iM_stands iM_variables iM_rows iM_goals iM_differents iM_cases fM_from fM_to fM_whole fM_ways iM_plainRows fM_plainRow fM_kept fM_goalOver fM_goalUnder fM_goalMax fM_different ++ (WQ hQ aQ kQ hw fQ_inside fQ_outside fQ_shut iQ_rows iQ_allRows iQ_columns ++ (WW nW hw lw kw wl wb wG)))) t.heap ∧ va_D (va_A (WO hO aO kO hM hQ hw iO_answered iO_searched iO_searchedRelaxed iO_counted fO_countedCase gO_goalNumber gO_goalScale fO_start fO_column fO_chosen ++ (WM hM aM kM iM_stands iM_variables iM_rows iM_goals iM_differents iM_cases fM_from fM_to fM_whole fM_ways iM_plainRows fM_plainRow fM_kept fM_goalOver fM_goalUnder fM_goalMax fM_different ++ (WQ hQ aQ kQ hw fQ_inside fQ_outside fQ_shut iQ_rows iQ_allRows iQ_columns ++ (WW nW hw lw kw wl wb wG)))) sz) (WO hO aO kO hM hQ hw iO_answered iO_searched iO_searchedRelaxed iO_counted fO_countedCase gO_goalNumber gO_goalScale fO_start fO_column fO_chosen ++ (WM hM aM kM iM_stands iM_variables iM_rows iM_goals iM_differents iM_cases fM_from fM_to fM_whole fM_ways iM_plainRows fM_plainRow fM_kept fM_goalOver fM_goalUnder fM_goalMax fM_different ++ (WQ hQ aQ kQ hw fQ_inside fQ_outside fQ_shut iQ_rows iQ_allRows iQ_columns ++ (WW nW hw lw kw wl wb wG))))) (va_A (WO hO aO kO hM hQ hw iO_answered iO_searched iO_searchedRelaxed iO_counted fO_countedCase gO_goalNumber gO_goalScale fO_start fO_column fO_chosen ++ (WM hM aM kM iM_stands iM_variables iM_rows iM_goals iM_differents iM_cases fM_from fM_to fM_whole fM_ways iM_plainRows fM_plainRow fM_kept fM_goalOver fM_goalUnder fM_goalMax fM_different ++ (WQ hQ aQ kQ hw fQ_inside fQ_outside fQ_shut iQ_rows iQ_allRows iQ_columns ++ (WW nW hw lw kw wl wb wG)))) sz)) 0 0 (va_A (WO hO aO kO hM hQ hw iO_answered iO_searched iO_searchedRelaxed iO_counted fO_countedCase gO_goalNumber gO_goalScale fO_start fO_column fO_chosen ++ (WM hM aM kM iM_stands iM_variables iM_rows iM_goals iM_differents iM_cases fM_from fM_to fM_whole fM_ways iM_plainRows fM_plainRow fM_kept fM_goalOver fM_goalUnder fM_goalMax fM_different ++ (WQ hQ aQ kQ hw fQ_inside fQ_outside fQ_shut iQ_rows iQ_allRows iQ_columns ++ (WW nW hw lw kw wl wb wG)))) sz) := by
  refine Met.ofW (cc := cX5_goalRow) (maxL := 2) (ret := (some .int)) (by decide) rfl ?_
  intro p e s m args below meth c s₁ B hml hv
  obtain ⟨rfl, hsz, hP, hK, hD0⟩ := hv
  have hx := B.exec
  have hb := B.bytes
  have hr := B.returns
  have hts := atoms_spec (ws := wsMX5_goalRow) B.pre
  have hown : s.vm.findClass RX5 = some m.cls := findClass_of_methodNamed B.named
  have hlocks := B.notSynchronized
  subst hsz
  have hD := hD0.self (sz := s.heap.size)
  generalize hAe : va_A (WO hO aO kO hM hQ hw iO_answered iO_searched iO_searchedRelaxed iO_counted fO_countedCase gO_goalNumber gO_goalScale fO_start fO_column fO_chosen ++ (WM hM aM kM iM_stands iM_variables iM_rows iM_goals iM_differents iM_cases fM_from fM_to fM_whole fM_ways iM_plainRows fM_plainRow fM_kept fM_goalOver fM_goalUnder fM_goalMax fM_different ++ (WQ hQ aQ kQ hw fQ_inside fQ_outside fQ_shut iQ_rows iQ_allRows iQ_columns ++ (WW nW hw lw kw wl wb wG)))) s.heap.size = A at hD ⊢
  have hA : ∀ q : Nat, s.heap.size ≤ q → A q := fun q h => by rw [← hAe]; exact Or.inr h
  have hS : va_S A s.heap s.heap [] := va_S.rf
  have hl := lv_entry ([.ref (hO 0), .int p1]) (n := 2) (Nat.le_of_ble_eq_true rfl)
  rw [lg_entry_eq]
  generalize (lg_sl ([.ref (hO 0), .int p1]) ++ List.replicate (2 - (lg_sl ([.ref (hO 0), .int p1])).length) Slot.unset).toArray = ls at hl ⊢
  have hl : lv_has ls 2 [(0, .ref (hO 0)), (1, .int p1)] := hl
  refine lv_aload_n hx hb dX5_goalRow_0 rfl (lv_at hl 0 rfl) ?_
  refine va_get (D := (dC, dI)) (ci := 5) (v := .ref (hQ 0)) (C := RX5) (T := TX5) (N := 19) hx hb hts iwsMX5_goalRow_in5 hown hK hP 0 rfl rfl 1 (by decide) (hts (.fieldLink RX5 12 "OptimaWorks$Solver" "tableau" "LOptimaWorks$Tableau;") (by decide +kernel)) (fun _ h9 => h9) rfl dX5_goalRow_1 ?_
  have p9 := cj_4_2_3 (WO hO aO kO hM hQ hw iO_answered iO_searched iO_searchedRelaxed iO_counted fO_countedCase gO_goalNumber gO_goalScale fO_start fO_column fO_chosen) (WM hM aM kM iM_stands iM_variables iM_rows iM_goals iM_differents iM_cases fM_from fM_to fM_whole fM_ways iM_plainRows fM_plainRow fM_kept fM_goalOver fM_goalUnder fM_goalMax fM_different) (WQ hQ aQ kQ hw fQ_inside fQ_outside fQ_shut iQ_rows iQ_allRows iQ_columns) (WW nW hw lw kw wl wb wG)
  have hPc := hP.mem (fun q h => p9.mem_iff.mpr (List.mem_append_left _ h))
  have hDc := (hD.perm p9).left
  have hKc : va_K (dC, dI) vwCl (tQ kQ ++ (tW kw)) _ := hK.sub [20, 21, 22, 23, 24] rfl
  have hFc := freeG p9 hD hS hA
  refine va_calli (va_runV (As := []) (rest := []) ⟨hx, hb, hml, hown, hts⟩ (m_X6_rowCount l dC dI hQ aQ kQ hw fQ_inside fQ_outside fQ_shut iQ_rows iQ_allRows iQ_columns nW lw kw wl wb wG (b_iQ_rows) (b_iQ_allRows) (b_iQ_columns) (by first | with_reducible assumption | omega | assumption) b_wl b_wb (by omega) s.heap.size) (cwV 0 hts gwsMX5_goalRow_0 rfl rfl rfl hd_yX6_rowCount_RX6 (by decide +kernel)) (fz_pre (va_recv hK hP (ci := 6) (q0 := 22) rfl rfl) hPc hKc hDc) rfl rfl hl.1 rfl (lv_room (Nat.le_of_ble_eq_true rfl)) dX5_goalRow_4 (by decide +kernel)) hS (fun q _ h => hFc q h) hFc (fun r1 u t9_ H locs ht hvm hw9 hB9 hz1 hk1 hS => ?_)
  revert hw9
  refine fz_a2 ?_
  intro b_r1 f1_0
  have p8 := p9
  obtain ⟨hP, hD⟩ := frameG p9 p8 hP hD hk1 hFc (fz_P ht hB9.1) hB9.2
  refine lv_iload_n hx hb dX5_goalRow_7 rfl (lv_at hl 1 rfl) ?_
  refine lv_iadd hx hb dX5_goalRow_8 ?_
  refine lv_topi (fun y2 hy2 => ?_)
  obtain rfl : (iI (r1.toInt + p1.toInt)) = y2 := (hy2.trans (iI_add2 (iI_of _) (iI_of _))).symm
  refine W.widen (k := 0) (n := 0) (by decide +kernel) (by decide +kernel) ?_
  exact W.iret (v := (iI (r1.toInt + p1.toInt))) hx hb hr (fun t9_ ht hW => ⟨⟨(iI (r1.toInt + p1.toInt)), (), rfl, (iI_rng (by omega) (by omega) (by decide) (by decide)), by rw [ht]; exact hP, hD⟩, hS.F ht⟩) hS.2.2 dX5_goalRow_9
theorem dX5_compare_0 : decode cX5_compare 0 = .ok (.aload_n 0, 1) := dk_42 (by decide +kernel)
theorem dX5_compare_1 : decode cX5_compare 1 = .ok (.getfield 71, 3) := dk_180 (by decide +kernel)
theorem dX5_compare_4 : decode cX5_compare 4 = .ok (.iconst 0, 1) := dk_3 (by decide +kernel)
theorem dX5_compare_5 : decode cX5_compare 5 = .ok (.aaload, 1) := dk_50 (by decide +kernel)
theorem dX5_compare_6 : decode cX5_compare 6 = .ok (.aload_n 1, 1) := dk_43 (by decide +kernel)
theorem dX5_compare_7 : decode cX5_compare 7 = .ok (.aload_n 0, 1) := dk_42 (by decide +kernel)
theorem dX5_compare_8 : decode cX5_compare 8 = .ok (.getfield 58, 3) := dk_180 (by decide +kernel)
theorem dX5_compare_11 : decode cX5_compare 11 = .ok (.invokevirtual 249, 3) := dk_182 (by decide +kernel)
theorem dX5_compare_14 : decode cX5_compare 14 = .ok (.aload_n 0, 1) := dk_42 (by decide +kernel)
theorem dX5_compare_15 : decode cX5_compare 15 = .ok (.getfield 71, 3) := dk_180 (by decide +kernel)
theorem dX5_compare_18 : decode cX5_compare 18 = .ok (.iconst 1, 1) := dk_4 (by decide +kernel)
theorem dX5_compare_19 : decode cX5_compare 19 = .ok (.aaload, 1) := dk_50 (by decide +kernel)
theorem dX5_compare_20 : decode cX5_compare 20 = .ok (.aload_n 2, 1) := dk_44 (by decide +kernel)
theorem dX5_compare_21 : decode cX5_compare 21 = .ok (.aload_n 0, 1) := dk_42 (by decide +kernel)
theorem dX5_compare_22 : decode cX5_compare 22 = .ok (.getfield 12, 3) := dk_180 (by decide +kernel)
theorem dX5_compare_25 : decode cX5_compare 25 = .ok (.getfield 253, 3) := dk_180 (by decide +kernel)
theorem dX5_compare_28 : decode cX5_compare 28 = .ok (.invokevirtual 249, 3) := dk_182 (by decide +kernel)
theorem dX5_compare_31 : decode cX5_compare 31 = .ok (.aload_n 0, 1) := dk_42 (by decide +kernel)
theorem dX5_compare_32 : decode cX5_compare 32 = .ok (.getfield 71, 3) := dk_180 (by decide +kernel)
theorem dX5_compare_35 : decode cX5_compare 35 = .ok (.iconst 1, 1) := dk_4 (by decide +kernel)
theorem dX5_compare_36 : decode cX5_compare 36 = .ok (.aaload, 1) := dk_50 (by decide +kernel)
theorem dX5_compare_37 : decode cX5_compare 37 = .ok (.invokevirtual 256, 3) := dk_182 (by decide +kernel)
theorem dX5_compare_40 : decode cX5_compare 40 = .ok (.aload_n 0, 1) := dk_42 (by decide +kernel)
theorem dX5_compare_41 : decode cX5_compare 41 = .ok (.getfield 71, 3) := dk_180 (by decide +kernel)
theorem dX5_compare_44 : decode cX5_compare 44 = .ok (.iconst 0, 1) := dk_3 (by decide +kernel)
theorem dX5_compare_45 : decode cX5_compare 45 = .ok (.aaload, 1) := dk_50 (by decide +kernel)
theorem dX5_compare_46 : decode cX5_compare 46 = .ok (.aload_n 0, 1) := dk_42 (by decide +kernel)
theorem dX5_compare_47 : decode cX5_compare 47 = .ok (.getfield 71, 3) := dk_180 (by decide +kernel)
theorem dX5_compare_50 : decode cX5_compare 50 = .ok (.iconst 1, 1) := dk_4 (by decide +kernel)
theorem dX5_compare_51 : decode cX5_compare 51 = .ok (.aaload, 1) := dk_50 (by decide +kernel)
theorem dX5_compare_52 : decode cX5_compare 52 = .ok (.invokevirtual 259, 3) := dk_182 (by decide +kernel)
theorem dX5_compare_55 : decode cX5_compare 55 = .ok (.aload_n 0, 1) := dk_42 (by decide +kernel)
theorem dX5_compare_56 : decode cX5_compare 56 = .ok (.getfield 71, 3) := dk_180 (by decide +kernel)
theorem dX5_compare_59 : decode cX5_compare 59 = .ok (.iconst 0, 1) := dk_3 (by decide +kernel)
theorem dX5_compare_60 : decode cX5_compare 60 = .ok (.aaload, 1) := dk_50 (by decide +kernel)
theorem dX5_compare_61 : decode cX5_compare 61 = .ok (.invokevirtual 263, 3) := dk_182 (by decide +kernel)
theorem dX5_compare_64 : decode cX5_compare 64 = .ok (.ireturn, 1) := dk_172 (by decide +kernel)
def wsMX5_compare : List Cond := .code yX5_compare cX5_compare 3 (some .int) :: ([.fieldLink RX5 71 "OptimaWorks$Solver" "spare" "[LOptimaWorks$Whole;", .fieldLink RX5 58 "OptimaWorks$Solver" "answerUnder" "LOptimaWorks$Whole;", .fieldLink RX5 12 "OptimaWorks$Solver" "tableau" "LOptimaWorks$Tableau;", .fieldLink RX5 253 "OptimaWorks$Tableau" "under" "LOptimaWorks$Whole;"] ++ wsX50 ++ wsX60 ++ (wsV RX5 249 RX8 yX8_setProduct wsMX8_setProduct) ++ (wsV RX5 256 RX8 yX8_negate wsMX8_negate) ++ (wsV RX5 259 RX8 yX8_add wsMX8_add) ++ (wsV RX5 263 RX8 yX8_sign wsMX8_sign))
theorem iwsMX5_compare_in5 : ∀ w ∈ wsX50, w ∈ wsMX5_compare := fun _ h => List.mem_cons_of_mem _ (List.mem_append_left _ (List.mem_append_left _ (List.mem_append_left _ (List.mem_append_left _ (List.mem_append_left _ (List.mem_append_right _ h))))))
theorem iwsMX5_compare_in6 : ∀ w ∈ wsX60, w ∈ wsMX5_compare := fun _ h => List.mem_cons_of_mem _ (List.mem_append_left _ (List.mem_append_left _ (List.mem_append_left _ (List.mem_append_left _ (List.mem_append_right _ h)))))
theorem gwsMX5_compare_0 : GoodIn wsMX5_compare (wsV RX5 249 RX8 yX8_setProduct wsMX8_setProduct) := goodIn_sub (fun _ h => List.mem_cons_of_mem _ (List.mem_append_left _ (List.mem_append_left _ (List.mem_append_left _ (List.mem_append_right _ h))))) (gdV (by decide +kernel) gdwsMX8_setProduct)
theorem gwsMX5_compare_1 : GoodIn wsMX5_compare (wsV RX5 256 RX8 yX8_negate wsMX8_negate) := goodIn_sub (fun _ h => List.mem_cons_of_mem _ (List.mem_append_left _ (List.mem_append_left _ (List.mem_append_right _ h)))) (gdV (by decide +kernel) gdwsMX8_negate)
theorem gwsMX5_compare_2 : GoodIn wsMX5_compare (wsV RX5 259 RX8 yX8_add wsMX8_add) := goodIn_sub (fun _ h => List.mem_cons_of_mem _ (List.mem_append_left _ (List.mem_append_right _ h))) (gdV (by decide +kernel) gdwsMX8_add)
theorem gwsMX5_compare_3 : GoodIn wsMX5_compare (wsV RX5 263 RX8 yX8_sign wsMX8_sign) := goodIn_sub (fun _ h => List.mem_cons_of_mem _ (List.mem_append_right _ h)) (gdV (by decide +kernel) gdwsMX8_sign)
theorem gdwsMX5_compare : wsMX5_compare.all goodWord = true := gdC rfl (gdA (gdA (gdA (gdA (gdA (gdA (by decide +kernel : ([.fieldLink RX5 71 "OptimaWorks$Solver" "spare" "[LOptimaWorks$Whole;", .fieldLink RX5 58 "OptimaWorks$Solver" "answerUnder" "LOptimaWorks$Whole;", .fieldLink RX5 12 "OptimaWorks$Solver" "tableau" "LOptimaWorks$Tableau;", .fieldLink RX5 253 "OptimaWorks$Tableau" "under" "LOptimaWorks$Whole;"] : List Cond).all goodWord = true) gdwsX50) gdwsX60) (gdV (by decide +kernel) gdwsMX8_setProduct)) (gdV (by decide +kernel) gdwsMX8_negate)) (gdV (by decide +kernel) gdwsMX8_add)) (gdV (by decide +kernel) gdwsMX8_sign))
theorem hm_m_X5_compare_0 : (.fieldLink RX5 71 "OptimaWorks$Solver" "spare" "[LOptimaWorks$Whole;" : Cond) ∈ wsMX5_compare := by decide +kernel
set_option maxHeartbeats 4000000 in
set_option maxRecDepth 100000 in
/-- against the answer -/
theorem m_X5_compare (l : Launch) (dC : Nat → ClassId) (dI : Nat → Nat → Nat) (hO : Nat → Nat) (aO : Nat → Nat) (kO : Nat → ClassId) (hM : Nat → Nat) (hQ : Nat → Nat) (hw : Nat → Nat) (iO_answered : Int32) (iO_searched : Int32) (iO_searchedRelaxed : Int32) (iO_counted : Int32) (fO_countedCase : Nat → Int32) (gO_goalNumber : Nat → Int64) (gO_goalScale : Nat → Int64) (fO_start : Nat → Int32) (fO_column : Nat → Int32) (fO_chosen : Nat → Int32) (aM : Nat → Nat) (kM : Nat → ClassId) (iM_stands : Int32) (iM_variables : Int32) (iM_rows : Int32) (iM_goals : Int32) (iM_differents : Int32) (iM_cases : Int32) (fM_from : Nat → Int32) (fM_to : Nat → Int32) (fM_whole : Nat → Int32) (fM_ways : Nat → Int32) (iM_plainRows : Int32) (fM_plainRow : Nat → Int32) (fM_kept : Nat → Int32) (fM_goalOver : Nat → Int32) (fM_goalUnder : Nat → Int32) (fM_goalMax : Nat → Int32) (fM_different : Nat → Int32) (aQ : Nat → Nat) (kQ : Nat → ClassId) (fQ_inside : Nat → Int32) (fQ_outside : Nat → Int32) (fQ_shut : Nat → Int32) (iQ_rows : Int32) (iQ_allRows : Int32) (iQ_columns : Int32) (nW : Nat) (lw : Nat → Nat) (kw : ClassId) (wl : Nat → Int32) (wb : Nat → Int32) (wG : Nat → Nat → Int64) (ka : Nat) (kb : Nat) (b_iO_answered : 0 ≤ iO_answered.toInt ∧ iO_answered.toInt ≤ 1) (b_iO_searched : 0 ≤ iO_searched.toInt ∧ iO_searched.toInt ≤ 1) (b_iO_searchedRelaxed : 0 ≤ iO_searchedRelaxed.toInt ∧ iO_searchedRelaxed.toInt ≤ 1) (b_iO_counted : (-1) ≤ iO_counted.toInt ∧ iO_counted.toInt ≤ 64) (b_fO_countedCase : ∀ q : Nat, 0 ≤ (fO_countedCase q).toInt ∧ (fO_countedCase q).toInt ≤ 200000) (b_fO_column : ∀ q : Nat, (-1) ≤ (fO_column q).toInt ∧ (fO_column q).toInt ≤ 8) (b_fO_chosen : ∀ q : Nat, 0 ≤ (fO_chosen q).toInt ∧ (fO_chosen q).toInt ≤ 2) (b_iM_stands : 0 ≤ iM_stands.toInt ∧ iM_stands.toInt ≤ 1) (b_iM_variables : 0 ≤ iM_variables.toInt ∧ iM_variables.toInt ≤ 8) (b_iM_rows : 0 ≤ iM_rows.toInt ∧ iM_rows.toInt ≤ 12) (b_iM_goals : 0 ≤ iM_goals.toInt ∧ iM_goals.toInt ≤ 3) (b_iM_differents : 0 ≤ iM_differents.toInt ∧ iM_differents.toInt ≤ 8) (b_iM_cases : 0 ≤ iM_cases.toInt ∧ iM_cases.toInt ≤ 200000) (b_fM_ways : ∀ q : Nat, 0 ≤ (fM_ways q).toInt ∧ (fM_ways q).toInt ≤ 3) (b_iM_plainRows : 0 ≤ iM_plainRows.toInt ∧ iM_plainRows.toInt ≤ 12) (b_fM_plainRow : ∀ q : Nat, 0 ≤ (fM_plainRow q).toInt ∧ (fM_plainRow q).toInt ≤ 11) (b_pr : iM_plainRows.toInt ≤ iM_rows.toInt) (b_iQ_rows : 0 ≤ iQ_rows.toInt ∧ iQ_rows.toInt ≤ 40) (b_iQ_allRows : 0 ≤ iQ_allRows.toInt ∧ iQ_allRows.toInt ≤ 40) (b_iQ_columns : 0 ≤ iQ_columns.toInt ∧ iQ_columns.toInt ≤ 40) (b_tb : TbO iQ_rows iQ_allRows iQ_columns) (b_wl : ∀ q : Nat, 0 ≤ (wl q).toInt ∧ (wl q).toInt ≤ 14) (b_wb : ∀ q : Nat, 0 ≤ (wb q).toInt ∧ (wb q).toInt ≤ 1) (hnW : 432 ≤ nW) (hka : ka < nW) (hkb : kb < nW) (sz : Nat) : Met l yX5_compare wsMX5_compare ({ frames := 3, cells := 0, slots := 0, locals := 61 }) (va_Pc [.ref (hO 0), .ref (hw ka), .ref (hw kb)] (fun U => U.heap.size = sz ∧ va_P (dC, dI) vwCl (WO hO aO kO hM hQ hw iO_answered iO_searched iO_searchedRelaxed iO_counted fO_countedCase gO_goalNumber gO_goalScale fO_start fO_column fO_chosen ++ (WM hM aM kM iM_stands iM_variables iM_rows iM_goals iM_differents iM_cases fM_from fM_to fM_whole fM_ways iM_plainRows fM_plainRow fM_kept fM_goalOver fM_goalUnder fM_goalMax fM_different ++ (WQ hQ aQ kQ hw fQ_inside fQ_outside fQ_shut iQ_rows iQ_allRows iQ_columns ++ (WW nW hw lw kw wl wb wG)))) U.heap ∧ va_K (dC, dI) vwCl (tO kO ++ (tM kM ++ (tQ kQ ++ (tW kw)))) U ∧ va_D (fun _ => True) (WO hO aO kO hM hQ hw iO_answered iO_searched iO_searchedRelaxed iO_counted fO_countedCase gO_goalNumber gO_goalScale fO_start fO_column fO_chosen ++ (WM hM aM kM iM_stands iM_variables iM_rows iM_goals iM_differents iM_cases fM_from fM_to fM_whole fM_ways iM_plainRows fM_plainRow fM_kept fM_goalOver fM_goalUnder fM_goalMax fM_different ++ (WQ hQ aQ kQ hw fQ_inside fQ_outside fQ_shut iQ_rows iQ_allRows iQ_columns ++ (WW nW hw lw kw wl wb wG)))))) (va_Qi (fun (r : Int32) (u : (Nat → Int32) × (Nat → Int32) × (Nat → Nat → Int64)) => (∀ q : Nat, 0 ≤ ((u.1) q).toInt ∧ ((u.1) q).toInt ≤ 14) ∧ (∀ q : Nat, 0 ≤ ((u.2.1) q).toInt ∧ ((u.2.1) q).toInt ≤ 1) ∧ ((-1) ≤ r.toInt ∧ r.toInt ≤ 1)) (fun (u : (Nat → Int32) × (Nat → Int32) × (Nat → Nat → Int64)) t => va_P (dC, dI) vwCl (WO hO aO kO hM hQ hw iO_answered iO_searched iO_searchedRelaxed iO_counted fO_countedCase gO_goalNumber gO_goalScale fO_start fO_column fO_chosen ++ (WM hM aM kM iM_stands iM_variables iM_rows iM_goals iM_differents iM_cases fM_from fM_to fM_whole fM_ways iM_plainRows fM_plainRow fM_kept fM_goalOver fM_goalUnder fM_goalMax fM_different ++ (WQ hQ aQ kQ hw fQ_inside fQ_outside fQ_shut iQ_rows iQ_allRows iQ_columns ++ (WW nW hw lw kw (u.1) (u.2.1) (u.2.2))))) t.heap ∧ va_D (va_A (WO hO aO kO hM hQ hw iO_answered iO_searched iO_searchedRelaxed iO_counted fO_countedCase gO_goalNumber gO_goalScale fO_start fO_column fO_chosen ++ (WM hM aM kM iM_stands iM_variables iM_rows iM_goals iM_differents iM_cases fM_from fM_to fM_whole fM_ways iM_plainRows fM_plainRow fM_kept fM_goalOver fM_goalUnder fM_goalMax fM_different ++ (WQ hQ aQ kQ hw fQ_inside fQ_outside fQ_shut iQ_rows iQ_allRows iQ_columns ++ (WW nW hw lw kw wl wb wG)))) sz) (WO hO aO kO hM hQ hw iO_answered iO_searched iO_searchedRelaxed iO_counted fO_countedCase gO_goalNumber gO_goalScale fO_start fO_column fO_chosen ++ (WM hM aM kM iM_stands iM_variables iM_rows iM_goals iM_differents iM_cases fM_from fM_to fM_whole fM_ways iM_plainRows fM_plainRow fM_kept fM_goalOver fM_goalUnder fM_goalMax fM_different ++ (WQ hQ aQ kQ hw fQ_inside fQ_outside fQ_shut iQ_rows iQ_allRows iQ_columns ++ (WW nW hw lw kw (u.1) (u.2.1) (u.2.2)))))) (va_A (WO hO aO kO hM hQ hw iO_answered iO_searched iO_searchedRelaxed iO_counted fO_countedCase gO_goalNumber gO_goalScale fO_start fO_column fO_chosen ++ (WM hM aM kM iM_stands iM_variables iM_rows iM_goals iM_differents iM_cases fM_from fM_to fM_whole fM_ways iM_plainRows fM_plainRow fM_kept fM_goalOver fM_goalUnder fM_goalMax fM_different ++ (WQ hQ aQ kQ hw fQ_inside fQ_outside fQ_shut iQ_rows iQ_allRows iQ_columns ++ (WW nW hw lw kw wl wb wG)))) sz)) 0 0 (va_A (WO hO aO kO hM hQ hw iO_answered iO_searched iO_searchedRelaxed iO_counted fO_countedCase gO_goalNumber gO_goalScale fO_start fO_column fO_chosen ++ (WM hM aM kM iM_stands iM_variables iM_rows iM_goals iM_differents iM_cases fM_from fM_to fM_whole fM_ways iM_plainRows fM_plainRow fM_kept fM_goalOver fM_goalUnder fM_goalMax fM_different ++ (WQ hQ aQ kQ hw fQ_inside fQ_outside fQ_shut iQ_rows iQ_allRows iQ_columns ++ (WW nW hw lw kw wl wb wG)))) sz) := by
  refine Met.ofW (cc := cX5_compare) (maxL := 3) (ret := (some .int)) (by decide) rfl ?_
  intro p e s m args below meth c s₁ B hml hv
  obtain ⟨rfl, hsz, hP, hK, hD0⟩ := hv
  have hx := B.exec
  have hb := B.bytes
  have hr := B.returns
  have hts := atoms_spec (ws := wsMX5_compare) B.pre
  have hown : s.vm.findClass RX5 = some m.cls := findClass_of_methodNamed B.named
  have hlocks := B.notSynchronized
  subst hsz
  have hD := hD0.self (sz := s.heap.size)
  generalize hAe : va_A (WO hO aO kO hM hQ hw iO_answered iO_searched iO_searchedRelaxed iO_counted fO_countedCase gO_goalNumber gO_goalScale fO_start fO_column fO_chosen ++ (WM hM aM kM iM_stands iM_variables iM_rows iM_goals iM_differents iM_cases fM_from fM_to fM_whole fM_ways iM_plainRows fM_plainRow fM_kept fM_goalOver fM_goalUnder fM_goalMax fM_different ++ (WQ hQ aQ kQ hw fQ_inside fQ_outside fQ_shut iQ_rows iQ_allRows iQ_columns ++ (WW nW hw lw kw wl wb wG)))) s.heap.size = A at hD ⊢
  have hA : ∀ q : Nat, s.heap.size ≤ q → A q := fun q h => by rw [← hAe]; exact Or.inr h
  have hS : va_S A s.heap s.heap [] := va_S.rf
  have hl := lv_entry ([.ref (hO 0), .ref (hw ka), .ref (hw kb)]) (n := 3) (Nat.le_of_ble_eq_true rfl)
  rw [lg_entry_eq]
  generalize (lg_sl ([.ref (hO 0), .ref (hw ka), .ref (hw kb)]) ++ List.replicate (3 - (lg_sl ([.ref (hO 0), .ref (hw ka), .ref (hw kb)])).length) Slot.unset).toArray = ls at hl ⊢
  have hl : lv_has ls 3 [(0, .ref (hO 0)), (1, .ref (hw ka)), (2, .ref (hw kb))] := hl
  refine lv_aload_n hx hb dX5_compare_0 rfl (lv_at hl 0 rfl) ?_
  refine va_get (D := (dC, dI)) (ci := 5) (v := .ref (aO 9)) (C := RX5) (T := TX5) (N := 19) hx hb hts iwsMX5_compare_in5 hown hK hP 0 rfl rfl 18 (by decide) (hts _ hm_m_X5_compare_0) (fun _ h9 => h9) rfl dX5_compare_1 ?_
  refine lv_iconst (v := 0) hx hb dX5_compare_4 (by decide) ?_
  refine va_aldq (cA := kO 9) (n := 4) (f := fun q => some (hw (428 + q))) hx hb hK hP 10 9 rfl rfl (show ¬ ((0 : Int32) < 0 ∨ 4 ≤ (0 : Int32).toNatClampNeg) by decide) dX5_compare_5 ?_
  obtain ⟨k1, hk1, b_k1⟩ : ∃ k9 : Nat, k9 = 428 + (0 : Int32).toNatClampNeg ∧ (428 ≤ k9 ∧ k9 < 432 ∧ (k9 : Int) = 428 + 0) := ⟨_, rfl, ald_k (x := (0 : Int32)) (o := 428) (n := 4) (by decide : (0 : Int32).toInt = 0) (by omega) (by omega)⟩
  refine W.eq (g2 := F0 m 6 ls [.ref (hw k1)]) (by rw [hk1]; rfl) ?_
  clear hk1
  refine lv_aload_n hx hb dX5_compare_6 rfl (lv_at hl 1 rfl) ?_
  refine lv_aload_n hx hb dX5_compare_7 rfl (lv_at hl 0 rfl) ?_
  refine va_get (D := (dC, dI)) (ci := 5) (v := .ref (hw 417)) (C := RX5) (T := TX5) (N := 19) hx hb hts iwsMX5_compare_in5 hown hK hP 0 rfl rfl 14 (by decide) (hts (.fieldLink RX5 58 "OptimaWorks$Solver" "answerUnder" "LOptimaWorks$Whole;") (by decide +kernel)) (fun _ h9 => h9) rfl dX5_compare_8 ?_
  have p9 := cj_4_3 (WO hO aO kO hM hQ hw iO_answered iO_searched iO_searchedRelaxed iO_counted fO_countedCase gO_goalNumber gO_goalScale fO_start fO_column fO_chosen) (WM hM aM kM iM_stands iM_variables iM_rows iM_goals iM_differents iM_cases fM_from fM_to fM_whole fM_ways iM_plainRows fM_plainRow fM_kept fM_goalOver fM_goalUnder fM_goalMax fM_different) (WQ hQ aQ kQ hw fQ_inside fQ_outside fQ_shut iQ_rows iQ_allRows iQ_columns) (WW nW hw lw kw wl wb wG)
  have hPc := hP.mem (fun q h => p9.mem_iff.mpr (List.mem_append_left _ h))
  have hDc := (hD.perm p9).left
  have hKc : va_K (dC, dI) vwCl (tW kw) _ := hK.sub [24] rfl
  have hFc := freeG p9 hD hS hA
  refine va_callv (va_runV (As := [.ref (hw ka), .ref (hw 417)]) (rest := []) ⟨hx, hb, hml, hown, hts⟩ (m_X8_setProduct l dC dI nW hw lw kw wl wb wG k1 ka 417 b_wl b_wb (by first | with_reducible assumption | omega | (rw [iI_t (by omega) (by omega)]; omega) | decide | assumption) (by first | with_reducible assumption | omega | (rw [iI_t (by omega) (by omega)]; omega) | decide | assumption) (by first | with_reducible assumption | omega | (rw [iI_t (by omega) (by omega)]; omega) | decide | assumption) s.heap.size) (cwV 2 hts gwsMX5_compare_0 rfl rfl rfl hd_yX8_setProduct_RX8 (by decide +kernel)) (fz_pre (va_recv hK hP (ci := 8) (q0 := 11 + (11 + (5 + (k1)))) rfl (apR rfl (apR rfl (apR rfl (WW_o (by omega)))))) hPc hKc hDc) rfl rfl hl.1 rfl (lv_room (Nat.le_of_ble_eq_true rfl)) dX5_compare_11 (by decide +kernel)) hS (fun q _ h => hFc q h) hFc (fun u t9_ H locs ht hvm hw9 hB9 hz1 hk1 hS => ?_)
  revert u hw9 hB9
  refine fz_p3 ?_
  intro wl_2 wb_2 wG_2 hw9 hB9
  try dsimp only at hw9 hB9
  revert hw9
  refine fz_a2 ?_
  intro b_wl_2 b_wb_2
  have p8 := cj_4_3 (WO hO aO kO hM hQ hw iO_answered iO_searched iO_searchedRelaxed iO_counted fO_countedCase gO_goalNumber gO_goalScale fO_start fO_column fO_chosen) (WM hM aM kM iM_stands iM_variables iM_rows iM_goals iM_differents iM_cases fM_from fM_to fM_whole fM_ways iM_plainRows fM_plainRow fM_kept fM_goalOver fM_goalUnder fM_goalMax fM_different) (WQ hQ aQ kQ hw fQ_inside fQ_outside fQ_shut iQ_rows iQ_allRows iQ_columns) (WW nW hw lw kw wl_2 wb_2 wG_2)
  obtain ⟨hP, hD⟩ := frameG p9 p8 hP hD hk1 hFc (fz_P ht hB9.1) hB9.2
  refine lv_aload_n hx hb dX5_compare_14 rfl (lv_at hl 0 rfl) ?_
  refine va_get (D := (dC, dI)) (ci := 5) (v := .ref (aO 9)) (C := RX5) (T := TX5) (N := 19) hx hb hts iwsMX5_compare_in5 hown hK hP 0 rfl rfl 18 (by decide) (hts _ hm_m_X5_compare_0) (fun _ h9 => h9) rfl dX5_compare_15 ?_
  refine lv_iconst (v := 1) hx hb dX5_compare_18 (by decide) ?_
  refine va_aldq (cA := kO 9) (n := 4) (f := fun q => some (hw (428 + q))) hx hb hK hP 10 9 rfl rfl (show ¬ ((1 : Int32) < 0 ∨ 4 ≤ (1 : Int32).toNatClampNeg) by decide) dX5_compare_19 ?_
  obtain ⟨k3, hk3, b_k3⟩ : ∃ k9 : Nat, k9 = 428 + (1 : Int32).toNatClampNeg ∧ (428 ≤ k9 ∧ k9 < 432 ∧ (k9 : Int) = 428 + 1) := ⟨_, rfl, ald_k (x := (1 : Int32)) (o := 428) (n := 4) (by decide : (1 : Int32).toInt = 1) (by omega) (by omega)⟩
  refine W.eq (g2 := F0 m 20 ls [.ref (hw k3)]) (by rw [hk3]; rfl) ?_
  clear hk3
  refine lv_aload_n hx hb dX5_compare_20 rfl (lv_at hl 2 rfl) ?_
  refine lv_aload_n hx hb dX5_compare_21 rfl (lv_at hl 0 rfl) ?_
  refine va_get (D := (dC, dI)) (ci := 5) (v := .ref (hQ 0)) (C := RX5) (T := TX5) (N := 19) hx hb hts iwsMX5_compare_in5 hown hK hP 0 rfl rfl 1 (by decide) (hts (.fieldLink RX5 12 "OptimaWorks$Solver" "tableau" "LOptimaWorks$Tableau;") (by decide +kernel)) (fun _ h9 => h9) rfl dX5_compare_22 ?_
  refine va_get (D := (dC, dI)) (ci := 6) (v := .ref (hw 400)) (C := RX6) (T := TX6) (N := 13) hx hb hts iwsMX5_compare_in6 hown hK hP 22 rfl rfl 4 (by decide) (hts (.fieldLink RX5 253 "OptimaWorks$Tableau" "under" "LOptimaWorks$Whole;") (by decide +kernel)) (fun _ h9 => h9) rfl dX5_compare_25 ?_
  have p9 := cj_4_3 (WO hO aO kO hM hQ hw iO_answered iO_searched iO_searchedRelaxed iO_counted fO_countedCase gO_goalNumber gO_goalScale fO_start fO_column fO_chosen) (WM hM aM kM iM_stands iM_variables iM_rows iM_goals iM_differents iM_cases fM_from fM_to fM_whole fM_ways iM_plainRows fM_plainRow fM_kept fM_goalOver fM_goalUnder fM_goalMax fM_different) (WQ hQ aQ kQ hw fQ_inside fQ_outside fQ_shut iQ_rows iQ_allRows iQ_columns) (WW nW hw lw kw wl_2 wb_2 wG_2)
  have hPc := hP.mem (fun q h => p9.mem_iff.mpr (List.mem_append_left _ h))
  have hDc := (hD.perm p9).left
  have hKc : va_K (dC, dI) vwCl (tW kw) _ := hK.sub [24] rfl
  have hFc := freeG p9 hD hS hA
  refine va_callv (va_runV (As := [.ref (hw kb), .ref (hw 400)]) (rest := []) ⟨hx, hb, hml, hown, hts⟩ (m_X8_setProduct l dC dI nW hw lw kw wl_2 wb_2 wG_2 k3 kb 400 b_wl_2 b_wb_2 (by first | with_reducible assumption | omega | (rw [iI_t (by omega) (by omega)]; omega) | decide | assumption) (by first | with_reducible assumption | omega | (rw [iI_t (by omega) (by omega)]; omega) | decide | assumption) (by first | with_reducible assumption | omega | (rw [iI_t (by omega) (by omega)]; omega) | decide | assumption) H.size) (cwV 2 hts gwsMX5_compare_0 rfl rfl rfl hd_yX8_setProduct_RX8 (by decide +kernel)) (fz_pre (va_recv hK hP (ci := 8) (q0 := 11 + (11 + (5 + (k3)))) rfl (apR rfl (apR rfl (apR rfl (WW_o (by omega)))))) hPc hKc hDc) rfl rfl hl.1 rfl (lv_room (Nat.le_of_ble_eq_true rfl)) dX5_compare_28 (by decide +kernel)) hS (fun q _ h => hFc q h) hFc (fun u t9_ H locs ht hvm hw9 hB9 hz1 hk1 hS => ?_)
  revert u hw9 hB9
  refine fz_p3 ?_
  intro wl_4 wb_4 wG_4 hw9 hB9
  try dsimp only at hw9 hB9
  revert hw9
  refine fz_a2 ?_
  intro b_wl_4 b_wb_4
  have p8 := cj_4_3 (WO hO aO kO hM hQ hw iO_answered iO_searched iO_searchedRelaxed iO_counted fO_countedCase gO_goalNumber gO_goalScale fO_start fO_column fO_chosen) (WM hM aM kM iM_stands iM_variables iM_rows iM_goals iM_differents iM_cases fM_from fM_to fM_whole fM_ways iM_plainRows fM_plainRow fM_kept fM_goalOver fM_goalUnder fM_goalMax fM_different) (WQ hQ aQ kQ hw fQ_inside fQ_outside fQ_shut iQ_rows iQ_allRows iQ_columns) (WW nW hw lw kw wl_4 wb_4 wG_4)
  obtain ⟨hP, hD⟩ := frameG p9 p8 hP hD hk1 hFc (fz_P ht hB9.1) hB9.2
  refine lv_aload_n hx hb dX5_compare_31 rfl (lv_at hl 0 rfl) ?_
  refine va_get (D := (dC, dI)) (ci := 5) (v := .ref (aO 9)) (C := RX5) (T := TX5) (N := 19) hx hb hts iwsMX5_compare_in5 hown hK hP 0 rfl rfl 18 (by decide) (hts _ hm_m_X5_compare_0) (fun _ h9 => h9) rfl dX5_compare_32 ?_
  refine lv_iconst (v := 1) hx hb dX5_compare_35 (by decide) ?_
  refine va_aldq (cA := kO 9) (n := 4) (f := fun q => some (hw (428 + q))) hx hb hK hP 10 9 rfl rfl (show ¬ ((1 : Int32) < 0 ∨ 4 ≤ (1 : Int32).toNatClampNeg) by decide) dX5_compare_36 ?_
  obtain ⟨k5, hk5, b_k5⟩ : ∃ k9 : Nat, k9 = 428 + (1 : Int32).toNatClampNeg ∧ (428 ≤ k9 ∧ k9 < 432 ∧ (k9 : Int) = 428 + 1) := ⟨_, rfl, ald_k (x := (1 : Int32)) (o := 428) (n := 4) (by decide : (1 : Int32).toInt = 1) (by omega) (by omega)⟩
  refine W.eq (g2 := F0 m 37 ls [.ref (hw k5)]) (by rw [hk5]; rfl) ?_
  clear hk5
  have p9 := cj_4_3 (WO hO aO kO hM hQ hw iO_answered iO_searched iO_searchedRelaxed iO_counted fO_countedCase gO_goalNumber gO_goalScale fO_start fO_column fO_chosen) (WM hM aM kM iM_stands iM_variables iM_rows iM_goals iM_differents iM_cases fM_from fM_to fM_whole fM_ways iM_plainRows fM_plainRow fM_kept fM_goalOver fM_goalUnder fM_goalMax fM_different) (WQ hQ aQ kQ hw fQ_inside fQ_outside fQ_shut iQ_rows iQ_allRows iQ_columns) (WW nW hw lw kw wl_4 wb_4 wG_4)
  have hPc := hP.mem (fun q h => p9.mem_iff.mpr (List.mem_append_left _ h))
  have hDc := (hD.perm p9).left
  have hKc : va_K (dC, dI) vwCl (tW kw) _ := hK.sub [24] rfl
  have hFc := freeG p9 hD hS hA
  refine va_callv (va_runV (As := []) (rest := []) ⟨hx, hb, hml, hown, hts⟩ (m_X8_negate l dC dI nW hw lw kw wl_4 wb_4 wG_4 k5 b_wl_4 b_wb_4 (by first | with_reducible assumption | omega | (rw [iI_t (by omega) (by omega)]; omega) | decide | assumption) H.size) (cwV 0 hts gwsMX5_compare_1 rfl rfl rfl hd_yX8_negate_RX8 (by decide +kernel)) (fz_pre (va_recv hK hP (ci := 8) (q0 := 11 + (11 + (5 + (k5)))) rfl (apR rfl (apR rfl (apR rfl (WW_o (by omega)))))) hPc hKc hDc) rfl rfl hl.1 rfl (lv_room (Nat.le_of_ble_eq_true rfl)) dX5_compare_37 (by decide +kernel)) hS (fun q _ h => hFc q h) hFc (fun wb_6 t9_ H locs ht hvm hw9 hB9 hz1 hk1 hS => ?_)
  have b_wb_6 := hw9
  try dsimp only at b_wb_6
  have p8 := cj_4_3 (WO hO aO kO hM hQ hw iO_answered iO_searched iO_searchedRelaxed iO_counted fO_countedCase gO_goalNumber gO_goalScale fO_start fO_column fO_chosen) (WM hM aM kM iM_stands iM_variables iM_rows iM_goals iM_differents iM_cases fM_from fM_to fM_whole fM_ways iM_plainRows fM_plainRow fM_kept fM_goalOver fM_goalUnder fM_goalMax fM_different) (WQ hQ aQ kQ hw fQ_inside fQ_outside fQ_shut iQ_rows iQ_allRows iQ_columns) (WW nW hw lw kw wl_4 wb_6 wG_4)
  obtain ⟨hP, hD⟩ := frameG p9 p8 hP hD hk1 hFc (fz_P ht hB9.1) hB9.2
  refine lv_aload_n hx hb dX5_compare_40 rfl (lv_at hl 0 rfl) ?_
  refine va_get (D := (dC, dI)) (ci := 5) (v := .ref (aO 9)) (C := RX5) (T := TX5) (N := 19) hx hb hts iwsMX5_compare_in5 hown hK hP 0 rfl rfl 18 (by decide) (hts _ hm_m_X5_compare_0) (fun _ h9 => h9) rfl dX5_compare_41 ?_
  refine lv_iconst (v := 0) hx hb dX5_compare_44 (by decide) ?_
  refine va_aldq (cA := kO 9) (n := 4) (f := fun q => some (hw (428 + q))) hx hb hK hP 10 9 rfl rfl (show ¬ ((0 : Int32) < 0 ∨ 4 ≤ (0 : Int32).toNatClampNeg) by decide) dX5_compare_45 ?_
  obtain ⟨k7, hk7, b_k7⟩ : ∃ k9 : Nat, k9 = 428 + (0 : Int32).toNatClampNeg ∧ (428 ≤ k9 ∧ k9 < 432 ∧ (k9 : Int) = 428 + 0) := ⟨_, rfl, ald_k (x := (0 : Int32)) (o := 428) (n := 4) (by decide : (0 : Int32).toInt = 0) (by omega) (by omega)⟩
  refine W.eq (g2 := F0 m 46 ls [.ref (hw k7)]) (by rw [hk7]; rfl) ?_
  clear hk7
  refine lv_aload_n hx hb dX5_compare_46 rfl (lv_at hl 0 rfl) ?_
  refine va_get (D := (dC, dI)) (ci := 5) (v := .ref (aO 9)) (C := RX5) (T := TX5) (N := 19) hx hb hts iwsMX5_compare_in5 hown hK hP 0 rfl rfl 18 (by decide) (hts _ hm_m_X5_compare_0) (fun _ h9 => h9) rfl dX5_compare_47 ?_
  refine lv_iconst (v := 1) hx hb dX5_compare_50 (by decide) ?_
  refine va_aldq (cA := kO 9) (n := 4) (f := fun q => some (hw (428 + q))) hx hb hK hP 10 9 rfl rfl (show ¬ ((1 : Int32) < 0 ∨ 4 ≤ (1 : Int32).toNatClampNeg) by decide) dX5_compare_51 ?_
  obtain ⟨k8, hk8, b_k8⟩ : ∃ k9 : Nat, k9 = 428 + (1 : Int32).toNatClampNeg ∧ (428 ≤ k9 ∧ k9 < 432 ∧ (k9 : Int) = 428 + 1) := ⟨_, rfl, ald_k (x := (1 : Int32)) (o := 428) (n := 4) (by decide : (1 : Int32).toInt = 1) (by omega) (by omega)⟩
  refine W.eq (g2 := F0 m 52 ls [.ref (hw k8), .ref (hw k7)]) (by rw [hk8]; rfl) ?_
  clear hk8
  have p9 := cj_4_3 (WO hO aO kO hM hQ hw iO_answered iO_searched iO_searchedRelaxed iO_counted fO_countedCase gO_goalNumber gO_goalScale fO_start fO_column fO_chosen) (WM hM aM kM iM_stands iM_variables iM_rows iM_goals iM_differents iM_cases fM_from fM_to fM_whole fM_ways iM_plainRows fM_plainRow fM_kept fM_goalOver fM_goalUnder fM_goalMax fM_different) (WQ hQ aQ kQ hw fQ_inside fQ_outside fQ_shut iQ_rows iQ_allRows iQ_columns) (WW nW hw lw kw wl_4 wb_6 wG_4)
  have hPc := hP.mem (fun q h => p9.mem_iff.mpr (List.mem_append_left _ h))
  have hDc := (hD.perm p9).left
  have hKc : va_K (dC, dI) vwCl (tW kw) _ := hK.sub [24] rfl
  have hFc := freeG p9 hD hS hA
  refine va_callv (va_runV (As := [.ref (hw k8)]) (rest := []) ⟨hx, hb, hml, hown, hts⟩ (m_X8_add l dC dI nW hw lw kw wl_4 wb_6 wG_4 k7 k8 b_wl_4 b_wb_6 (by first | with_reducible assumption | omega | (rw [iI_t (by omega) (by omega)]; omega) | decide | assumption) (by first | with_reducible assumption | omega | (rw [iI_t (by omega) (by omega)]; omega) | decide | assumption) H.size) (cwV 1 hts gwsMX5_compare_2 rfl rfl rfl hd_yX8_add_RX8 (by decide +kernel)) (fz_pre (va_recv hK hP (ci := 8) (q0 := 11 + (11 + (5 + (k7)))) rfl (apR rfl (apR rfl (apR rfl (WW_o (by omega)))))) hPc hKc hDc) rfl rfl hl.1 rfl (lv_room (Nat.le_of_ble_eq_true rfl)) dX5_compare_52 (by decide +kernel)) hS (fun q _ h => hFc q h) hFc (fun u t9_ H locs ht hvm hw9 hB9 hz1 hk1 hS => ?_)
  revert u hw9 hB9
  refine fz_p3 ?_
  intro wl_9 wb_9 wG_9 hw9 hB9
  try dsimp only at hw9 hB9
  revert hw9
  refine fz_a2 ?_
  intro b_wl_9 b_wb_9
  have p8 := cj_4_3 (WO hO aO kO hM hQ hw iO_answered iO_searched iO_searchedRelaxed iO_counted fO_countedCase gO_goalNumber gO_goalScale fO_start fO_column fO_chosen) (WM hM aM kM iM_stands iM_variables iM_rows iM_goals iM_differents iM_cases fM_from fM_to fM_whole fM_ways iM_plainRows fM_plainRow fM_kept fM_goalOver fM_goalUnder fM_goalMax fM_different) (WQ hQ aQ kQ hw fQ_inside fQ_outside fQ_shut iQ_rows iQ_allRows iQ_columns) (WW nW hw lw kw wl_9 wb_9 wG_9)
  obtain ⟨hP, hD⟩ := frameG p9 p8 hP hD hk1 hFc (fz_P ht hB9.1) hB9.2
  refine lv_aload_n hx hb dX5_compare_55 rfl (lv_at hl 0 rfl) ?_
  refine va_get (D := (dC, dI)) (ci := 5) (v := .ref (aO 9)) (C := RX5) (T := TX5) (N := 19) hx hb hts iwsMX5_compare_in5 hown hK hP 0 rfl rfl 18 (by decide) (hts _ hm_m_X5_compare_0) (fun _ h9 => h9) rfl dX5_compare_56 ?_
  refine lv_iconst (v := 0) hx hb dX5_compare_59 (by decide) ?_
  refine va_aldq (cA := kO 9) (n := 4) (f := fun q => some (hw (428 + q))) hx hb hK hP 10 9 rfl rfl (show ¬ ((0 : Int32) < 0 ∨ 4 ≤ (0 : Int32).toNatClampNeg) by decide) dX5_compare_60 ?_
  obtain ⟨k10, hk10, b_k10⟩ : ∃ k9 : Nat, k9 = 428 + (0 : Int32).toNatClampNeg ∧ (428 ≤ k9 ∧ k9 < 432 ∧ (k9 : Int) = 428 + 0) := ⟨_, rfl, ald_k (x := (0 : Int32)) (o := 428) (n := 4) (by decide : (0 : Int32).toInt = 0) (by omega) (by omega)⟩
  refine W.eq (g2 := F0 m 61 ls [.ref (hw k10)]) (by rw [hk10]; rfl) ?_
  clear hk10
  have p9 := cj_4_3 (WO hO aO kO hM hQ hw iO_answered iO_searched iO_searchedRelaxed iO_counted fO_countedCase gO_goalNumber gO_goalScale fO_start fO_column fO_chosen) (WM hM aM kM iM_stands iM_variables iM_rows iM_goals iM_differents iM_cases fM_from fM_to fM_whole fM_ways iM_plainRows fM_plainRow fM_kept fM_goalOver fM_goalUnder fM_goalMax fM_different) (WQ hQ aQ kQ hw fQ_inside fQ_outside fQ_shut iQ_rows iQ_allRows iQ_columns) (WW nW hw lw kw wl_9 wb_9 wG_9)
  have hPc := hP.mem (fun q h => p9.mem_iff.mpr (List.mem_append_left _ h))
  have hDc := (hD.perm p9).left
  have hKc : va_K (dC, dI) vwCl (tW kw) _ := hK.sub [24] rfl
  have hFc := freeG p9 hD hS hA
  refine va_calli (va_runV (As := []) (rest := []) ⟨hx, hb, hml, hown, hts⟩ (m_X8_sign l dC dI nW hw lw kw wl_9 wb_9 wG_9 k10 b_wl_9 b_wb_9 (by first | with_reducible assumption | omega | (rw [iI_t (by omega) (by omega)]; omega) | decide | assumption) H.size) (cwV 0 hts gwsMX5_compare_3 rfl rfl rfl hd_yX8_sign_RX8 (by decide +kernel)) (fz_pre (va_recv hK hP (ci := 8) (q0 := 11 + (11 + (5 + (k10)))) rfl (apR rfl (apR rfl (apR rfl (WW_o (by omega)))))) hPc hKc hDc) rfl rfl hl.1 rfl (lv_room (Nat.le_of_ble_eq_true rfl)) dX5_compare_61 (by decide +kernel)) hS (fun q _ h => hFc q h) hFc (fun r11 u t9_ H locs ht hvm hw9 hB9 hz1 hk1 hS => ?_)
  have b_r11 := hw9
  try dsimp only at b_r11
  have p8 := p9
  obtain ⟨hP, hD⟩ := frameG p9 p8 hP hD hk1 hFc (fz_P ht hB9.1) hB9.2
  refine W.widen (k := 0) (n := 0) (by decide +kernel) (by decide +kernel) ?_
  exact W.iret (v := r11) hx hb hr (fun t9_ ht hW => ⟨⟨r11, (wl_9, wb_9, wG_9), rfl, ⟨b_wl_9, b_wb_9, (by first | exact b_r11 | with_reducible assumption | exact ⟨by omega, by omega⟩ | assumption)⟩, by rw [ht]; exact hP, hD⟩, hS.F ht⟩) hS.2.2 dX5_compare_64
theorem dX5_takeNumbers_0 : decode cX5_takeNumbers 0 = .ok (.iconst 0, 1) := dk_3 (by decide +kernel)
theorem dX5_takeNumbers_1 : decode cX5_takeNumbers 1 = .ok (.istore_n 2, 1) := dk_61 (by decide +kernel)
theorem dX5_takeNumbers_2 : decode cX5_takeNumbers 2 = .ok (.iload_n 2, 1) := dk_28 (by decide +kernel)
theorem dX5_takeNumbers_3 : decode cX5_takeNumbers 3 = .ok (.aload_n 0, 1) := dk_42 (by decide +kernel)
theorem dX5_takeNumbers_4 : decode cX5_takeNumbers 4 = .ok (.getfield 74, 3) := dk_180 (by decide +kernel)
theorem dX5_takeNumbers_7 : decode cX5_takeNumbers 7 = .ok (.getfield 112, 3) := dk_180 (by decide +kernel)
theorem dX5_takeNumbers_10 : decode cX5_takeNumbers 10 = .ok (.if_icmp .ge 87, 3) := dk_162 (by decide +kernel)
theorem dX5_takeNumbers_13 : decode cX5_takeNumbers 13 = .ok (.aload_n 1, 1) := dk_43 (by decide +kernel)
theorem dX5_takeNumbers_14 : decode cX5_takeNumbers 14 = .ok (.iload_n 2, 1) := dk_28 (by decide +kernel)
theorem dX5_takeNumbers_15 : decode cX5_takeNumbers 15 = .ok (.aaload, 1) := dk_50 (by decide +kernel)
theorem dX5_takeNumbers_16 : decode cX5_takeNumbers 16 = .ok (.lconst 0, 1) := dk_9 (by decide +kernel)
theorem dX5_takeNumbers_17 : decode cX5_takeNumbers 17 = .ok (.invokevirtual 184, 3) := dk_182 (by decide +kernel)
theorem dX5_takeNumbers_20 : decode cX5_takeNumbers 20 = .ok (.aload_n 0, 1) := dk_42 (by decide +kernel)
theorem dX5_takeNumbers_21 : decode cX5_takeNumbers 21 = .ok (.aload_n 1, 1) := dk_43 (by decide +kernel)
theorem dX5_takeNumbers_22 : decode cX5_takeNumbers 22 = .ok (.iload_n 2, 1) := dk_28 (by decide +kernel)
theorem dX5_takeNumbers_23 : decode cX5_takeNumbers 23 = .ok (.aaload, 1) := dk_50 (by decide +kernel)
theorem dX5_takeNumbers_24 : decode cX5_takeNumbers 24 = .ok (.aload_n 0, 1) := dk_42 (by decide +kernel)
theorem dX5_takeNumbers_25 : decode cX5_takeNumbers 25 = .ok (.getfield 12, 3) := dk_180 (by decide +kernel)
theorem dX5_takeNumbers_28 : decode cX5_takeNumbers 28 = .ok (.getfield 253, 3) := dk_180 (by decide +kernel)
theorem dX5_takeNumbers_31 : decode cX5_takeNumbers 31 = .ok (.aload_n 0, 1) := dk_42 (by decide +kernel)
theorem dX5_takeNumbers_32 : decode cX5_takeNumbers 32 = .ok (.getfield 35, 3) := dk_180 (by decide +kernel)
theorem dX5_takeNumbers_35 : decode cX5_takeNumbers 35 = .ok (.iload_n 2, 1) := dk_28 (by decide +kernel)
theorem dX5_takeNumbers_36 : decode cX5_takeNumbers 36 = .ok (.iaload, 1) := dk_46 (by decide +kernel)
theorem dX5_takeNumbers_37 : decode cX5_takeNumbers 37 = .ok (.i2l, 1) := dk_133 (by decide +kernel)
theorem dX5_takeNumbers_38 : decode cX5_takeNumbers 38 = .ok (.invokevirtual 211, 3) := dk_182 (by decide +kernel)
theorem dX5_takeNumbers_41 : decode cX5_takeNumbers 41 = .ok (.aload_n 0, 1) := dk_42 (by decide +kernel)
theorem dX5_takeNumbers_42 : decode cX5_takeNumbers 42 = .ok (.getfield 38, 3) := dk_180 (by decide +kernel)
theorem dX5_takeNumbers_45 : decode cX5_takeNumbers 45 = .ok (.iload_n 2, 1) := dk_28 (by decide +kernel)
theorem dX5_takeNumbers_46 : decode cX5_takeNumbers 46 = .ok (.iaload, 1) := dk_46 (by decide +kernel)
theorem dX5_takeNumbers_47 : decode cX5_takeNumbers 47 = .ok (.iconst (-1), 1) := dk_2 (by decide +kernel)
theorem dX5_takeNumbers_48 : decode cX5_takeNumbers 48 = .ok (.if_icmp .ne 7, 3) := dk_160 (by decide +kernel)
theorem dX5_takeNumbers_51 : decode cX5_takeNumbers 51 = .ok (.iconst (-1), 1) := dk_2 (by decide +kernel)
theorem dX5_takeNumbers_52 : decode cX5_takeNumbers 52 = .ok (.goto 18, 3) := dk_167 (by decide +kernel)
theorem dX5_takeNumbers_55 : decode cX5_takeNumbers 55 = .ok (.aload_n 0, 1) := dk_42 (by decide +kernel)
theorem dX5_takeNumbers_56 : decode cX5_takeNumbers 56 = .ok (.getfield 12, 3) := dk_180 (by decide +kernel)
theorem dX5_takeNumbers_59 : decode cX5_takeNumbers 59 = .ok (.aload_n 0, 1) := dk_42 (by decide +kernel)
theorem dX5_takeNumbers_60 : decode cX5_takeNumbers 60 = .ok (.getfield 38, 3) := dk_180 (by decide +kernel)
theorem dX5_takeNumbers_63 : decode cX5_takeNumbers 63 = .ok (.iload_n 2, 1) := dk_28 (by decide +kernel)
theorem dX5_takeNumbers_64 : decode cX5_takeNumbers 64 = .ok (.iaload, 1) := dk_46 (by decide +kernel)
theorem dX5_takeNumbers_65 : decode cX5_takeNumbers 65 = .ok (.iconst 1, 1) := dk_4 (by decide +kernel)
theorem dX5_takeNumbers_66 : decode cX5_takeNumbers 66 = .ok (.isub, 1) := dk_100 (by decide +kernel)
theorem dX5_takeNumbers_67 : decode cX5_takeNumbers 67 = .ok (.invokevirtual 265, 3) := dk_182 (by decide +kernel)
theorem dX5_takeNumbers_70 : decode cX5_takeNumbers 70 = .ok (.istore_n 3, 1) := dk_62 (by decide +kernel)
theorem dX5_takeNumbers_71 : decode cX5_takeNumbers 71 = .ok (.iload_n 3, 1) := dk_29 (by decide +kernel)
theorem dX5_takeNumbers_72 : decode cX5_takeNumbers 72 = .ok (.iconst (-1), 1) := dk_2 (by decide +kernel)
theorem dX5_takeNumbers_73 : decode cX5_takeNumbers 73 = .ok (.if_icmp .eq 18, 3) := dk_159 (by decide +kernel)
theorem dX5_takeNumbers_76 : decode cX5_takeNumbers 76 = .ok (.aload_n 1, 1) := dk_43 (by decide +kernel)
theorem dX5_takeNumbers_77 : decode cX5_takeNumbers 77 = .ok (.iload_n 2, 1) := dk_28 (by decide +kernel)
theorem dX5_takeNumbers_78 : decode cX5_takeNumbers 78 = .ok (.aaload, 1) := dk_50 (by decide +kernel)
theorem dX5_takeNumbers_79 : decode cX5_takeNumbers 79 = .ok (.aload_n 0, 1) := dk_42 (by decide +kernel)
theorem dX5_takeNumbers_80 : decode cX5_takeNumbers 80 = .ok (.getfield 12, 3) := dk_180 (by decide +kernel)
theorem dX5_takeNumbers_83 : decode cX5_takeNumbers 83 = .ok (.iload_n 3, 1) := dk_29 (by decide +kernel)
theorem dX5_takeNumbers_84 : decode cX5_takeNumbers 84 = .ok (.iconst 0, 1) := dk_3 (by decide +kernel)
theorem dX5_takeNumbers_85 : decode cX5_takeNumbers 85 = .ok (.invokevirtual 177, 3) := dk_182 (by decide +kernel)
theorem dX5_takeNumbers_88 : decode cX5_takeNumbers 88 = .ok (.invokevirtual 259, 3) := dk_182 (by decide +kernel)
theorem dX5_takeNumbers_91 : decode cX5_takeNumbers 91 = .ok (.iinc 2 1, 3) := dk_132 (by decide +kernel)
theorem dX5_takeNumbers_94 : decode cX5_takeNumbers 94 = .ok (.goto (-92), 3) := dk_167 (by decide +kernel)
theorem dX5_takeNumbers_97 : decode cX5_takeNumbers 97 = .ok (.return_, 1) := dk_177 (by decide +kernel)
def wsMX5_takeNumbers : List Cond := .code yX5_takeNumbers cX5_takeNumbers 4 none :: ([.fieldLink RX5 74 "OptimaWorks$Solver" "model" "LOptimaWorks$Model;", .fieldLink RX5 112 "OptimaWorks$Model" "variables" "I", .fieldLink RX5 12 "OptimaWorks$Solver" "tableau" "LOptimaWorks$Tableau;", .fieldLink RX5 253 "OptimaWorks$Tableau" "under" "LOptimaWorks$Whole;", .fieldLink RX5 35 "OptimaWorks$Solver" "start" "[I", .fieldLink RX5 38 "OptimaWorks$Solver" "column" "[I"] ++ wsX10 ++ wsX50 ++ wsX60 ++ (wsV RX5 184 RX8 yX8_setLong wsMX8_setLong) ++ (wsV RX5 211 RX5 yX5_addTimes wsMX5_addTimes) ++ (wsV RX5 265 RX6 yX6_rowOf wsMX6_rowOf) ++ (wsV RX5 177 RX6 yX6_cellAt wsMX6_cellAt) ++ (wsV RX5 259 RX8 yX8_add wsMX8_add))
theorem iwsMX5_takeNumbers_in1 : ∀ w ∈ wsX10, w ∈ wsMX5_takeNumbers := fun _ h => List.mem_cons_of_mem _ (List.mem_append_left _ (List.mem_append_left _ (List.mem_append_left _ (List.mem_append_left _ (List.mem_append_left _ (List.mem_append_left _ (List.mem_append_left _ (List.mem_append_right _ h))))))))
theorem iwsMX5_takeNumbers_in5 : ∀ w ∈ wsX50, w ∈ wsMX5_takeNumbers := fun _ h => List.mem_cons_of_mem _ (List.mem_append_left _ (List.mem_append_left _ (List.mem_append_left _ (List.mem_append_left _ (List.mem_append_left _ (List.mem_append_left _ (List.mem_append_right _ h)))))))
theorem iwsMX5_takeNumbers_in6 : ∀ w ∈ wsX60, w ∈ wsMX5_takeNumbers := fun _ h => List.mem_cons_of_mem _ (List.mem_append_left _ (List.mem_append_left _ (List.mem_append_left _ (List.mem_append_left _ (List.mem_append_left _ (List.mem_append_right _ h))))))
theorem gwsMX5_takeNumbers_0 : GoodIn wsMX5_takeNumbers (wsV RX5 184 RX8 yX8_setLong wsMX8_setLong) := goodIn_sub (fun _ h => List.mem_cons_of_mem _ (List.mem_append_left _ (List.mem_append_left _ (List.mem_append_left _ (List.mem_append_left _ (List.mem_append_right _ h)))))) (gdV (by decide +kernel) gdwsMX8_setLong)
theorem gwsMX5_takeNumbers_1 : GoodIn wsMX5_takeNumbers (wsV RX5 211 RX5 yX5_addTimes wsMX5_addTimes) := goodIn_sub (fun _ h => List.mem_cons_of_mem _ (List.mem_append_left _ (List.mem_append_left _ (List.mem_append_left _ (List.mem_append_right _ h))))) (gdV (by decide +kernel) gdwsMX5_addTimes)
theorem gwsMX5_takeNumbers_2 : GoodIn wsMX5_takeNumbers (wsV RX5 265 RX6 yX6_rowOf wsMX6_rowOf) := goodIn_sub (fun _ h => List.mem_cons_of_mem _ (List.mem_append_left _ (List.mem_append_left _ (List.mem_append_right _ h)))) (gdV (by decide +kernel) gdwsMX6_rowOf)
theorem gwsMX5_takeNumbers_3 : GoodIn wsMX5_takeNumbers (wsV RX5 177 RX6 yX6_cellAt wsMX6_cellAt) := goodIn_sub (fun _ h => List.mem_cons_of_mem _ (List.mem_append_left _ (List.mem_append_right _ h))) (gdV (by decide +kernel) gdwsMX6_cellAt)
theorem gwsMX5_takeNumbers_4 : GoodIn wsMX5_takeNumbers (wsV RX5 259 RX8 yX8_add wsMX8_add) := goodIn_sub (fun _ h => List.mem_cons_of_mem _ (List.mem_append_right _ h)) (gdV (by decide +kernel) gdwsMX8_add)
theorem gdwsMX5_takeNumbers : wsMX5_takeNumbers.all goodWord = true := gdC rfl (gdA (gdA (gdA (gdA (gdA (gdA (gdA (gdA (by decide +kernel : ([.fieldLink RX5 74 "OptimaWorks$Solver" "model" "LOptimaWorks$Model;", .fieldLink RX5 112 "OptimaWorks$Model" "variables" "I", .fieldLink RX5 12 "OptimaWorks$Solver" "tableau" "LOptimaWorks$Tableau;", .fieldLink RX5 253 "OptimaWorks$Tableau" "under" "LOptimaWorks$Whole;", .fieldLink RX5 35 "OptimaWorks$Solver" "start" "[I", .fieldLink RX5 38 "OptimaWorks$Solver" "column" "[I"] : List Cond).all goodWord = true) gdwsX10) gdwsX50) gdwsX60) (gdV (by decide +kernel) gdwsMX8_setLong)) (gdV (by decide +kernel) gdwsMX5_addTimes)) (gdV (by decide +kernel) gdwsMX6_rowOf)) (gdV (by decide +kernel) gdwsMX6_cellAt)) (gdV (by decide +kernel) gdwsMX8_add))
theorem hm_m_X5_takeNumbers_0 : (.fieldLink RX5 12 "OptimaWorks$Solver" "tableau" "LOptimaWorks$Tableau;" : Cond) ∈ wsMX5_takeNumbers := by decide +kernel
theorem hm_m_X5_takeNumbers_1 : (.fieldLink RX5 38 "OptimaWorks$Solver" "column" "[I" : Cond) ∈ wsMX5_takeNumbers := by decide +kernel
set_option maxHeartbeats 4000000 in
set_option maxRecDepth 100000 in
/-- the numbers are taken -/
theorem m_X5_takeNumbers (l : Launch) (dC : Nat → ClassId) (dI : Nat → Nat → Nat) (hO : Nat → Nat) (aO : Nat → Nat) (kO : Nat → ClassId) (hM : Nat → Nat) (hQ : Nat → Nat) (hw : Nat → Nat) (iO_answered : Int32) (iO_searched : Int32) (iO_searchedRelaxed : Int32) (iO_counted : Int32) (fO_countedCase : Nat → Int32) (gO_goalNumber : Nat → Int64) (gO_goalScale : Nat → Int64) (fO_start : Nat → Int32) (fO_column : Nat → Int32) (fO_chosen : Nat → Int32) (aM : Nat → Nat) (kM : Nat → ClassId) (iM_stands : Int32) (iM_variables : Int32) (iM_rows : Int32) (iM_goals : Int32) (iM_differents : Int32) (iM_cases : Int32) (fM_from : Nat → Int32) (fM_to : Nat → Int32) (fM_whole : Nat → Int32) (fM_ways : Nat → Int32) (iM_plainRows : Int32) (fM_plainRow : Nat → Int32) (fM_kept : Nat → Int32) (fM_goalOver : Nat → Int32) (fM_goalUnder : Nat → Int32) (fM_goalMax : Nat → Int32) (fM_different : Nat → Int32) (aQ : Nat → Nat) (kQ : Nat → ClassId) (fQ_inside : Nat → Int32) (fQ_outside : Nat → Int32) (fQ_shut : Nat → Int32) (iQ_rows : Int32) (iQ_allRows : Int32) (iQ_columns : Int32) (nW : Nat) (lw : Nat → Nat) (kw : ClassId) (wl : Nat → Int32) (wb : Nat → Int32) (wG : Nat → Nat → Int64) (b_iO_answered : 0 ≤ iO_answered.toInt ∧ iO_answered.toInt ≤ 1) (b_iO_searched : 0 ≤ iO_searched.toInt ∧ iO_searched.toInt ≤ 1) (b_iO_searchedRelaxed : 0 ≤ iO_searchedRelaxed.toInt ∧ iO_searchedRelaxed.toInt ≤ 1) (b_iO_counted : (-1) ≤ iO_counted.toInt ∧ iO_counted.toInt ≤ 64) (b_fO_countedCase : ∀ q : Nat, 0 ≤ (fO_countedCase q).toInt ∧ (fO_countedCase q).toInt ≤ 200000) (b_fO_column : ∀ q : Nat, (-1) ≤ (fO_column q).toInt ∧ (fO_column q).toInt ≤ 8) (b_fO_chosen : ∀ q : Nat, 0 ≤ (fO_chosen q).toInt ∧ (fO_chosen q).toInt ≤ 2) (b_iM_stands : 0 ≤ iM_stands.toInt ∧ iM_stands.toInt ≤ 1) (b_iM_variables : 0 ≤ iM_variables.toInt ∧ iM_variables.toInt ≤ 8) (b_iM_rows : 0 ≤ iM_rows.toInt ∧ iM_rows.toInt ≤ 12) (b_iM_goals : 0 ≤ iM_goals.toInt ∧ iM_goals.toInt ≤ 3) (b_iM_differents : 0 ≤ iM_differents.toInt ∧ iM_differents.toInt ≤ 8) (b_iM_cases : 0 ≤ iM_cases.toInt ∧ iM_cases.toInt ≤ 200000) (b_fM_ways : ∀ q : Nat, 0 ≤ (fM_ways q).toInt ∧ (fM_ways q).toInt ≤ 3) (b_iM_plainRows : 0 ≤ iM_plainRows.toInt ∧ iM_plainRows.toInt ≤ 12) (b_fM_plainRow : ∀ q : Nat, 0 ≤ (fM_plainRow q).toInt ∧ (fM_plainRow q).toInt ≤ 11) (b_pr : iM_plainRows.toInt ≤ iM_rows.toInt) (b_iQ_rows : 0 ≤ iQ_rows.toInt ∧ iQ_rows.toInt ≤ 40) (b_iQ_allRows : 0 ≤ iQ_allRows.toInt ∧ iQ_allRows.toInt ≤ 40) (b_iQ_columns : 0 ≤ iQ_columns.toInt ∧ iQ_columns.toInt ≤ 40) (b_tb : TbO iQ_rows iQ_allRows iQ_columns) (b_wl : ∀ q : Nat, 0 ≤ (wl q).toInt ∧ (wl q).toInt ≤ 14) (b_wb : ∀ q : Nat, 0 ≤ (wb q).toInt ∧ (wb q).toInt ≤ 1) (hnW : 432 ≤ nW) (hc8 : iQ_columns.toInt ≤ 8) (sz : Nat) : Met l yX5_takeNumbers wsMX5_takeNumbers ({ frames := 4, cells := 0, slots := 0, locals := 85 }) (va_Pc [.ref (hO 0), .ref (aO 8)] (fun U => U.heap.size = sz ∧ va_P (dC, dI) vwCl (WO hO aO kO hM hQ hw iO_answered iO_searched iO_searchedRelaxed iO_counted fO_countedCase gO_goalNumber gO_goalScale fO_start fO_column fO_chosen ++ (WM hM aM kM iM_stands iM_variables iM_rows iM_goals iM_differents iM_cases fM_from fM_to fM_whole fM_ways iM_plainRows fM_plainRow fM_kept fM_goalOver fM_goalUnder fM_goalMax fM_different ++ (WQ hQ aQ kQ hw fQ_inside fQ_outside fQ_shut iQ_rows iQ_allRows iQ_columns ++ (WW nW hw lw kw wl wb wG)))) U.heap ∧ va_K (dC, dI) vwCl (tO kO ++ (tM kM ++ (tQ kQ ++ (tW kw)))) U ∧ va_D (fun _ => True) (WO hO aO kO hM hQ hw iO_answered iO_searched iO_searchedRelaxed iO_counted fO_countedCase gO_goalNumber gO_goalScale fO_start fO_column fO_chosen ++ (WM hM aM kM iM_stands iM_variables iM_rows iM_goals iM_differents iM_cases fM_from fM_to fM_whole fM_ways iM_plainRows fM_plainRow fM_kept fM_goalOver fM_goalUnder fM_goalMax fM_different ++ (WQ hQ aQ kQ hw fQ_inside fQ_outside fQ_shut iQ_rows iQ_allRows iQ_columns ++ (WW nW hw lw kw wl wb wG)))))) (va_Qv (fun (u : (Nat → Int32) × (Nat → Int32) × (Nat → Nat → Int64)) => (∀ q : Nat, 0 ≤ ((u.1) q).toInt ∧ ((u.1) q).toInt ≤ 14) ∧ (∀ q : Nat, 0 ≤ ((u.2.1) q).toInt ∧ ((u.2.1) q).toInt ≤ 1)) (fun (u : (Nat → Int32) × (Nat → Int32) × (Nat → Nat → Int64)) t => va_P (dC, dI) vwCl (WO hO aO kO hM hQ hw iO_answered iO_searched iO_searchedRelaxed iO_counted fO_countedCase gO_goalNumber gO_goalScale fO_start fO_column fO_chosen ++ (WM hM aM kM iM_stands iM_variables iM_rows iM_goals iM_differents iM_cases fM_from fM_to fM_whole fM_ways iM_plainRows fM_plainRow fM_kept fM_goalOver fM_goalUnder fM_goalMax fM_different ++ (WQ hQ aQ kQ hw fQ_inside fQ_outside fQ_shut iQ_rows iQ_allRows iQ_columns ++ (WW nW hw lw kw (u.1) (u.2.1) (u.2.2))))) t.heap ∧ va_D (va_A (WO hO aO kO hM hQ hw iO_answered iO_searched iO_searchedRelaxed iO_counted fO_countedCase gO_goalNumber gO_goalScale fO_start fO_column fO_chosen ++ (WM hM aM kM iM_stands iM_variables iM_rows iM_goals iM_differents iM_cases fM_from fM_to fM_whole fM_ways iM_plainRows fM_plainRow fM_kept fM_goalOver fM_goalUnder fM_goalMax fM_different ++ (WQ hQ aQ kQ hw fQ_inside fQ_outside fQ_shut iQ_rows iQ_allRows iQ_columns ++ (WW nW hw lw kw wl wb wG)))) sz) (WO hO aO kO hM hQ hw iO_answered iO_searched iO_searchedRelaxed iO_counted fO_countedCase gO_goalNumber gO_goalScale fO_start fO_column fO_chosen ++ (WM hM aM kM iM_stands iM_variables iM_rows iM_goals iM_differents iM_cases fM_from fM_to fM_whole fM_ways iM_plainRows fM_plainRow fM_kept fM_goalOver fM_goalUnder fM_goalMax fM_different ++ (WQ hQ aQ kQ hw fQ_inside fQ_outside fQ_shut iQ_rows iQ_allRows iQ_columns ++ (WW nW hw lw kw (u.1) (u.2.1) (u.2.2)))))) (va_A (WO hO aO kO hM hQ hw iO_answered iO_searched iO_searchedRelaxed iO_counted fO_countedCase gO_goalNumber gO_goalScale fO_start fO_column fO_chosen ++ (WM hM aM kM iM_stands iM_variables iM_rows iM_goals iM_differents iM_cases fM_from fM_to fM_whole fM_ways iM_plainRows fM_plainRow fM_kept fM_goalOver fM_goalUnder fM_goalMax fM_different ++ (WQ hQ aQ kQ hw fQ_inside fQ_outside fQ_shut iQ_rows iQ_allRows iQ_columns ++ (WW nW hw lw kw wl wb wG)))) sz)) 0 0 (va_A (WO hO aO kO hM hQ hw iO_answered iO_searched iO_searchedRelaxed iO_counted fO_countedCase gO_goalNumber gO_goalScale fO_start fO_column fO_chosen ++ (WM hM aM kM iM_stands iM_variables iM_rows iM_goals iM_differents iM_cases fM_from fM_to fM_whole fM_ways iM_plainRows fM_plainRow fM_kept fM_goalOver fM_goalUnder fM_goalMax fM_different ++ (WQ hQ aQ kQ hw fQ_inside fQ_outside fQ_shut iQ_rows iQ_allRows iQ_columns ++ (WW nW hw lw kw wl wb wG)))) sz) := by
  refine Met.ofW (cc := cX5_takeNumbers) (maxL := 4) (ret := none) (by decide) rfl ?_
  intro p e s m args below meth c s₁ B hml hv
  obtain ⟨rfl, hsz, hP, hK, hD0⟩ := hv
  have hx := B.exec
  have hb := B.bytes
  have hr := B.returns
  have hts := atoms_spec (ws := wsMX5_takeNumbers) B.pre
  have hown : s.vm.findClass RX5 = some m.cls := findClass_of_methodNamed B.named
  have hlocks := B.notSynchronized
  subst hsz
  have hD := hD0.self (sz := s.heap.size)
  generalize hAe : va_A (WO hO aO kO hM hQ hw iO_answered iO_searched iO_searchedRelaxed iO_counted fO_countedCase gO_goalNumber gO_goalScale fO_start fO_column fO_chosen ++ (WM hM aM kM iM_stands iM_variables iM_rows iM_goals iM_differents iM_cases fM_from fM_to fM_whole fM_ways iM_plainRows fM_plainRow fM_kept fM_goalOver fM_goalUnder fM_goalMax fM_different ++ (WQ hQ aQ kQ hw fQ_inside fQ_outside fQ_shut iQ_rows iQ_allRows iQ_columns ++ (WW nW hw lw kw wl wb wG)))) s.heap.size = A at hD ⊢
  have hA : ∀ q : Nat, s.heap.size ≤ q → A q := fun q h => by rw [← hAe]; exact Or.inr h
  have hS : va_S A s.heap s.heap [] := va_S.rf
  have hl := lv_entry ([.ref (hO 0), .ref (aO 8)]) (n := 4) (Nat.le_of_ble_eq_true rfl)
  rw [lg_entry_eq]
  generalize (lg_sl ([.ref (hO 0), .ref (aO 8)]) ++ List.replicate (4 - (lg_sl ([.ref (hO 0), .ref (aO 8)])).length) Slot.unset).toArray = ls at hl ⊢
  have hl : lv_has ls 4 [(0, .ref (hO 0)), (1, .ref (aO 8))] := hl
  refine lv_iconst (v := 0) hx hb dX5_takeNumbers_0 (by decide) ?_
  refine lv_istore_n hx hb dX5_takeNumbers_1 rfl hl (by decide) rfl (fun ls (hl : lv_has ls _ ([(2, .int 0), (0, .ref (hO 0)), (1, .ref (aO 8))])) => ?_)
  have hl : lv_has _ _ ([(2, .int 0), (0, .ref (hO 0)), (1, .ref (aO 8))]) := lv_sub hl [0, 1, 2] rfl
  refine (fun (loop : ∀ (n9 : Nat) (wl_x2 : Nat → Int32) (wb_x2 : Nat → Int32) (wG_x2 : Nat → Nat → Int64) (l2_x2 : Int32) (H : Heap) (locs : List Loc) (ls : Array Slot), (∀ q : Nat, 0 ≤ (wl_x2 q).toInt ∧ (wl_x2 q).toInt ≤ 14) → (∀ q : Nat, 0 ≤ (wb_x2 q).toInt ∧ (wb_x2 q).toInt ≤ 1) → (0 ≤ l2_x2.toInt ∧ l2_x2.toInt ≤ 8) → (8 - l2_x2.toInt < ((n9 : Nat) : Int)) → va_P (dC, dI) vwCl (WO hO aO kO hM hQ hw iO_answered iO_searched iO_searchedRelaxed iO_counted fO_countedCase gO_goalNumber gO_goalScale fO_start fO_column fO_chosen ++ (WM hM aM kM iM_stands iM_variables iM_rows iM_goals iM_differents iM_cases fM_from fM_to fM_whole fM_ways iM_plainRows fM_plainRow fM_kept fM_goalOver fM_goalUnder fM_goalMax fM_different ++ (WQ hQ aQ kQ hw fQ_inside fQ_outside fQ_shut iQ_rows iQ_allRows iQ_columns ++ (WW nW hw lw kw wl_x2 wb_x2 wG_x2)))) H → va_D A (WO hO aO kO hM hQ hw iO_answered iO_searched iO_searchedRelaxed iO_counted fO_countedCase gO_goalNumber gO_goalScale fO_start fO_column fO_chosen ++ (WM hM aM kM iM_stands iM_variables iM_rows iM_goals iM_differents iM_cases fM_from fM_to fM_whole fM_ways iM_plainRows fM_plainRow fM_kept fM_goalOver fM_goalUnder fM_goalMax fM_different ++ (WQ hQ aQ kQ hw fQ_inside fQ_outside fQ_shut iQ_rows iQ_allRows iQ_columns ++ (WW nW hw lw kw wl_x2 wb_x2 wG_x2)))) → va_S A s.heap H locs → lv_has ls 4 [(2, .int l2_x2), (0, .ref (hO 0)), (1, .ref (aO 8))] → W p l e _ s m _ below meth c H locs 0 0 _ (F0 m 2 ls [])) => loop (9) wl wb wG 0 _ _ _ b_wl b_wb (show 0 ≤ (0 : Int32).toInt ∧ (0 : Int32).toInt ≤ 8 from by decide) ((by have e9 : (0 : Int32).toInt = 0 := (by decide : (0 : Int32).toInt = 0); omega)) hP hD hS hl) ?_
  intro n9
  induction n9 with
  | zero => intro wl_x2 wb_x2 wG_x2 l2_x2 H locs ls b_wl_x2 b_wb_x2 b_l2_x2 hf9; exact False.elim (by omega)
  | succ n9 ihx2 =>
    intro wl_x2 wb_x2 wG_x2 l2_x2 H locs ls b_wl_x2 b_wb_x2 b_l2_x2 hfx2 hP hD hS hl
    refine lv_iload_n hx hb dX5_takeNumbers_2 rfl (lv_at hl 0 rfl) ?_
    refine lv_aload_n hx hb dX5_takeNumbers_3 rfl (lv_at hl 1 rfl) ?_
    refine va_get (D := (dC, dI)) (ci := 5) (v := .ref (hM 0)) (C := RX5) (T := TX5) (N := 19) hx hb hts iwsMX5_takeNumbers_in5 hown hK hP 0 rfl rfl 0 (by decide) (hts (.fieldLink RX5 74 "OptimaWorks$Solver" "model" "LOptimaWorks$Model;") (by decide +kernel)) (fun _ h9 => h9) rfl dX5_takeNumbers_4 ?_
    refine va_get (D := (dC, dI)) (ci := 1) (v := .int iM_variables) (C := RX1) (T := TX1) (N := 17) hx hb hts iwsMX5_takeNumbers_in1 hown hK hP 11 rfl rfl 1 (by decide) (hts (.fieldLink RX5 112 "OptimaWorks$Model" "variables" "I") (by decide +kernel)) (fun _ h9 => h9) rfl dX5_takeNumbers_7 ?_
    refine lv_icmp_ge (tgt := 97) hx hb dX5_takeNumbers_10 (by decide) (fun c_10 => ?_) (fun c_10 => ?_)
    · have t_10 : l2_x2.toInt ≥ iM_variables.toInt := toI_ge c_10 rfl rfl
      refine W.widen (k := 0) (n := 0) (by decide +kernel) (by decide +kernel) ?_
      exact W.vret hx hb hr (fun t9_ ht hW => ⟨⟨(wl_x2, wb_x2, wG_x2), rfl, ⟨b_wl_x2, b_wb_x2⟩, by rw [ht]; exact hP, hD⟩, hS.F ht⟩) hS.2.2 dX5_takeNumbers_97
    · have t_10 : ¬ l2_x2.toInt ≥ iM_variables.toInt := toI_nge c_10 rfl rfl
      refine lv_aload_n hx hb dX5_takeNumbers_13 rfl (lv_at hl 2 rfl) ?_
      refine lv_iload_n hx hb dX5_takeNumbers_14 rfl (lv_at hl 0 rfl) ?_
      refine va_aldq (cA := kO 8) (n := 8) (f := fun q => some (hw (418 + q))) hx hb hK hP 9 8 rfl rfl (vp_in_iff.mpr ⟨b_l2_x2.1, (Int.lt_of_lt_of_le (Int.not_le.mp t_10) (Int.le_trans b_iM_variables.2 (by decide)))⟩) dX5_takeNumbers_15 ?_
      obtain ⟨k81, hk81, b_k81⟩ : ∃ k9 : Nat, k9 = 418 + (l2_x2).toNatClampNeg ∧ (418 ≤ k9 ∧ k9 < 426 ∧ (k9 : Int) = 418 + l2_x2.toInt) := ⟨_, rfl, ald_k (x := (l2_x2)) (o := 418) (n := 8) rfl (by omega) (by omega)⟩
      refine W.eq (g2 := F0 m 16 ls [.ref (hw k81)]) (by rw [hk81]; rfl) ?_
      clear hk81
      refine lv_lconst (v := 0) hx hb dX5_takeNumbers_16 (by decide) ?_
      have p9 := cj_4_3 (WO hO aO kO hM hQ hw iO_answered iO_searched iO_searchedRelaxed iO_counted fO_countedCase gO_goalNumber gO_goalScale fO_start fO_column fO_chosen) (WM hM aM kM iM_stands iM_variables iM_rows iM_goals iM_differents iM_cases fM_from fM_to fM_whole fM_ways iM_plainRows fM_plainRow fM_kept fM_goalOver fM_goalUnder fM_goalMax fM_different) (WQ hQ aQ kQ hw fQ_inside fQ_outside fQ_shut iQ_rows iQ_allRows iQ_columns) (WW nW hw lw kw wl_x2 wb_x2 wG_x2)
      have hPc := hP.mem (fun q h => p9.mem_iff.mpr (List.mem_append_left _ h))
      have hDc := (hD.perm p9).left
      have hKc : va_K (dC, dI) vwCl (tW kw) _ := hK.sub [24] rfl
      have hFc := freeG p9 hD hS hA
      refine va_callv (va_runV (As := [.long 0]) (rest := []) ⟨hx, hb, hml, hown, hts⟩ (m_X8_setLong l dC dI nW hw lw kw wl_x2 wb_x2 wG_x2 k81 0 b_wl_x2 b_wb_x2 (by first | with_reducible assumption | omega | (rw [iI_t (by omega) (by omega)]; omega) | decide | assumption) H.size) (cwV 1 hts gwsMX5_takeNumbers_0 rfl rfl rfl hd_yX8_setLong_RX8 (by decide +kernel)) (fz_pre (va_recv hK hP (ci := 8) (q0 := 11 + (11 + (5 + (k81)))) rfl (apR rfl (apR rfl (apR rfl (WW_o (by omega)))))) hPc hKc hDc) rfl rfl hl.1 rfl (lv_room (Nat.le_of_ble_eq_true rfl)) dX5_takeNumbers_17 (by decide +kernel)) hS (fun q _ h => hFc q h) hFc (fun u t9_ H locs ht hvm hw9 hB9 hz1 hk1 hS => ?_)
      revert u hw9 hB9
      refine fz_p3 ?_
      intro wl_82 wb_82 wG_82 hw9 hB9
      try dsimp only at hw9 hB9
      revert hw9
      refine fz_a2 ?_
      intro b_wl_82 b_wb_82
      have p8 := cj_4_3 (WO hO aO kO hM hQ hw iO_answered iO_searched iO_searchedRelaxed iO_counted fO_countedCase gO_goalNumber gO_goalScale fO_start fO_column fO_chosen) (WM hM aM kM iM_stands iM_variables iM_rows iM_goals iM_differents iM_cases fM_from fM_to fM_whole fM_ways iM_plainRows fM_plainRow fM_kept fM_goalOver fM_goalUnder fM_goalMax fM_different) (WQ hQ aQ kQ hw fQ_inside fQ_outside fQ_shut iQ_rows iQ_allRows iQ_columns) (WW nW hw lw kw wl_82 wb_82 wG_82)
      obtain ⟨hP, hD⟩ := frameG p9 p8 hP hD hk1 hFc (fz_P ht hB9.1) hB9.2
      refine lv_aload_n hx hb dX5_takeNumbers_20 rfl (lv_at hl 1 rfl) ?_
      refine lv_aload_n hx hb dX5_takeNumbers_21 rfl (lv_at hl 2 rfl) ?_
      refine lv_iload_n hx hb dX5_takeNumbers_22 rfl (lv_at hl 0 rfl) ?_
      refine va_aldq (cA := kO 8) (n := 8) (f := fun q => some (hw (418 + q))) hx hb hK hP 9 8 rfl rfl (vp_in_iff.mpr ⟨b_l2_x2.1, (Int.lt_of_lt_of_le (Int.not_le.mp t_10) (Int.le_trans b_iM_variables.2 (by decide)))⟩) dX5_takeNumbers_23 ?_
      obtain ⟨k83, hk83, b_k83⟩ : ∃ k9 : Nat, k9 = 418 + (l2_x2).toNatClampNeg ∧ (418 ≤ k9 ∧ k9 < 426 ∧ (k9 : Int) = 418 + l2_x2.toInt) := ⟨_, rfl, ald_k (x := (l2_x2)) (o := 418) (n := 8) rfl (by omega) (by omega)⟩
      refine W.eq (g2 := F0 m 24 ls [.ref (hw k83), .ref (hO 0)]) (by rw [hk83]; rfl) ?_
      clear hk83
      refine lv_aload_n hx hb dX5_takeNumbers_24 rfl (lv_at hl 1 rfl) ?_
      refine va_get (D := (dC, dI)) (ci := 5) (v := .ref (hQ 0)) (C := RX5) (T := TX5) (N := 19) hx hb hts iwsMX5_takeNumbers_in5 hown hK hP 0 rfl rfl 1 (by decide) (hts _ hm_m_X5_takeNumbers_0) (fun _ h9 => h9) rfl dX5_takeNumbers_25 ?_
      refine va_get (D := (dC, dI)) (ci := 6) (v := .ref (hw 400)) (C := RX6) (T := TX6) (N := 13) hx hb hts iwsMX5_takeNumbers_in6 hown hK hP 22 rfl rfl 4 (by decide) (hts (.fieldLink RX5 253 "OptimaWorks$Tableau" "under" "LOptimaWorks$Whole;") (by decide +kernel)) (fun _ h9 => h9) rfl dX5_takeNumbers_28 ?_
      refine lv_aload_n hx hb dX5_takeNumbers_31 rfl (lv_at hl 1 rfl) ?_
      refine va_get (D := (dC, dI)) (ci := 5) (v := .ref (aO 3)) (C := RX5) (T := TX5) (N := 19) hx hb hts iwsMX5_takeNumbers_in5 hown hK hP 0 rfl rfl 9 (by decide) (hts (.fieldLink RX5 35 "OptimaWorks$Solver" "start" "[I") (by decide +kernel)) (fun _ h9 => h9) rfl dX5_takeNumbers_32 ?_
      refine lv_iload_n hx hb dX5_takeNumbers_35 rfl (lv_at hl 0 rfl) ?_
      refine va_iald (cA := kO 3) (n := 8) (f := fO_start) hx hb hK hP 4 3 rfl rfl (vp_in_iff.mpr ⟨b_l2_x2.1, (Int.lt_of_lt_of_le (Int.not_le.mp t_10) (Int.le_trans b_iM_variables.2 (by decide)))⟩) dX5_takeNumbers_36 ?_
      refine lv_topi (fun v84 hv84 => ?_)
      clear hv84
      refine lv_i2l hx hb dX5_takeNumbers_37 rfl ?_
      refine lv_topl (fun v85 hv85 => ?_)
      clear hv85
      have hFc := allFree hD hS hA
      refine va_callv (va_runV (As := [.ref (hw k83), .ref (hw 400), .long v85]) (rest := []) ⟨hx, hb, hml, hown, hts⟩ (m_X5_addTimes l dC dI hO aO kO hM hQ hw iO_answered iO_searched iO_searchedRelaxed iO_counted fO_countedCase gO_goalNumber gO_goalScale fO_start fO_column fO_chosen aM kM iM_stands iM_variables iM_rows iM_goals iM_differents iM_cases fM_from fM_to fM_whole fM_ways iM_plainRows fM_plainRow fM_kept fM_goalOver fM_goalUnder fM_goalMax fM_different aQ kQ fQ_inside fQ_outside fQ_shut iQ_rows iQ_allRows iQ_columns nW lw kw wl_82 wb_82 wG_82 k83 400 v85 (b_iO_answered) (b_iO_searched) (b_iO_searchedRelaxed) (b_iO_counted) b_fO_countedCase b_fO_column b_fO_chosen (b_iM_stands) (b_iM_variables) (b_iM_rows) (b_iM_goals) (b_iM_differents) (b_iM_cases) b_fM_ways (b_iM_plainRows) b_fM_plainRow (by first | with_reducible assumption | omega | assumption) (b_iQ_rows) (b_iQ_allRows) (b_iQ_columns) (by first | with_reducible assumption | omega | assumption) b_wl_82 b_wb_82 (by omega) (by first | with_reducible assumption | omega | (rw [iI_t (by omega) (by omega)]; omega) | decide | assumption) (by first | with_reducible assumption | omega | (rw [iI_t (by omega) (by omega)]; omega) | decide | assumption) H.size) (cwV 3 hts gwsMX5_takeNumbers_1 rfl rfl rfl hd_yX5_addTimes_RX5 (by decide +kernel)) (fz_pre (va_recv hK hP (ci := 5) (q0 := 0) rfl rfl) hP hK hD) rfl rfl hl.1 rfl (lv_room (Nat.le_of_ble_eq_true rfl)) dX5_takeNumbers_38 (by decide +kernel)) hS (fun q _ h => hFc q h) hFc (fun u t9_ H locs ht hvm hw9 hB9 hz1 hk1 hS => ?_)
      revert u hw9 hB9
      refine fz_p3 ?_
      intro wl_86 wb_86 wG_86 hw9 hB9
      try dsimp only at hw9 hB9
      revert hw9
      refine fz_a2 ?_
      intro b_wl_86 b_wb_86
      have hP : va_P (dC, dI) vwCl (WO hO aO kO hM hQ hw iO_answered iO_searched iO_searchedRelaxed iO_counted fO_countedCase gO_goalNumber gO_goalScale fO_start fO_column fO_chosen ++ (WM hM aM kM iM_stands iM_variables iM_rows iM_goals iM_differents iM_cases fM_from fM_to fM_whole fM_ways iM_plainRows fM_plainRow fM_kept fM_goalOver fM_goalUnder fM_goalMax fM_different ++ (WQ hQ aQ kQ hw fQ_inside fQ_outside fQ_shut iQ_rows iQ_allRows iQ_columns ++ (WW nW hw lw kw wl_86 wb_86 wG_86)))) H := fz_P ht hB9.1
      have hD := fz_sd hP (hB9.2.weaken (fun _ q _ h => hFc q.1 h)) rfl
      refine lv_aload_n hx hb dX5_takeNumbers_41 rfl (lv_at hl 1 rfl) ?_
      refine va_get (D := (dC, dI)) (ci := 5) (v := .ref (aO 4)) (C := RX5) (T := TX5) (N := 19) hx hb hts iwsMX5_takeNumbers_in5 hown hK hP 0 rfl rfl 10 (by decide) (hts _ hm_m_X5_takeNumbers_1) (fun _ h9 => h9) rfl dX5_takeNumbers_42 ?_
      refine lv_iload_n hx hb dX5_takeNumbers_45 rfl (lv_at hl 0 rfl) ?_
      refine va_iald (cA := kO 4) (n := 8) (f := fO_column) hx hb hK hP 5 4 rfl rfl (vp_in_iff.mpr ⟨b_l2_x2.1, (Int.lt_of_lt_of_le (Int.not_le.mp t_10) (Int.le_trans b_iM_variables.2 (by decide)))⟩) dX5_takeNumbers_46 ?_
      refine lv_topi (fun v87 hv87 => ?_)
      have b_v87 : (-1) ≤ v87.toInt ∧ v87.toInt ≤ 8 := by rw [hv87]; exact b_fO_column _
      clear hv87
      refine lv_iconst (v := (-1)) hx hb dX5_takeNumbers_47 (by decide) ?_
      refine lv_icmp_ne (tgt := 55) hx hb dX5_takeNumbers_48 (by decide) (fun c_48 => ?_) (fun c_48 => ?_)
      · have t_48 : v87.toInt ≠ (-1) := toI_ne c_48 rfl (by decide : ((-1) : Int32).toInt = (-1))
        refine lv_aload_n hx hb dX5_takeNumbers_55 rfl (lv_at hl 1 rfl) ?_
        refine va_get (D := (dC, dI)) (ci := 5) (v := .ref (hQ 0)) (C := RX5) (T := TX5) (N := 19) hx hb hts iwsMX5_takeNumbers_in5 hown hK hP 0 rfl rfl 1 (by decide) (hts _ hm_m_X5_takeNumbers_0) (fun _ h9 => h9) rfl dX5_takeNumbers_56 ?_
        refine lv_aload_n hx hb dX5_takeNumbers_59 rfl (lv_at hl 1 rfl) ?_
        refine va_get (D := (dC, dI)) (ci := 5) (v := .ref (aO 4)) (C := RX5) (T := TX5) (N := 19) hx hb hts iwsMX5_takeNumbers_in5 hown hK hP 0 rfl rfl 10 (by decide) (hts _ hm_m_X5_takeNumbers_1) (fun _ h9 => h9) rfl dX5_takeNumbers_60 ?_
        refine lv_iload_n hx hb dX5_takeNumbers_63 rfl (lv_at hl 0 rfl) ?_
        refine va_iald (cA := kO 4) (n := 8) (f := fO_column) hx hb hK hP 5 4 rfl rfl (vp_in_iff.mpr ⟨b_l2_x2.1, (Int.lt_of_lt_of_le (Int.not_le.mp t_10) (Int.le_trans b_iM_variables.2 (by decide)))⟩) dX5_takeNumbers_64 ?_
        refine lv_topi (fun v88 hv88 => ?_)
        have b_v88 : (-1) ≤ v88.toInt ∧ v88.toInt ≤ 8 := by rw [hv88]; exact b_fO_column _
        clear hv88
        refine lv_iconst (v := 1) hx hb dX5_takeNumbers_65 (by decide) ?_
        refine lv_isub hx hb dX5_takeNumbers_66 ?_
        refine lv_topi (fun y89 hy89 => ?_)
        obtain rfl : (iI (v88.toInt - 1)) = y89 := (hy89.trans (iI_sub2 (iI_of _) (by decide : (1 : Int32) = iI 1))).symm
        have p9 := cj_4_2_3 (WO hO aO kO hM hQ hw iO_answered iO_searched iO_searchedRelaxed iO_counted fO_countedCase gO_goalNumber gO_goalScale fO_start fO_column fO_chosen) (WM hM aM kM iM_stands iM_variables iM_rows iM_goals iM_differents iM_cases fM_from fM_to fM_whole fM_ways iM_plainRows fM_plainRow fM_kept fM_goalOver fM_goalUnder fM_goalMax fM_different) (WQ hQ aQ kQ hw fQ_inside fQ_outside fQ_shut iQ_rows iQ_allRows iQ_columns) (WW nW hw lw kw wl_86 wb_86 wG_86)
        have hPc := hP.mem (fun q h => p9.mem_iff.mpr (List.mem_append_left _ h))
        have hDc := (hD.perm p9).left
        have hKc : va_K (dC, dI) vwCl (tQ kQ ++ (tW kw)) _ := hK.sub [20, 21, 22, 23, 24] rfl
        have hFc := freeG p9 hD hS hA
        refine va_calli (va_runV (As := [.int (iI (v88.toInt - 1))]) (rest := []) ⟨hx, hb, hml, hown, hts⟩ (m_X6_rowOf l dC dI hQ aQ kQ hw fQ_inside fQ_outside fQ_shut iQ_rows iQ_allRows iQ_columns nW lw kw wl_86 wb_86 wG_86 (iI (v88.toInt - 1)) (b_iQ_rows) (b_iQ_allRows) (b_iQ_columns) (by first | with_reducible assumption | omega | assumption) b_wl_86 b_wb_86 (by omega) H.size) (cwV 1 hts gwsMX5_takeNumbers_2 rfl rfl rfl hd_yX6_rowOf_RX6 (by decide +kernel)) (fz_pre (va_recv hK hP (ci := 6) (q0 := 22) rfl rfl) hPc hKc hDc) rfl rfl hl.1 rfl (lv_room (Nat.le_of_ble_eq_true rfl)) dX5_takeNumbers_67 (by decide +kernel)) hS (fun q _ h => hFc q h) hFc (fun r90 u t9_ H locs ht hvm hw9 hB9 hz1 hk1 hS => ?_)
        revert hw9
        refine fz_a2 ?_
        intro b_r90 f90_0
        have p8 := p9
        obtain ⟨hP, hD⟩ := frameG p9 p8 hP hD hk1 hFc (fz_P ht hB9.1) hB9.2
        refine lv_istore_n hx hb dX5_takeNumbers_70 rfl hl (by decide) rfl (fun ls (hl : lv_has ls _ ([(3, .int r90), (2, .int l2_x2), (0, .ref (hO 0)), (1, .ref (aO 8))])) => ?_)
        refine lv_iload_n hx hb dX5_takeNumbers_71 rfl (lv_at hl 0 rfl) ?_
        refine lv_iconst (v := (-1)) hx hb dX5_takeNumbers_72 (by decide) ?_
        refine W.cut (pc := 91) (fun H locs ls stk => ∃ (wl_j12 : Nat → Int32) (wb_j12 : Nat → Int32) (wG_j12 : Nat → Nat → Int64), (∀ q : Nat, 0 ≤ (wl_j12 q).toInt ∧ (wl_j12 q).toInt ≤ 14) ∧ (∀ q : Nat, 0 ≤ (wb_j12 q).toInt ∧ (wb_j12 q).toInt ≤ 1) ∧  stk = [] ∧ va_P (dC, dI) vwCl (WO hO aO kO hM hQ hw iO_answered iO_searched iO_searchedRelaxed iO_counted fO_countedCase gO_goalNumber gO_goalScale fO_start fO_column fO_chosen ++ (WM hM aM kM iM_stands iM_variables iM_rows iM_goals iM_differents iM_cases fM_from fM_to fM_whole fM_ways iM_plainRows fM_plainRow fM_kept fM_goalOver fM_goalUnder fM_goalMax fM_different ++ (WQ hQ aQ kQ hw fQ_inside fQ_outside fQ_shut iQ_rows iQ_allRows iQ_columns ++ (WW nW hw lw kw wl_j12 wb_j12 wG_j12)))) H ∧ va_D A (WO hO aO kO hM hQ hw iO_answered iO_searched iO_searchedRelaxed iO_counted fO_countedCase gO_goalNumber gO_goalScale fO_start fO_column fO_chosen ++ (WM hM aM kM iM_stands iM_variables iM_rows iM_goals iM_differents iM_cases fM_from fM_to fM_whole fM_ways iM_plainRows fM_plainRow fM_kept fM_goalOver fM_goalUnder fM_goalMax fM_different ++ (WQ hQ aQ kQ hw fQ_inside fQ_outside fQ_shut iQ_rows iQ_allRows iQ_columns ++ (WW nW hw lw kw wl_j12 wb_j12 wG_j12)))) ∧ va_S A s.heap H locs ∧ lv_has ls 4 [(3, .int r90), (2, .int l2_x2), (0, .ref (hO 0)), (1, .ref (aO 8))]) (fun join12 => ?_) ?_
        · refine lv_icmp_eq (tgt := 91) hx hb dX5_takeNumbers_73 (by decide) (fun c_73 => ?_) (fun c_73 => ?_)
          · have t_73 : r90.toInt = (-1) := toI_eq c_73 rfl (by decide : ((-1) : Int32).toInt = (-1))
            have hl : lv_has _ _ ([(3, .int r90), (2, .int l2_x2), (0, .ref (hO 0)), (1, .ref (aO 8))]) := lv_sub hl [0, 1, 2, 3] rfl
            exact join12 _ _ _ _ ⟨wl_86, wb_86, wG_86, b_wl_86, b_wb_86, rfl, hP, hD, hS, hl⟩
          · have t_73 : ¬ r90.toInt = (-1) := toI_neq c_73 rfl (by decide : ((-1) : Int32).toInt = (-1))
            refine lv_aload_n hx hb dX5_takeNumbers_76 rfl (lv_at hl 3 rfl) ?_
            refine lv_iload_n hx hb dX5_takeNumbers_77 rfl (lv_at hl 1 rfl) ?_
            refine va_aldq (cA := kO 8) (n := 8) (f := fun q => some (hw (418 + q))) hx hb hK hP 9 8 rfl rfl (vp_in_iff.mpr ⟨b_l2_x2.1, (by omega)⟩) dX5_takeNumbers_78 ?_
            obtain ⟨k94, hk94, b_k94⟩ : ∃ k9 : Nat, k9 = 418 + (l2_x2).toNatClampNeg ∧ (418 ≤ k9 ∧ k9 < 426 ∧ (k9 : Int) = 418 + l2_x2.toInt) := ⟨_, rfl, ald_k (x := (l2_x2)) (o := 418) (n := 8) rfl (by omega) (by omega)⟩
            refine W.eq (g2 := F0 m 79 ls [.ref (hw k94)]) (by rw [hk94]; rfl) ?_
            clear hk94
            refine lv_aload_n hx hb dX5_takeNumbers_79 rfl (lv_at hl 2 rfl) ?_
            refine va_get (D := (dC, dI)) (ci := 5) (v := .ref (hQ 0)) (C := RX5) (T := TX5) (N := 19) hx hb hts iwsMX5_takeNumbers_in5 hown hK hP 0 rfl rfl 1 (by decide) (hts _ hm_m_X5_takeNumbers_0) (fun _ h9 => h9) rfl dX5_takeNumbers_80 ?_
            refine lv_iload_n hx hb dX5_takeNumbers_83 rfl (lv_at hl 0 rfl) ?_
            refine lv_iconst (v := 0) hx hb dX5_takeNumbers_84 (by decide) ?_
            have p9 := cj_4_2_3 (WO hO aO kO hM hQ hw iO_answered iO_searched iO_searchedRelaxed iO_counted fO_countedCase gO_goalNumber gO_goalScale fO_start fO_column fO_chosen) (WM hM aM kM iM_stands iM_variables iM_rows iM_goals iM_differents iM_cases fM_from fM_to fM_whole fM_ways iM_plainRows fM_plainRow fM_kept fM_goalOver fM_goalUnder fM_goalMax fM_different) (WQ hQ aQ kQ hw fQ_inside fQ_outside fQ_shut iQ_rows iQ_allRows iQ_columns) (WW nW hw lw kw wl_86 wb_86 wG_86)
            have hPc := hP.mem (fun q h => p9.mem_iff.mpr (List.mem_append_left _ h))
            have hDc := (hD.perm p9).left
            have hKc : va_K (dC, dI) vwCl (tQ kQ ++ (tW kw)) _ := hK.sub [20, 21, 22, 23, 24] rfl
            have hFc := freeG p9 hD hS hA
            refine va_callr (va_runV (As := [.int r90, .int 0]) (rest := [.ref (hw k94)]) ⟨hx, hb, hml, hown, hts⟩ (m_X6_cellAt l dC dI hQ aQ kQ hw fQ_inside fQ_outside fQ_shut iQ_rows iQ_allRows iQ_columns nW lw kw wl_86 wb_86 wG_86 r90 0 (b_iQ_rows) (b_iQ_allRows) (b_iQ_columns) (by first | with_reducible assumption | omega | assumption) b_wl_86 b_wb_86 (by first | exact b_r90 | with_reducible assumption | exact ⟨by omega, by omega⟩ | assumption) (show 0 ≤ (0 : Int32).toInt ∧ (0 : Int32).toInt ≤ 40 from by decide) (by omega) (cell_ix0 b_tb (by omega) (by have h9 := b_tb.1; omega) (by omega)) H.size) (cwV 2 hts gwsMX5_takeNumbers_3 rfl rfl rfl hd_yX6_cellAt_RX6 (by decide +kernel)) (fz_pre (va_recv hK hP (ci := 6) (q0 := 22) rfl rfl) hPc hKc hDc) rfl rfl hl.1 rfl (lv_room (Nat.le_of_ble_eq_true rfl)) dX5_takeNumbers_85 (by decide +kernel)) hS (fun q _ h => hFc q h) hFc (fun kR_95 ra95 t9_ H locs ht hvm hw9 hB9 hz1 hk1 hS => ?_)
            revert hB9
            refine fz_a2 ?_
            intro hra hB9
            subst hra
            have f95_0 := hw9
            try dsimp only at f95_0
            have p8 := p9
            obtain ⟨hP, hD⟩ := frameG p9 p8 hP hD hk1 hFc (fz_P ht hB9.1) hB9.2
            have p9 := cj_4_3 (WO hO aO kO hM hQ hw iO_answered iO_searched iO_searchedRelaxed iO_counted fO_countedCase gO_goalNumber gO_goalScale fO_start fO_column fO_chosen) (WM hM aM kM iM_stands iM_variables iM_rows iM_goals iM_differents iM_cases fM_from fM_to fM_whole fM_ways iM_plainRows fM_plainRow fM_kept fM_goalOver fM_goalUnder fM_goalMax fM_different) (WQ hQ aQ kQ hw fQ_inside fQ_outside fQ_shut iQ_rows iQ_allRows iQ_columns) (WW nW hw lw kw wl_86 wb_86 wG_86)
            have hPc := hP.mem (fun q h => p9.mem_iff.mpr (List.mem_append_left _ h))
            have hDc := (hD.perm p9).left
            have hKc : va_K (dC, dI) vwCl (tW kw) _ := hK.sub [24] rfl
            have hFc := freeG p9 hD hS hA
            refine va_callv (va_runV (As := [.ref (hw kR_95)]) (rest := []) ⟨hx, hb, hml, hown, hts⟩ (m_X8_add l dC dI nW hw lw kw wl_86 wb_86 wG_86 k94 kR_95 b_wl_86 b_wb_86 (by first | with_reducible assumption | omega | (rw [iI_t (by omega) (by omega)]; omega) | decide | assumption) (by first | with_reducible assumption | omega | (rw [iI_t (by omega) (by omega)]; omega) | decide | assumption) H.size) (cwV 1 hts gwsMX5_takeNumbers_4 rfl rfl rfl hd_yX8_add_RX8 (by decide +kernel)) (fz_pre (va_recv hK hP (ci := 8) (q0 := 11 + (11 + (5 + (k94)))) rfl (apR rfl (apR rfl (apR rfl (WW_o (by omega)))))) hPc hKc hDc) rfl rfl hl.1 rfl (lv_room (Nat.le_of_ble_eq_true rfl)) dX5_takeNumbers_88 (by decide +kernel)) hS (fun q _ h => hFc q h) hFc (fun u t9_ H locs ht hvm hw9 hB9 hz1 hk1 hS => ?_)
            revert u hw9 hB9
            refine fz_p3 ?_
            intro wl_96 wb_96 wG_96 hw9 hB9
            try dsimp only at hw9 hB9
            revert hw9
            refine fz_a2 ?_
            intro b_wl_96 b_wb_96
            have p8 := cj_4_3 (WO hO aO kO hM hQ hw iO_answered iO_searched iO_searchedRelaxed iO_counted fO_countedCase gO_goalNumber gO_goalScale fO_start fO_column fO_chosen) (WM hM aM kM iM_stands iM_variables iM_rows iM_goals iM_differents iM_cases fM_from fM_to fM_whole fM_ways iM_plainRows fM_plainRow fM_kept fM_goalOver fM_goalUnder fM_goalMax fM_different) (WQ hQ aQ kQ hw fQ_inside fQ_outside fQ_shut iQ_rows iQ_allRows iQ_columns) (WW nW hw lw kw wl_96 wb_96 wG_96)
            obtain ⟨hP, hD⟩ := frameG p9 p8 hP hD hk1 hFc (fz_P ht hB9.1) hB9.2
            have hl : lv_has _ _ ([(3, .int r90), (2, .int l2_x2), (0, .ref (hO 0)), (1, .ref (aO 8))]) := lv_sub hl [0, 1, 2, 3] rfl
            exact join12 _ _ _ _ ⟨wl_96, wb_96, wG_96, b_wl_96, b_wb_96, rfl, hP, hD, hS, hl⟩
        · intro H locs ls stk
          refine fz_e3 ?_
          intro wl_j12 wb_j12 wG_j12
          refine fz_a7 ?_
          intro b_wl_j12 b_wb_j12 hst9_2 hP hD hS hl
          subst hst9_2
          refine lv_iinc (v := (iI (l2_x2.toInt + 1))) hx hb dX5_takeNumbers_91 hl (k := 1) rfl (iI_add2 (iI_of _) (by decide : (1 : Int32) = iI 1)) (by decide) rfl (fun ls (hl : lv_has ls _ ([(2, .int (iI (l2_x2.toInt + 1))), (3, .int r90), (0, .ref (hO 0)), (1, .ref (aO 8))])) => ?_)
          refine lv_goto (tgt := 2) hx hb dX5_takeNumbers_94 (by decide) ?_
          have hl : lv_has _ _ ([(2, .int (iI (l2_x2.toInt + 1))), (0, .ref (hO 0)), (1, .ref (aO 8))]) := lv_sub hl [0, 2, 3] rfl
          exact ihx2 wl_j12 wb_j12 wG_j12 (iI (l2_x2.toInt + 1)) _ _ _ b_wl_j12 b_wb_j12 (iI_rng (Int.le_trans (by decide) (Int.add_le_add (b_l2_x2.1) (Int.le_refl _))) (by omega) (by decide) (by decide)) (by have e9 : ((iI (l2_x2.toInt + 1))).toInt = (l2_x2.toInt + 1) := (iI_t (Int.le_trans (by decide) (Int.add_le_add (b_l2_x2.1) (Int.le_refl _))) (Int.le_trans (Int.add_le_add (b_l2_x2.2) (Int.le_refl _)) (by decide))); omega) hP hD hS hl
      · have t_48 : v87.toInt = (-1) := toI_nne c_48 rfl (by decide : ((-1) : Int32).toInt = (-1))
        refine lv_iconst (v := (-1)) hx hb dX5_takeNumbers_51 (by decide) ?_
        refine lv_goto (tgt := 70) hx hb dX5_takeNumbers_52 (by decide) ?_
        refine lv_istore_n hx hb dX5_takeNumbers_70 rfl hl (by decide) rfl (fun ls (hl : lv_has ls _ ([(3, .int (-1)), (2, .int l2_x2), (0, .ref (hO 0)), (1, .ref (aO 8))])) => ?_)
        refine lv_iload_n hx hb dX5_takeNumbers_71 rfl (lv_at hl 0 rfl) ?_
        refine lv_iconst (v := (-1)) hx hb dX5_takeNumbers_72 (by decide) ?_
        refine lv_icmp_eq (tgt := 91) hx hb dX5_takeNumbers_73 (by decide) (fun _ => ?_) (fun c9 => absurd (by decide) c9)
        refine lv_iinc (v := (iI (l2_x2.toInt + 1))) hx hb dX5_takeNumbers_91 hl (k := 1) rfl (iI_add2 (iI_of _) (by decide : (1 : Int32) = iI 1)) (by decide) rfl (fun ls (hl : lv_has ls _ ([(2, .int (iI (l2_x2.toInt + 1))), (3, .int (-1)), (0, .ref (hO 0)), (1, .ref (aO 8))])) => ?_)
        refine lv_goto (tgt := 2) hx hb dX5_takeNumbers_94 (by decide) ?_
        have hl : lv_has _ _ ([(2, .int (iI (l2_x2.toInt + 1))), (0, .ref (hO 0)), (1, .ref (aO 8))]) := lv_sub hl [0, 2, 3] rfl
        exact ihx2 wl_86 wb_86 wG_86 (iI (l2_x2.toInt + 1)) _ _ _ b_wl_86 b_wb_86 (iI_rng (Int.le_trans (by decide) (Int.add_le_add (b_l2_x2.1) (Int.le_refl _))) (by omega) (by decide) (by decide)) (by have e9 : ((iI (l2_x2.toInt + 1))).toInt = (l2_x2.toInt + 1) := (iI_t (Int.le_trans (by decide) (Int.add_le_add (b_l2_x2.1) (Int.le_refl _))) (Int.le_trans (Int.add_le_add (b_l2_x2.2) (Int.le_refl _)) (by decide))); omega) hP hD hS hl
theorem dX5_keepAnswer_0 : decode cX5_keepAnswer 0 = .ok (.aload_n 0, 1) := dk_42 (by decide +kernel)
theorem dX5_keepAnswer_1 : decode cX5_keepAnswer 1 = .ok (.iconst 1, 1) := dk_4 (by decide +kernel)
theorem dX5_keepAnswer_2 : decode cX5_keepAnswer 2 = .ok (.putfield 78, 3) := dk_181 (by decide +kernel)
theorem dX5_keepAnswer_5 : decode cX5_keepAnswer 5 = .ok (.aload_n 0, 1) := dk_42 (by decide +kernel)
theorem dX5_keepAnswer_6 : decode cX5_keepAnswer 6 = .ok (.getfield 58, 3) := dk_180 (by decide +kernel)
theorem dX5_keepAnswer_9 : decode cX5_keepAnswer 9 = .ok (.aload_n 0, 1) := dk_42 (by decide +kernel)
theorem dX5_keepAnswer_10 : decode cX5_keepAnswer 10 = .ok (.getfield 12, 3) := dk_180 (by decide +kernel)
theorem dX5_keepAnswer_13 : decode cX5_keepAnswer 13 = .ok (.getfield 253, 3) := dk_180 (by decide +kernel)
theorem dX5_keepAnswer_16 : decode cX5_keepAnswer 16 = .ok (.invokevirtual 268, 3) := dk_182 (by decide +kernel)
theorem dX5_keepAnswer_19 : decode cX5_keepAnswer 19 = .ok (.iconst 0, 1) := dk_3 (by decide +kernel)
theorem dX5_keepAnswer_20 : decode cX5_keepAnswer 20 = .ok (.istore_n 1, 1) := dk_60 (by decide +kernel)
theorem dX5_keepAnswer_21 : decode cX5_keepAnswer 21 = .ok (.iload_n 1, 1) := dk_27 (by decide +kernel)
theorem dX5_keepAnswer_22 : decode cX5_keepAnswer 22 = .ok (.aload_n 0, 1) := dk_42 (by decide +kernel)
theorem dX5_keepAnswer_23 : decode cX5_keepAnswer 23 = .ok (.getfield 74, 3) := dk_180 (by decide +kernel)
theorem dX5_keepAnswer_26 : decode cX5_keepAnswer 26 = .ok (.getfield 112, 3) := dk_180 (by decide +kernel)
theorem dX5_keepAnswer_29 : decode cX5_keepAnswer 29 = .ok (.if_icmp .ge 24, 3) := dk_162 (by decide +kernel)
theorem dX5_keepAnswer_32 : decode cX5_keepAnswer 32 = .ok (.aload_n 0, 1) := dk_42 (by decide +kernel)
theorem dX5_keepAnswer_33 : decode cX5_keepAnswer 33 = .ok (.getfield 48, 3) := dk_180 (by decide +kernel)
theorem dX5_keepAnswer_36 : decode cX5_keepAnswer 36 = .ok (.iload_n 1, 1) := dk_27 (by decide +kernel)
theorem dX5_keepAnswer_37 : decode cX5_keepAnswer 37 = .ok (.aaload, 1) := dk_50 (by decide +kernel)
theorem dX5_keepAnswer_38 : decode cX5_keepAnswer 38 = .ok (.aload_n 0, 1) := dk_42 (by decide +kernel)
theorem dX5_keepAnswer_39 : decode cX5_keepAnswer 39 = .ok (.getfield 62, 3) := dk_180 (by decide +kernel)
theorem dX5_keepAnswer_42 : decode cX5_keepAnswer 42 = .ok (.iload_n 1, 1) := dk_27 (by decide +kernel)
theorem dX5_keepAnswer_43 : decode cX5_keepAnswer 43 = .ok (.aaload, 1) := dk_50 (by decide +kernel)
theorem dX5_keepAnswer_44 : decode cX5_keepAnswer 44 = .ok (.invokevirtual 268, 3) := dk_182 (by decide +kernel)
theorem dX5_keepAnswer_47 : decode cX5_keepAnswer 47 = .ok (.iinc 1 1, 3) := dk_132 (by decide +kernel)
theorem dX5_keepAnswer_50 : decode cX5_keepAnswer 50 = .ok (.goto (-29), 3) := dk_167 (by decide +kernel)
theorem dX5_keepAnswer_53 : decode cX5_keepAnswer 53 = .ok (.iconst 0, 1) := dk_3 (by decide +kernel)
theorem dX5_keepAnswer_54 : decode cX5_keepAnswer 54 = .ok (.istore_n 1, 1) := dk_60 (by decide +kernel)
theorem dX5_keepAnswer_55 : decode cX5_keepAnswer 55 = .ok (.iload_n 1, 1) := dk_27 (by decide +kernel)
theorem dX5_keepAnswer_56 : decode cX5_keepAnswer 56 = .ok (.aload_n 0, 1) := dk_42 (by decide +kernel)
theorem dX5_keepAnswer_57 : decode cX5_keepAnswer 57 = .ok (.getfield 74, 3) := dk_180 (by decide +kernel)
theorem dX5_keepAnswer_60 : decode cX5_keepAnswer 60 = .ok (.getfield 98, 3) := dk_180 (by decide +kernel)
theorem dX5_keepAnswer_63 : decode cX5_keepAnswer 63 = .ok (.if_icmp .ge 31, 3) := dk_162 (by decide +kernel)
theorem dX5_keepAnswer_66 : decode cX5_keepAnswer 66 = .ok (.aload_n 0, 1) := dk_42 (by decide +kernel)
theorem dX5_keepAnswer_67 : decode cX5_keepAnswer 67 = .ok (.getfield 52, 3) := dk_180 (by decide +kernel)
theorem dX5_keepAnswer_70 : decode cX5_keepAnswer 70 = .ok (.iload_n 1, 1) := dk_27 (by decide +kernel)
theorem dX5_keepAnswer_71 : decode cX5_keepAnswer 71 = .ok (.aaload, 1) := dk_50 (by decide +kernel)
theorem dX5_keepAnswer_72 : decode cX5_keepAnswer 72 = .ok (.aload_n 0, 1) := dk_42 (by decide +kernel)
theorem dX5_keepAnswer_73 : decode cX5_keepAnswer 73 = .ok (.getfield 12, 3) := dk_180 (by decide +kernel)
theorem dX5_keepAnswer_76 : decode cX5_keepAnswer 76 = .ok (.aload_n 0, 1) := dk_42 (by decide +kernel)
theorem dX5_keepAnswer_77 : decode cX5_keepAnswer 77 = .ok (.iload_n 1, 1) := dk_27 (by decide +kernel)
theorem dX5_keepAnswer_78 : decode cX5_keepAnswer 78 = .ok (.invokevirtual 225, 3) := dk_182 (by decide +kernel)
theorem dX5_keepAnswer_81 : decode cX5_keepAnswer 81 = .ok (.iconst 0, 1) := dk_3 (by decide +kernel)
theorem dX5_keepAnswer_82 : decode cX5_keepAnswer 82 = .ok (.invokevirtual 177, 3) := dk_182 (by decide +kernel)
theorem dX5_keepAnswer_85 : decode cX5_keepAnswer 85 = .ok (.invokevirtual 268, 3) := dk_182 (by decide +kernel)
theorem dX5_keepAnswer_88 : decode cX5_keepAnswer 88 = .ok (.iinc 1 1, 3) := dk_132 (by decide +kernel)
theorem dX5_keepAnswer_91 : decode cX5_keepAnswer 91 = .ok (.goto (-36), 3) := dk_167 (by decide +kernel)
theorem dX5_keepAnswer_94 : decode cX5_keepAnswer 94 = .ok (.return_, 1) := dk_177 (by decide +kernel)
def wsMX5_keepAnswer : List Cond := .code yX5_keepAnswer cX5_keepAnswer 2 none :: ([.fieldLink RX5 78 "OptimaWorks$Solver" "answered" "Z", .fieldLink RX5 58 "OptimaWorks$Solver" "answerUnder" "LOptimaWorks$Whole;", .fieldLink RX5 12 "OptimaWorks$Solver" "tableau" "LOptimaWorks$Tableau;", .fieldLink RX5 253 "OptimaWorks$Tableau" "under" "LOptimaWorks$Whole;", .fieldLink RX5 74 "OptimaWorks$Solver" "model" "LOptimaWorks$Model;", .fieldLink RX5 112 "OptimaWorks$Model" "variables" "I", .fieldLink RX5 48 "OptimaWorks$Solver" "answer" "[LOptimaWorks$Whole;", .fieldLink RX5 62 "OptimaWorks$Solver" "trial" "[LOptimaWorks$Whole;", .fieldLink RX5 98 "OptimaWorks$Model" "goals" "I", .fieldLink RX5 52 "OptimaWorks$Solver" "answerGoal" "[LOptimaWorks$Whole;"] ++ wsX10 ++ wsX50 ++ wsX60 ++ (wsV RX5 268 RX8 yX8_copy wsMX8_copy) ++ (wsV RX5 225 RX5 yX5_goalRow wsMX5_goalRow) ++ (wsV RX5 177 RX6 yX6_cellAt wsMX6_cellAt))
theorem iwsMX5_keepAnswer_in1 : ∀ w ∈ wsX10, w ∈ wsMX5_keepAnswer := fun _ h => List.mem_cons_of_mem _ (List.mem_append_left _ (List.mem_append_left _ (List.mem_append_left _ (List.mem_append_left _ (List.mem_append_left _ (List.mem_append_right _ h))))))
theorem iwsMX5_keepAnswer_in5 : ∀ w ∈ wsX50, w ∈ wsMX5_keepAnswer := fun _ h => List.mem_cons_of_mem _ (List.mem_append_left _ (List.mem_append_left _ (List.mem_append_left _ (List.mem_append_left _ (List.mem_append_right _ h)))))
theorem iwsMX5_keepAnswer_in6 : ∀ w ∈ wsX60, w ∈ wsMX5_keepAnswer := fun _ h => List.mem_cons_of_mem _ (List.mem_append_left _ (List.mem_append_left _ (List.mem_append_left _ (List.mem_append_right _ h))))
theorem gwsMX5_keepAnswer_0 : GoodIn wsMX5_keepAnswer (wsV RX5 268 RX8 yX8_copy wsMX8_copy) := goodIn_sub (fun _ h => List.mem_cons_of_mem _ (List.mem_append_left _ (List.mem_append_left _ (List.mem_append_right _ h)))) (gdV (by decide +kernel) gdwsMX8_copy)
theorem gwsMX5_keepAnswer_1 : GoodIn wsMX5_keepAnswer (wsV RX5 225 RX5 yX5_goalRow wsMX5_goalRow) := goodIn_sub (fun _ h => List.mem_cons_of_mem _ (List.mem_append_left _ (List.mem_append_right _ h))) (gdV (by decide +kernel) gdwsMX5_goalRow)
theorem gwsMX5_keepAnswer_2 : GoodIn wsMX5_keepAnswer (wsV RX5 177 RX6 yX6_cellAt wsMX6_cellAt) := goodIn_sub (fun _ h => List.mem_cons_of_mem _ (List.mem_append_right _ h)) (gdV (by decide +kernel) gdwsMX6_cellAt)
theorem gdwsMX5_keepAnswer : wsMX5_keepAnswer.all goodWord = true := gdC rfl (gdA (gdA (gdA (gdA (gdA (gdA (by decide +kernel : ([.fieldLink RX5 78 "OptimaWorks$Solver" "answered" "Z", .fieldLink RX5 58 "OptimaWorks$Solver" "answerUnder" "LOptimaWorks$Whole;", .fieldLink RX5 12 "OptimaWorks$Solver" "tableau" "LOptimaWorks$Tableau;", .fieldLink RX5 253 "OptimaWorks$Tableau" "under" "LOptimaWorks$Whole;", .fieldLink RX5 74 "OptimaWorks$Solver" "model" "LOptimaWorks$Model;", .fieldLink RX5 112 "OptimaWorks$Model" "variables" "I", .fieldLink RX5 48 "OptimaWorks$Solver" "answer" "[LOptimaWorks$Whole;", .fieldLink RX5 62 "OptimaWorks$Solver" "trial" "[LOptimaWorks$Whole;", .fieldLink RX5 98 "OptimaWorks$Model" "goals" "I", .fieldLink RX5 52 "OptimaWorks$Solver" "answerGoal" "[LOptimaWorks$Whole;"] : List Cond).all goodWord = true) gdwsX10) gdwsX50) gdwsX60) (gdV (by decide +kernel) gdwsMX8_copy)) (gdV (by decide +kernel) gdwsMX5_goalRow)) (gdV (by decide +kernel) gdwsMX6_cellAt))
theorem hm_m_X5_keepAnswer_0 : (.fieldLink RX5 12 "OptimaWorks$Solver" "tableau" "LOptimaWorks$Tableau;" : Cond) ∈ wsMX5_keepAnswer := by decide +kernel
theorem hm_m_X5_keepAnswer_1 : (.fieldLink RX5 74 "OptimaWorks$Solver" "model" "LOptimaWorks$Model;" : Cond) ∈ wsMX5_keepAnswer := by decide +kernel
set_option maxHeartbeats 4000000 in
set_option maxRecDepth 100000 in
/-- the answer is kept -/
theorem m_X5_keepAnswer (l : Launch) (dC : Nat → ClassId) (dI : Nat → Nat → Nat) (hO : Nat → Nat) (aO : Nat → Nat) (kO : Nat → ClassId) (hM : Nat → Nat) (hQ : Nat → Nat) (hw : Nat → Nat) (iO_answered : Int32) (iO_searched : Int32) (iO_searchedRelaxed : Int32) (iO_counted : Int32) (fO_countedCase : Nat → Int32) (gO_goalNumber : Nat → Int64) (gO_goalScale : Nat → Int64) (fO_start : Nat → Int32) (fO_column : Nat → Int32) (fO_chosen : Nat → Int32) (aM : Nat → Nat) (kM : Nat → ClassId) (iM_stands : Int32) (iM_variables : Int32) (iM_rows : Int32) (iM_goals : Int32) (iM_differents : Int32) (iM_cases : Int32) (fM_from : Nat → Int32) (fM_to : Nat → Int32) (fM_whole : Nat → Int32) (fM_ways : Nat → Int32) (iM_plainRows : Int32) (fM_plainRow : Nat → Int32) (fM_kept : Nat → Int32) (fM_goalOver : Nat → Int32) (fM_goalUnder : Nat → Int32) (fM_goalMax : Nat → Int32) (fM_different : Nat → Int32) (aQ : Nat → Nat) (kQ : Nat → ClassId) (fQ_inside : Nat → Int32) (fQ_outside : Nat → Int32) (fQ_shut : Nat → Int32) (iQ_rows : Int32) (iQ_allRows : Int32) (iQ_columns : Int32) (nW : Nat) (lw : Nat → Nat) (kw : ClassId) (wl : Nat → Int32) (wb : Nat → Int32) (wG : Nat → Nat → Int64) (b_iO_answered : 0 ≤ iO_answered.toInt ∧ iO_answered.toInt ≤ 1) (b_iO_searched : 0 ≤ iO_searched.toInt ∧ iO_searched.toInt ≤ 1) (b_iO_searchedRelaxed : 0 ≤ iO_searchedRelaxed.toInt ∧ iO_searchedRelaxed.toInt ≤ 1) (b_iO_counted : (-1) ≤ iO_counted.toInt ∧ iO_counted.toInt ≤ 64) (b_fO_countedCase : ∀ q : Nat, 0 ≤ (fO_countedCase q).toInt ∧ (fO_countedCase q).toInt ≤ 200000) (b_fO_column : ∀ q : Nat, (-1) ≤ (fO_column q).toInt ∧ (fO_column q).toInt ≤ 8) (b_fO_chosen : ∀ q : Nat, 0 ≤ (fO_chosen q).toInt ∧ (fO_chosen q).toInt ≤ 2) (b_iM_stands : 0 ≤ iM_stands.toInt ∧ iM_stands.toInt ≤ 1) (b_iM_variables : 0 ≤ iM_variables.toInt ∧ iM_variables.toInt ≤ 8) (b_iM_rows : 0 ≤ iM_rows.toInt ∧ iM_rows.toInt ≤ 12) (b_iM_goals : 0 ≤ iM_goals.toInt ∧ iM_goals.toInt ≤ 3) (b_iM_differents : 0 ≤ iM_differents.toInt ∧ iM_differents.toInt ≤ 8) (b_iM_cases : 0 ≤ iM_cases.toInt ∧ iM_cases.toInt ≤ 200000) (b_fM_ways : ∀ q : Nat, 0 ≤ (fM_ways q).toInt ∧ (fM_ways q).toInt ≤ 3) (b_iM_plainRows : 0 ≤ iM_plainRows.toInt ∧ iM_plainRows.toInt ≤ 12) (b_fM_plainRow : ∀ q : Nat, 0 ≤ (fM_plainRow q).toInt ∧ (fM_plainRow q).toInt ≤ 11) (b_pr : iM_plainRows.toInt ≤ iM_rows.toInt) (b_iQ_rows : 0 ≤ iQ_rows.toInt ∧ iQ_rows.toInt ≤ 40) (b_iQ_allRows : 0 ≤ iQ_allRows.toInt ∧ iQ_allRows.toInt ≤ 40) (b_iQ_columns : 0 ≤ iQ_columns.toInt ∧ iQ_columns.toInt ≤ 40) (b_tb : TbO iQ_rows iQ_allRows iQ_columns) (b_wl : ∀ q : Nat, 0 ≤ (wl q).toInt ∧ (wl q).toInt ≤ 14) (b_wb : ∀ q : Nat, 0 ≤ (wb q).toInt ∧ (wb q).toInt ≤ 1) (hnW : 432 ≤ nW) (hc8 : iQ_columns.toInt ≤ 8) (hr20 : iQ_rows.toInt ≤ 20) (sz : Nat) : Met l yX5_keepAnswer wsMX5_keepAnswer ({ frames := 2, cells := 0, slots := 0, locals := 41 }) (va_Pc [.ref (hO 0)] (fun U => U.heap.size = sz ∧ va_P (dC, dI) vwCl (WO hO aO kO hM hQ hw iO_answered iO_searched iO_searchedRelaxed iO_counted fO_countedCase gO_goalNumber gO_goalScale fO_start fO_column fO_chosen ++ (WM hM aM kM iM_stands iM_variables iM_rows iM_goals iM_differents iM_cases fM_from fM_to fM_whole fM_ways iM_plainRows fM_plainRow fM_kept fM_goalOver fM_goalUnder fM_goalMax fM_different ++ (WQ hQ aQ kQ hw fQ_inside fQ_outside fQ_shut iQ_rows iQ_allRows iQ_columns ++ (WW nW hw lw kw wl wb wG)))) U.heap ∧ va_K (dC, dI) vwCl (tO kO ++ (tM kM ++ (tQ kQ ++ (tW kw)))) U ∧ va_D (fun _ => True) (WO hO aO kO hM hQ hw iO_answered iO_searched iO_searchedRelaxed iO_counted fO_countedCase gO_goalNumber gO_goalScale fO_start fO_column fO_chosen ++ (WM hM aM kM iM_stands iM_variables iM_rows iM_goals iM_differents iM_cases fM_from fM_to fM_whole fM_ways iM_plainRows fM_plainRow fM_kept fM_goalOver fM_goalUnder fM_goalMax fM_different ++ (WQ hQ aQ kQ hw fQ_inside fQ_outside fQ_shut iQ_rows iQ_allRows iQ_columns ++ (WW nW hw lw kw wl wb wG)))))) (va_Qv (fun (u : (Int32) × (Nat → Int32) × (Nat → Int32) × (Nat → Nat → Int64)) => (0 ≤ (u.1).toInt ∧ (u.1).toInt ≤ 1) ∧ (∀ q : Nat, 0 ≤ ((u.2.1) q).toInt ∧ ((u.2.1) q).toInt ≤ 14) ∧ (∀ q : Nat, 0 ≤ ((u.2.2.1) q).toInt ∧ ((u.2.2.1) q).toInt ≤ 1)) (fun (u : (Int32) × (Nat → Int32) × (Nat → Int32) × (Nat → Nat → Int64)) t => va_P (dC, dI) vwCl (WO hO aO kO hM hQ hw (u.1) iO_searched iO_searchedRelaxed iO_counted fO_countedCase gO_goalNumber gO_goalScale fO_start fO_column fO_chosen ++ (WM hM aM kM iM_stands iM_variables iM_rows iM_goals iM_differents iM_cases fM_from fM_to fM_whole fM_ways iM_plainRows fM_plainRow fM_kept fM_goalOver fM_goalUnder fM_goalMax fM_different ++ (WQ hQ aQ kQ hw fQ_inside fQ_outside fQ_shut iQ_rows iQ_allRows iQ_columns ++ (WW nW hw lw kw (u.2.1) (u.2.2.1) (u.2.2.2))))) t.heap ∧ va_D (va_A (WO hO aO kO hM hQ hw iO_answered iO_searched iO_searchedRelaxed iO_counted fO_countedCase gO_goalNumber gO_goalScale fO_start fO_column fO_chosen ++ (WM hM aM kM iM_stands iM_variables iM_rows iM_goals iM_differents iM_cases fM_from fM_to fM_whole fM_ways iM_plainRows fM_plainRow fM_kept fM_goalOver fM_goalUnder fM_goalMax fM_different ++ (WQ hQ aQ kQ hw fQ_inside fQ_outside fQ_shut iQ_rows iQ_allRows iQ_columns ++ (WW nW hw lw kw wl wb wG)))) sz) (WO hO aO kO hM hQ hw (u.1) iO_searched iO_searchedRelaxed iO_counted fO_countedCase gO_goalNumber gO_goalScale fO_start fO_column fO_chosen ++ (WM hM aM kM iM_stands iM_variables iM_rows iM_goals iM_differents iM_cases fM_from fM_to fM_whole fM_ways iM_plainRows fM_plainRow fM_kept fM_goalOver fM_goalUnder fM_goalMax fM_different ++ (WQ hQ aQ kQ hw fQ_inside fQ_outside fQ_shut iQ_rows iQ_allRows iQ_columns ++ (WW nW hw lw kw (u.2.1) (u.2.2.1) (u.2.2.2)))))) (va_A (WO hO aO kO hM hQ hw iO_answered iO_searched iO_searchedRelaxed iO_counted fO_countedCase gO_goalNumber gO_goalScale fO_start fO_column fO_chosen ++ (WM hM aM kM iM_stands iM_variables iM_rows iM_goals iM_differents iM_cases fM_from fM_to fM_whole fM_ways iM_plainRows fM_plainRow fM_kept fM_goalOver fM_goalUnder fM_goalMax fM_different ++ (WQ hQ aQ kQ hw fQ_inside fQ_outside fQ_shut iQ_rows iQ_allRows iQ_columns ++ (WW nW hw lw kw wl wb wG)))) sz)) 0 0 (va_A (WO hO aO kO hM hQ hw iO_answered iO_searched iO_searchedRelaxed iO_counted fO_countedCase gO_goalNumber gO_goalScale fO_start fO_column fO_chosen ++ (WM hM aM kM iM_stands iM_variables iM_rows iM_goals iM_differents iM_cases fM_from fM_to fM_whole fM_ways iM_plainRows fM_plainRow fM_kept fM_goalOver fM_goalUnder fM_goalMax fM_different ++ (WQ hQ aQ kQ hw fQ_inside fQ_outside fQ_shut iQ_rows iQ_allRows iQ_columns ++ (WW nW hw lw kw wl wb wG)))) sz) := by
  refine Met.ofW (cc := cX5_keepAnswer) (maxL := 2) (ret := none) (by decide) rfl ?_
  intro p e s m args below meth c s₁ B hml hv
  obtain ⟨rfl, hsz, hP, hK, hD0⟩ := hv
  have hx := B.exec
  have hb := B.bytes
  have hr := B.returns
  have hts := atoms_spec (ws := wsMX5_keepAnswer) B.pre
  have hown : s.vm.findClass RX5 = some m.cls := findClass_of_methodNamed B.named
  have hlocks := B.notSynchronized
  subst hsz
  have hD := hD0.self (sz := s.heap.size)
  generalize hAe : va_A (WO hO aO kO hM hQ hw iO_answered iO_searched iO_searchedRelaxed iO_counted fO_countedCase gO_goalNumber gO_goalScale fO_start fO_column fO_chosen ++ (WM hM aM kM iM_stands iM_variables iM_rows iM_goals iM_differents iM_cases fM_from fM_to fM_whole fM_ways iM_plainRows fM_plainRow fM_kept fM_goalOver fM_goalUnder fM_goalMax fM_different ++ (WQ hQ aQ kQ hw fQ_inside fQ_outside fQ_shut iQ_rows iQ_allRows iQ_columns ++ (WW nW hw lw kw wl wb wG)))) s.heap.size = A at hD ⊢
  have hA : ∀ q : Nat, s.heap.size ≤ q → A q := fun q h => by rw [← hAe]; exact Or.inr h
  have hS : va_S A s.heap s.heap [] := va_S.rf
  have hl := lv_entry ([.ref (hO 0)]) (n := 2) (Nat.le_of_ble_eq_true rfl)
  rw [lg_entry_eq]
  generalize (lg_sl ([.ref (hO 0)]) ++ List.replicate (2 - (lg_sl ([.ref (hO 0)])).length) Slot.unset).toArray = ls at hl ⊢
  have hl : lv_has ls 2 [(0, .ref (hO 0))] := hl
  refine lv_aload_n hx hb dX5_keepAnswer_0 rfl (lv_at hl 0 rfl) ?_
  refine lv_iconst (v := 1) hx hb dX5_keepAnswer_1 (by decide) ?_
  refine va_put (D := (dC, dI)) (ci := 5) (v := .int 1) (ty := .boolean) (C := RX5) (T := TX5) (N := 19) hx hb hts iwsMX5_keepAnswer_in5 tyX5 tyX5_ok nmX5 hown hK hP hD hS 0 rfl rfl 2 (by decide) (hts (.fieldLink RX5 78 "OptimaWorks$Solver" "answered" "Z") (by decide +kernel)) (fun _ h9 => h9) rfl (by decide +kernel) rfl rfl (Nat.le_of_ble_eq_true rfl) dX5_keepAnswer_2 (fun H locs hP hD hS => ?_)
  have hP : va_P (dC, dI) vwCl (WO hO aO kO hM hQ hw 1 iO_searched iO_searchedRelaxed iO_counted fO_countedCase gO_goalNumber gO_goalScale fO_start fO_column fO_chosen ++ (WM hM aM kM iM_stands iM_variables iM_rows iM_goals iM_differents iM_cases fM_from fM_to fM_whole fM_ways iM_plainRows fM_plainRow fM_kept fM_goalOver fM_goalUnder fM_goalMax fM_different ++ (WQ hQ aQ kQ hw fQ_inside fQ_outside fQ_shut iQ_rows iQ_allRows iQ_columns ++ (WW nW hw lw kw wl wb wG)))) H := hP
  have hD := fz_sd hP (hD) rfl
  refine lv_aload_n hx hb dX5_keepAnswer_5 rfl (lv_at hl 0 rfl) ?_
  refine va_get (D := (dC, dI)) (ci := 5) (v := .ref (hw 417)) (C := RX5) (T := TX5) (N := 19) hx hb hts iwsMX5_keepAnswer_in5 hown hK hP 0 rfl rfl 14 (by decide) (hts (.fieldLink RX5 58 "OptimaWorks$Solver" "answerUnder" "LOptimaWorks$Whole;") (by decide +kernel)) (fun _ h9 => h9) rfl dX5_keepAnswer_6 ?_
  refine lv_aload_n hx hb dX5_keepAnswer_9 rfl (lv_at hl 0 rfl) ?_
  refine va_get (D := (dC, dI)) (ci := 5) (v := .ref (hQ 0)) (C := RX5) (T := TX5) (N := 19) hx hb hts iwsMX5_keepAnswer_in5 hown hK hP 0 rfl rfl 1 (by decide) (hts _ hm_m_X5_keepAnswer_0) (fun _ h9 => h9) rfl dX5_keepAnswer_10 ?_
  refine va_get (D := (dC, dI)) (ci := 6) (v := .ref (hw 400)) (C := RX6) (T := TX6) (N := 13) hx hb hts iwsMX5_keepAnswer_in6 hown hK hP 22 rfl rfl 4 (by decide) (hts (.fieldLink RX5 253 "OptimaWorks$Tableau" "under" "LOptimaWorks$Whole;") (by decide +kernel)) (fun _ h9 => h9) rfl dX5_keepAnswer_13 ?_
  have p9 := cj_4_3 (WO hO aO kO hM hQ hw 1 iO_searched iO_searchedRelaxed iO_counted fO_countedCase gO_goalNumber gO_goalScale fO_start fO_column fO_chosen) (WM hM aM kM iM_stands iM_variables iM_rows iM_goals iM_differents iM_cases fM_from fM_to fM_whole fM_ways iM_plainRows fM_plainRow fM_kept fM_goalOver fM_goalUnder fM_goalMax fM_different) (WQ hQ aQ kQ hw fQ_inside fQ_outside fQ_shut iQ_rows iQ_allRows iQ_columns) (WW nW hw lw kw wl wb wG)
  have hPc := hP.mem (fun q h => p9.mem_iff.mpr (List.mem_append_left _ h))
  have hDc := (hD.perm p9).left
  have hKc : va_K (dC, dI) vwCl (tW kw) _ := hK.sub [24] rfl
  have hFc := freeG p9 hD hS hA
  refine va_callv (va_runV (As := [.ref (hw 400)]) (rest := []) ⟨hx, hb, hml, hown, hts⟩ (m_X8_copy l dC dI nW hw lw kw wl wb wG 417 400 b_wl b_wb (by first | with_reducible assumption | omega | (rw [iI_t (by omega) (by omega)]; omega) | decide | assumption) (by first | with_reducible assumption | omega | (rw [iI_t (by omega) (by omega)]; omega) | decide | assumption) H.size) (cwV 1 hts gwsMX5_keepAnswer_0 rfl rfl rfl hd_yX8_copy_RX8 (by decide +kernel)) (fz_pre (va_recv hK hP (ci := 8) (q0 := 11 + (11 + (5 + (417)))) rfl (apR rfl (apR rfl (apR rfl (WW_o (by omega)))))) hPc hKc hDc) rfl rfl hl.1 rfl (lv_room (Nat.le_of_ble_eq_true rfl)) dX5_keepAnswer_16 (by decide +kernel)) hS (fun q _ h => hFc q h) hFc (fun u t9_ H locs ht hvm hw9 hB9 hz1 hk1 hS => ?_)
  revert u hw9 hB9
  refine fz_p3 ?_
  intro wl_1 wb_1 wG_1 hw9 hB9
  try dsimp only at hw9 hB9
  revert hw9
  refine fz_a2 ?_
  intro b_wl_1 b_wb_1
  have p8 := cj_4_3 (WO hO aO kO hM hQ hw 1 iO_searched iO_searchedRelaxed iO_counted fO_countedCase gO_goalNumber gO_goalScale fO_start fO_column fO_chosen) (WM hM aM kM iM_stands iM_variables iM_rows iM_goals iM_differents iM_cases fM_from fM_to fM_whole fM_ways iM_plainRows fM_plainRow fM_kept fM_goalOver fM_goalUnder fM_goalMax fM_different) (WQ hQ aQ kQ hw fQ_inside fQ_outside fQ_shut iQ_rows iQ_allRows iQ_columns) (WW nW hw lw kw wl_1 wb_1 wG_1)
  obtain ⟨hP, hD⟩ := frameG p9 p8 hP hD hk1 hFc (fz_P ht hB9.1) hB9.2
  refine lv_iconst (v := 0) hx hb dX5_keepAnswer_19 (by decide) ?_
  refine lv_istore_n hx hb dX5_keepAnswer_20 rfl hl (by decide) rfl (fun ls (hl : lv_has ls _ ([(1, .int 0), (0, .ref (hO 0))])) => ?_)
  have hl : lv_has _ _ ([(1, .int 0), (0, .ref (hO 0))]) := lv_sub hl [0, 1] rfl
  refine (fun (loop : ∀ (n9 : Nat) (wl_x21 : Nat → Int32) (wb_x21 : Nat → Int32) (wG_x21 : Nat → Nat → Int64) (l1_x21 : Int32) (H : Heap) (locs : List Loc) (ls : Array Slot), (∀ q : Nat, 0 ≤ (wl_x21 q).toInt ∧ (wl_x21 q).toInt ≤ 14) → (∀ q : Nat, 0 ≤ (wb_x21 q).toInt ∧ (wb_x21 q).toInt ≤ 1) → (0 ≤ l1_x21.toInt ∧ l1_x21.toInt ≤ 8) → (8 - l1_x21.toInt < ((n9 : Nat) : Int)) → va_P (dC, dI) vwCl (WO hO aO kO hM hQ hw 1 iO_searched iO_searchedRelaxed iO_counted fO_countedCase gO_goalNumber gO_goalScale fO_start fO_column fO_chosen ++ (WM hM aM kM iM_stands iM_variables iM_rows iM_goals iM_differents iM_cases fM_from fM_to fM_whole fM_ways iM_plainRows fM_plainRow fM_kept fM_goalOver fM_goalUnder fM_goalMax fM_different ++ (WQ hQ aQ kQ hw fQ_inside fQ_outside fQ_shut iQ_rows iQ_allRows iQ_columns ++ (WW nW hw lw kw wl_x21 wb_x21 wG_x21)))) H → va_D A (WO hO aO kO hM hQ hw 1 iO_searched iO_searchedRelaxed iO_counted fO_countedCase gO_goalNumber gO_goalScale fO_start fO_column fO_chosen ++ (WM hM aM kM iM_stands iM_variables iM_rows iM_goals iM_differents iM_cases fM_from fM_to fM_whole fM_ways iM_plainRows fM_plainRow fM_kept fM_goalOver fM_goalUnder fM_goalMax fM_different ++ (WQ hQ aQ kQ hw fQ_inside fQ_outside fQ_shut iQ_rows iQ_allRows iQ_columns ++ (WW nW hw lw kw wl_x21 wb_x21 wG_x21)))) → va_S A s.heap H locs → lv_has ls 2 [(1, .int l1_x21), (0, .ref (hO 0))] → W p l e _ s m _ below meth c H locs 0 0 _ (F0 m 21 ls [])) => loop (9) wl_1 wb_1 wG_1 0 _ _ _ b_wl_1 b_wb_1 (show 0 ≤ (0 : Int32).toInt ∧ (0 : Int32).toInt ≤ 8 from by decide) ((by have e9 : (0 : Int32).toInt = 0 := (by decide : (0 : Int32).toInt = 0); omega)) hP hD hS hl) ?_
  intro n9
  induction n9 with
  | zero => intro wl_x21 wb_x21 wG_x21 l1_x21 H locs ls b_wl_x21 b_wb_x21 b_l1_x21 hf9; exact False.elim (by omega)
  | succ n9 ihx21 =>
    intro wl_x21 wb_x21 wG_x21 l1_x21 H locs ls b_wl_x21 b_wb_x21 b_l1_x21 hfx21 hP hD hS hl
    refine lv_iload_n hx hb dX5_keepAnswer_21 rfl (lv_at hl 0 rfl) ?_
    refine lv_aload_n hx hb dX5_keepAnswer_22 rfl (lv_at hl 1 rfl) ?_
    refine va_get (D := (dC, dI)) (ci := 5) (v := .ref (hM 0)) (C := RX5) (T := TX5) (N := 19) hx hb hts iwsMX5_keepAnswer_in5 hown hK hP 0 rfl rfl 0 (by decide) (hts _ hm_m_X5_keepAnswer_1) (fun _ h9 => h9) rfl dX5_keepAnswer_23 ?_
    refine va_get (D := (dC, dI)) (ci := 1) (v := .int iM_variables) (C := RX1) (T := TX1) (N := 17) hx hb hts iwsMX5_keepAnswer_in1 hown hK hP 11 rfl rfl 1 (by decide) (hts (.fieldLink RX5 112 "OptimaWorks$Model" "variables" "I") (by decide +kernel)) (fun _ h9 => h9) rfl dX5_keepAnswer_26 ?_
    refine lv_icmp_ge (tgt := 53) hx hb dX5_keepAnswer_29 (by decide) (fun c_29 => ?_) (fun c_29 => ?_)
    · have t_29 : l1_x21.toInt ≥ iM_variables.toInt := toI_ge c_29 rfl rfl
      refine lv_iconst (v := 0) hx hb dX5_keepAnswer_53 (by decide) ?_
      refine lv_istore_n hx hb dX5_keepAnswer_54 rfl hl (by decide) rfl (fun ls (hl : lv_has ls _ ([(1, .int 0), (0, .ref (hO 0))])) => ?_)
      have hl : lv_has _ _ ([(1, .int 0), (0, .ref (hO 0))]) := lv_sub hl [0, 1] rfl
      refine (fun (loop : ∀ (n9 : Nat) (wl_x55 : Nat → Int32) (wb_x55 : Nat → Int32) (wG_x55 : Nat → Nat → Int64) (l1_x55 : Int32) (H : Heap) (locs : List Loc) (ls : Array Slot), (∀ q : Nat, 0 ≤ (wl_x55 q).toInt ∧ (wl_x55 q).toInt ≤ 14) → (∀ q : Nat, 0 ≤ (wb_x55 q).toInt ∧ (wb_x55 q).toInt ≤ 1) → (0 ≤ l1_x55.toInt ∧ l1_x55.toInt ≤ 3) → (3 - l1_x55.toInt < ((n9 : Nat) : Int)) → va_P (dC, dI) vwCl (WO hO aO kO hM hQ hw 1 iO_searched iO_searchedRelaxed iO_counted fO_countedCase gO_goalNumber gO_goalScale fO_start fO_column fO_chosen ++ (WM hM aM kM iM_stands iM_variables iM_rows iM_goals iM_differents iM_cases fM_from fM_to fM_whole fM_ways iM_plainRows fM_plainRow fM_kept fM_goalOver fM_goalUnder fM_goalMax fM_different ++ (WQ hQ aQ kQ hw fQ_inside fQ_outside fQ_shut iQ_rows iQ_allRows iQ_columns ++ (WW nW hw lw kw wl_x55 wb_x55 wG_x55)))) H → va_D A (WO hO aO kO hM hQ hw 1 iO_searched iO_searchedRelaxed iO_counted fO_countedCase gO_goalNumber gO_goalScale fO_start fO_column fO_chosen ++ (WM hM aM kM iM_stands iM_variables iM_rows iM_goals iM_differents iM_cases fM_from fM_to fM_whole fM_ways iM_plainRows fM_plainRow fM_kept fM_goalOver fM_goalUnder fM_goalMax fM_different ++ (WQ hQ aQ kQ hw fQ_inside fQ_outside fQ_shut iQ_rows iQ_allRows iQ_columns ++ (WW nW hw lw kw wl_x55 wb_x55 wG_x55)))) → va_S A s.heap H locs → lv_has ls 2 [(1, .int l1_x55), (0, .ref (hO 0))] → W p l e _ s m _ below meth c H locs 0 0 _ (F0 m 55 ls [])) => loop (4) wl_x21 wb_x21 wG_x21 0 _ _ _ b_wl_x21 b_wb_x21 (show 0 ≤ (0 : Int32).toInt ∧ (0 : Int32).toInt ≤ 3 from by decide) ((by have e9 : (0 : Int32).toInt = 0 := (by decide : (0 : Int32).toInt = 0); omega)) hP hD hS hl) ?_
      intro n9
      induction n9 with
      | zero => intro wl_x55 wb_x55 wG_x55 l1_x55 H locs ls b_wl_x55 b_wb_x55 b_l1_x55 hf9; exact False.elim (by omega)
      | succ n9 ihx55 =>
        intro wl_x55 wb_x55 wG_x55 l1_x55 H locs ls b_wl_x55 b_wb_x55 b_l1_x55 hfx55 hP hD hS hl
        refine lv_iload_n hx hb dX5_keepAnswer_55 rfl (lv_at hl 0 rfl) ?_
        refine lv_aload_n hx hb dX5_keepAnswer_56 rfl (lv_at hl 1 rfl) ?_
        refine va_get (D := (dC, dI)) (ci := 5) (v := .ref (hM 0)) (C := RX5) (T := TX5) (N := 19) hx hb hts iwsMX5_keepAnswer_in5 hown hK hP 0 rfl rfl 0 (by decide) (hts _ hm_m_X5_keepAnswer_1) (fun _ h9 => h9) rfl dX5_keepAnswer_57 ?_
        refine va_get (D := (dC, dI)) (ci := 1) (v := .int iM_goals) (C := RX1) (T := TX1) (N := 17) hx hb hts iwsMX5_keepAnswer_in1 hown hK hP 11 rfl rfl 3 (by decide) (hts (.fieldLink RX5 98 "OptimaWorks$Model" "goals" "I") (by decide +kernel)) (fun _ h9 => h9) rfl dX5_keepAnswer_60 ?_
        refine lv_icmp_ge (tgt := 94) hx hb dX5_keepAnswer_63 (by decide) (fun c_63 => ?_) (fun c_63 => ?_)
        · have t_63 : l1_x55.toInt ≥ iM_goals.toInt := toI_ge c_63 rfl rfl
          refine W.widen (k := 0) (n := 0) (by decide +kernel) (by decide +kernel) ?_
          exact W.vret hx hb hr (fun t9_ ht hW => ⟨⟨(1, wl_x55, wb_x55, wG_x55), rfl, ⟨(by (try dsimp only); exact (show 0 ≤ (1 : Int32).toInt ∧ (1 : Int32).toInt ≤ 1 from by decide)), b_wl_x55, b_wb_x55⟩, by rw [ht]; exact hP, hD⟩, hS.F ht⟩) hS.2.2 dX5_keepAnswer_94
        · have t_63 : ¬ l1_x55.toInt ≥ iM_goals.toInt := toI_nge c_63 rfl rfl
          refine lv_aload_n hx hb dX5_keepAnswer_66 rfl (lv_at hl 1 rfl) ?_
          refine va_get (D := (dC, dI)) (ci := 5) (v := .ref (aO 7)) (C := RX5) (T := TX5) (N := 19) hx hb hts iwsMX5_keepAnswer_in5 hown hK hP 0 rfl rfl 13 (by decide) (hts (.fieldLink RX5 52 "OptimaWorks$Solver" "answerGoal" "[LOptimaWorks$Whole;") (by decide +kernel)) (fun _ h9 => h9) rfl dX5_keepAnswer_67 ?_
          refine lv_iload_n hx hb dX5_keepAnswer_70 rfl (lv_at hl 0 rfl) ?_
          refine va_aldq (cA := kO 7) (n := 3) (f := fun q => some (hw (414 + q))) hx hb hK hP 8 7 rfl rfl (vp_in_iff.mpr ⟨b_l1_x55.1, (Int.lt_of_lt_of_le (Int.not_le.mp t_63) (Int.le_trans b_iM_goals.2 (by decide)))⟩) dX5_keepAnswer_71 ?_
          obtain ⟨k85, hk85, b_k85⟩ : ∃ k9 : Nat, k9 = 414 + (l1_x55).toNatClampNeg ∧ (414 ≤ k9 ∧ k9 < 417 ∧ (k9 : Int) = 414 + l1_x55.toInt) := ⟨_, rfl, ald_k (x := (l1_x55)) (o := 414) (n := 3) rfl (by omega) (by omega)⟩
          refine W.eq (g2 := F0 m 72 ls [.ref (hw k85)]) (by rw [hk85]; rfl) ?_
          clear hk85
          refine lv_aload_n hx hb dX5_keepAnswer_72 rfl (lv_at hl 1 rfl) ?_
          refine va_get (D := (dC, dI)) (ci := 5) (v := .ref (hQ 0)) (C := RX5) (T := TX5) (N := 19) hx hb hts iwsMX5_keepAnswer_in5 hown hK hP 0 rfl rfl 1 (by decide) (hts _ hm_m_X5_keepAnswer_0) (fun _ h9 => h9) rfl dX5_keepAnswer_73 ?_
          refine lv_aload_n hx hb dX5_keepAnswer_76 rfl (lv_at hl 1 rfl) ?_
          refine lv_iload_n hx hb dX5_keepAnswer_77 rfl (lv_at hl 0 rfl) ?_
          have hFc := allFree hD hS hA
          refine va_calli (va_runV (As := [.int l1_x55]) (rest := [.ref (hQ 0), .ref (hw k85)]) ⟨hx, hb, hml, hown, hts⟩ (m_X5_goalRow l dC dI hO aO kO hM hQ hw 1 iO_searched iO_searchedRelaxed iO_counted fO_countedCase gO_goalNumber gO_goalScale fO_start fO_column fO_chosen aM kM iM_stands iM_variables iM_rows iM_goals iM_differents iM_cases fM_from fM_to fM_whole fM_ways iM_plainRows fM_plainRow fM_kept fM_goalOver fM_goalUnder fM_goalMax fM_different aQ kQ fQ_inside fQ_outside fQ_shut iQ_rows iQ_allRows iQ_columns nW lw kw wl_x55 wb_x55 wG_x55 l1_x55 (show 0 ≤ (1 : Int32).toInt ∧ (1 : Int32).toInt ≤ 1 from by decide) (b_iO_searched) (b_iO_searchedRelaxed) (b_iO_counted) b_fO_countedCase b_fO_column b_fO_chosen (b_iM_stands) (b_iM_variables) (b_iM_rows) (b_iM_goals) (b_iM_differents) (b_iM_cases) b_fM_ways (b_iM_plainRows) b_fM_plainRow (by first | with_reducible assumption | omega | assumption) (b_iQ_rows) (b_iQ_allRows) (b_iQ_columns) (by first | with_reducible assumption | omega | assumption) b_wl_x55 b_wb_x55 (by first | exact b_l1_x55 | with_reducible assumption | exact ⟨by omega, by omega⟩ | assumption) (by omega) (by first | with_reducible assumption | omega | (rw [iI_t (by omega) (by omega)]; omega) | decide | assumption) H.size) (cwV 1 hts gwsMX5_keepAnswer_1 rfl rfl rfl hd_yX5_goalRow_RX5 (by decide +kernel)) (fz_pre (va_recv hK hP (ci := 5) (q0 := 0) rfl rfl) hP hK hD) rfl rfl hl.1 rfl (lv_room (Nat.le_of_ble_eq_true rfl)) dX5_keepAnswer_78 (by decide +kernel)) hS (fun q _ h => hFc q h) hFc (fun r86 u t9_ H locs ht hvm hw9 hB9 hz1 hk1 hS => ?_)
          have b_r86 := hw9
          try dsimp only at b_r86
          have hP : va_P (dC, dI) vwCl (WO hO aO kO hM hQ hw 1 iO_searched iO_searchedRelaxed iO_counted fO_countedCase gO_goalNumber gO_goalScale fO_start fO_column fO_chosen ++ (WM hM aM kM iM_stands iM_variables iM_rows iM_goals iM_differents iM_cases fM_from fM_to fM_whole fM_ways iM_plainRows fM_plainRow fM_kept fM_goalOver fM_goalUnder fM_goalMax fM_different ++ (WQ hQ aQ kQ hw fQ_inside fQ_outside fQ_shut iQ_rows iQ_allRows iQ_columns ++ (WW nW hw lw kw wl_x55 wb_x55 wG_x55)))) H := fz_P ht hB9.1
          have hD := fz_sd hP (hB9.2.weaken (fun _ q _ h => hFc q.1 h)) rfl
          refine lv_iconst (v := 0) hx hb dX5_keepAnswer_81 (by decide) ?_
          have p9 := cj_4_2_3 (WO hO aO kO hM hQ hw 1 iO_searched iO_searchedRelaxed iO_counted fO_countedCase gO_goalNumber gO_goalScale fO_start fO_column fO_chosen) (WM hM aM kM iM_stands iM_variables iM_rows iM_goals iM_differents iM_cases fM_from fM_to fM_whole fM_ways iM_plainRows fM_plainRow fM_kept fM_goalOver fM_goalUnder fM_goalMax fM_different) (WQ hQ aQ kQ hw fQ_inside fQ_outside fQ_shut iQ_rows iQ_allRows iQ_columns) (WW nW hw lw kw wl_x55 wb_x55 wG_x55)
          have hPc := hP.mem (fun q h => p9.mem_iff.mpr (List.mem_append_left _ h))
          have hDc := (hD.perm p9).left
          have hKc : va_K (dC, dI) vwCl (tQ kQ ++ (tW kw)) _ := hK.sub [20, 21, 22, 23, 24] rfl
          have hFc := freeG p9 hD hS hA
          refine va_callr (va_runV (As := [.int r86, .int 0]) (rest := [.ref (hw k85)]) ⟨hx, hb, hml, hown, hts⟩ (m_X6_cellAt l dC dI hQ aQ kQ hw fQ_inside fQ_outside fQ_shut iQ_rows iQ_allRows iQ_columns nW lw kw wl_x55 wb_x55 wG_x55 r86 0 (b_iQ_rows) (b_iQ_allRows) (b_iQ_columns) (by first | with_reducible assumption | omega | assumption) b_wl_x55 b_wb_x55 (by first | exact b_r86 | with_reducible assumption | exact ⟨by omega, by omega⟩ | assumption) (show 0 ≤ (0 : Int32).toInt ∧ (0 : Int32).toInt ≤ 40 from by decide) (by omega) ((by have h9 := ix_small (i := r86.toInt) (j := 0) (c := iQ_columns.toInt) (by omega) (by omega) (by omega) (by omega) (by omega) (by omega); have h8 : (0 : Int32).toInt = 0 := (by decide); rw [h8]; exact h9)) H.size) (cwV 2 hts gwsMX5_keepAnswer_2 rfl rfl rfl hd_yX6_cellAt_RX6 (by decide +kernel)) (fz_pre (va_recv hK hP (ci := 6) (q0 := 22) rfl rfl) hPc hKc hDc) rfl rfl hl.1 rfl (lv_room (Nat.le_of_ble_eq_true rfl)) dX5_keepAnswer_82 (by decide +kernel)) hS (fun q _ h => hFc q h) hFc (fun kR_87 ra87 t9_ H locs ht hvm hw9 hB9 hz1 hk1 hS => ?_)
          revert hB9
          refine fz_a2 ?_
          intro hra hB9
          subst hra
          have f87_0 := hw9
          try dsimp only at f87_0
          have p8 := p9
          obtain ⟨hP, hD⟩ := frameG p9 p8 hP hD hk1 hFc (fz_P ht hB9.1) hB9.2
          have p9 := cj_4_3 (WO hO aO kO hM hQ hw 1 iO_searched iO_searchedRelaxed iO_counted fO_countedCase gO_goalNumber gO_goalScale fO_start fO_column fO_chosen) (WM hM aM kM iM_stands iM_variables iM_rows iM_goals iM_differents iM_cases fM_from fM_to fM_whole fM_ways iM_plainRows fM_plainRow fM_kept fM_goalOver fM_goalUnder fM_goalMax fM_different) (WQ hQ aQ kQ hw fQ_inside fQ_outside fQ_shut iQ_rows iQ_allRows iQ_columns) (WW nW hw lw kw wl_x55 wb_x55 wG_x55)
          have hPc := hP.mem (fun q h => p9.mem_iff.mpr (List.mem_append_left _ h))
          have hDc := (hD.perm p9).left
          have hKc : va_K (dC, dI) vwCl (tW kw) _ := hK.sub [24] rfl
          have hFc := freeG p9 hD hS hA
          refine va_callv (va_runV (As := [.ref (hw kR_87)]) (rest := []) ⟨hx, hb, hml, hown, hts⟩ (m_X8_copy l dC dI nW hw lw kw wl_x55 wb_x55 wG_x55 k85 kR_87 b_wl_x55 b_wb_x55 (by first | with_reducible assumption | omega | (rw [iI_t (by omega) (by omega)]; omega) | decide | assumption) (by first | with_reducible assumption | omega | (rw [iI_t (by omega) (by omega)]; omega) | decide | assumption) H.size) (cwV 1 hts gwsMX5_keepAnswer_0 rfl rfl rfl hd_yX8_copy_RX8 (by decide +kernel)) (fz_pre (va_recv hK hP (ci := 8) (q0 := 11 + (11 + (5 + (k85)))) rfl (apR rfl (apR rfl (apR rfl (WW_o (by omega)))))) hPc hKc hDc) rfl rfl hl.1 rfl (lv_room (Nat.le_of_ble_eq_true rfl)) dX5_keepAnswer_85 (by decide +kernel)) hS (fun q _ h => hFc q h) hFc (fun u t9_ H locs ht hvm hw9 hB9 hz1 hk1 hS => ?_)
          revert u hw9 hB9
          refine fz_p3 ?_
          intro wl_88 wb_88 wG_88 hw9 hB9
          try dsimp only at hw9 hB9
          revert hw9
          refine fz_a2 ?_
          intro b_wl_88 b_wb_88
          have p8 := cj_4_3 (WO hO aO kO hM hQ hw 1 iO_searched iO_searchedRelaxed iO_counted fO_countedCase gO_goalNumber gO_goalScale fO_start fO_column fO_chosen) (WM hM aM kM iM_stands iM_variables iM_rows iM_goals iM_differents iM_cases fM_from fM_to fM_whole fM_ways iM_plainRows fM_plainRow fM_kept fM_goalOver fM_goalUnder fM_goalMax fM_different) (WQ hQ aQ kQ hw fQ_inside fQ_outside fQ_shut iQ_rows iQ_allRows iQ_columns) (WW nW hw lw kw wl_88 wb_88 wG_88)
          obtain ⟨hP, hD⟩ := frameG p9 p8 hP hD hk1 hFc (fz_P ht hB9.1) hB9.2
          refine lv_iinc (v := (iI (l1_x55.toInt + 1))) hx hb dX5_keepAnswer_88 hl (k := 0) rfl (iI_add2 (iI_of _) (by decide : (1 : Int32) = iI 1)) (by decide) rfl (fun ls (hl : lv_has ls _ ([(1, .int (iI (l1_x55.toInt + 1))), (0, .ref (hO 0))])) => ?_)
          refine lv_goto (tgt := 55) hx hb dX5_keepAnswer_91 (by decide) ?_
          have hl : lv_has _ _ ([(1, .int (iI (l1_x55.toInt + 1))), (0, .ref (hO 0))]) := lv_sub hl [0, 1] rfl
          exact ihx55 wl_88 wb_88 wG_88 (iI (l1_x55.toInt + 1)) _ _ _ b_wl_88 b_wb_88 (iI_rng (Int.le_trans (by decide) (Int.add_le_add (b_l1_x55.1) (Int.le_refl _))) (by omega) (by decide) (by decide)) (by have e9 : ((iI (l1_x55.toInt + 1))).toInt = (l1_x55.toInt + 1) := (iI_t (Int.le_trans (by decide) (Int.add_le_add (b_l1_x55.1) (Int.le_refl _))) (Int.le_trans (Int.add_le_add (b_l1_x55.2) (Int.le_refl _)) (by decide))); omega) hP hD hS hl
    · have t_29 : ¬ l1_x21.toInt ≥ iM_variables.toInt := toI_nge c_29 rfl rfl
      refine lv_aload_n hx hb dX5_keepAnswer_32 rfl (lv_at hl 1 rfl) ?_
      refine va_get (D := (dC, dI)) (ci := 5) (v := .ref (aO 6)) (C := RX5) (T := TX5) (N := 19) hx hb hts iwsMX5_keepAnswer_in5 hown hK hP 0 rfl rfl 12 (by decide) (hts (.fieldLink RX5 48 "OptimaWorks$Solver" "answer" "[LOptimaWorks$Whole;") (by decide +kernel)) (fun _ h9 => h9) rfl dX5_keepAnswer_33 ?_
      refine lv_iload_n hx hb dX5_keepAnswer_36 rfl (lv_at hl 0 rfl) ?_
      refine va_aldq (cA := kO 6) (n := 8) (f := fun q => some (hw (406 + q))) hx hb hK hP 7 6 rfl rfl (vp_in_iff.mpr ⟨b_l1_x21.1, (Int.lt_of_lt_of_le (Int.not_le.mp t_29) (Int.le_trans b_iM_variables.2 (by decide)))⟩) dX5_keepAnswer_37 ?_
      obtain ⟨k89, hk89, b_k89⟩ : ∃ k9 : Nat, k9 = 406 + (l1_x21).toNatClampNeg ∧ (406 ≤ k9 ∧ k9 < 414 ∧ (k9 : Int) = 406 + l1_x21.toInt) := ⟨_, rfl, ald_k (x := (l1_x21)) (o := 406) (n := 8) rfl (by omega) (by omega)⟩
      refine W.eq (g2 := F0 m 38 ls [.ref (hw k89)]) (by rw [hk89]; rfl) ?_
      clear hk89
      refine lv_aload_n hx hb dX5_keepAnswer_38 rfl (lv_at hl 1 rfl) ?_
      refine va_get (D := (dC, dI)) (ci := 5) (v := .ref (aO 8)) (C := RX5) (T := TX5) (N := 19) hx hb hts iwsMX5_keepAnswer_in5 hown hK hP 0 rfl rfl 15 (by decide) (hts (.fieldLink RX5 62 "OptimaWorks$Solver" "trial" "[LOptimaWorks$Whole;") (by decide +kernel)) (fun _ h9 => h9) rfl dX5_keepAnswer_39 ?_
      refine lv_iload_n hx hb dX5_keepAnswer_42 rfl (lv_at hl 0 rfl) ?_
      refine va_aldq (cA := kO 8) (n := 8) (f := fun q => some (hw (418 + q))) hx hb hK hP 9 8 rfl rfl (vp_in_iff.mpr ⟨b_l1_x21.1, (Int.lt_of_lt_of_le (Int.not_le.mp t_29) (Int.le_trans b_iM_variables.2 (by decide)))⟩) dX5_keepAnswer_43 ?_
      obtain ⟨k90, hk90, b_k90⟩ : ∃ k9 : Nat, k9 = 418 + (l1_x21).toNatClampNeg ∧ (418 ≤ k9 ∧ k9 < 426 ∧ (k9 : Int) = 418 + l1_x21.toInt) := ⟨_, rfl, ald_k (x := (l1_x21)) (o := 418) (n := 8) rfl (by omega) (by omega)⟩
      refine W.eq (g2 := F0 m 44 ls [.ref (hw k90), .ref (hw k89)]) (by rw [hk90]; rfl) ?_
      clear hk90
      have p9 := cj_4_3 (WO hO aO kO hM hQ hw 1 iO_searched iO_searchedRelaxed iO_counted fO_countedCase gO_goalNumber gO_goalScale fO_start fO_column fO_chosen) (WM hM aM kM iM_stands iM_variables iM_rows iM_goals iM_differents iM_cases fM_from fM_to fM_whole fM_ways iM_plainRows fM_plainRow fM_kept fM_goalOver fM_goalUnder fM_goalMax fM_different) (WQ hQ aQ kQ hw fQ_inside fQ_outside fQ_shut iQ_rows iQ_allRows iQ_columns) (WW nW hw lw kw wl_x21 wb_x21 wG_x21)
      have hPc := hP.mem (fun q h => p9.mem_iff.mpr (List.mem_append_left _ h))
      have hDc := (hD.perm p9).left
      have hKc : va_K (dC, dI) vwCl (tW kw) _ := hK.sub [24] rfl
      have hFc := freeG p9 hD hS hA
      refine va_callv (va_runV (As := [.ref (hw k90)]) (rest := []) ⟨hx, hb, hml, hown, hts⟩ (m_X8_copy l dC dI nW hw lw kw wl_x21 wb_x21 wG_x21 k89 k90 b_wl_x21 b_wb_x21 (by first | with_reducible assumption | omega | (rw [iI_t (by omega) (by omega)]; omega) | decide | assumption) (by first | with_reducible assumption | omega | (rw [iI_t (by omega) (by omega)]; omega) | decide | assumption) H.size) (cwV 1 hts gwsMX5_keepAnswer_0 rfl rfl rfl hd_yX8_copy_RX8 (by decide +kernel)) (fz_pre (va_recv hK hP (ci := 8) (q0 := 11 + (11 + (5 + (k89)))) rfl (apR rfl (apR rfl (apR rfl (WW_o (by omega)))))) hPc hKc hDc) rfl rfl hl.1 rfl (lv_room (Nat.le_of_ble_eq_true rfl)) dX5_keepAnswer_44 (by decide +kernel)) hS (fun q _ h => hFc q h) hFc (fun u t9_ H locs ht hvm hw9 hB9 hz1 hk1 hS => ?_)
      revert u hw9 hB9
      refine fz_p3 ?_
      intro wl_91 wb_91 wG_91 hw9 hB9
      try dsimp only at hw9 hB9
      revert hw9
      refine fz_a2 ?_
      intro b_wl_91 b_wb_91
      have p8 := cj_4_3 (WO hO aO kO hM hQ hw 1 iO_searched iO_searchedRelaxed iO_counted fO_countedCase gO_goalNumber gO_goalScale fO_start fO_column fO_chosen) (WM hM aM kM iM_stands iM_variables iM_rows iM_goals iM_differents iM_cases fM_from fM_to fM_whole fM_ways iM_plainRows fM_plainRow fM_kept fM_goalOver fM_goalUnder fM_goalMax fM_different) (WQ hQ aQ kQ hw fQ_inside fQ_outside fQ_shut iQ_rows iQ_allRows iQ_columns) (WW nW hw lw kw wl_91 wb_91 wG_91)
      obtain ⟨hP, hD⟩ := frameG p9 p8 hP hD hk1 hFc (fz_P ht hB9.1) hB9.2
      refine lv_iinc (v := (iI (l1_x21.toInt + 1))) hx hb dX5_keepAnswer_47 hl (k := 0) rfl (iI_add2 (iI_of _) (by decide : (1 : Int32) = iI 1)) (by decide) rfl (fun ls (hl : lv_has ls _ ([(1, .int (iI (l1_x21.toInt + 1))), (0, .ref (hO 0))])) => ?_)
      refine lv_goto (tgt := 21) hx hb dX5_keepAnswer_50 (by decide) ?_
      have hl : lv_has _ _ ([(1, .int (iI (l1_x21.toInt + 1))), (0, .ref (hO 0))]) := lv_sub hl [0, 1] rfl
      exact ihx21 wl_91 wb_91 wG_91 (iI (l1_x21.toInt + 1)) _ _ _ b_wl_91 b_wb_91 (iI_rng (Int.le_trans (by decide) (Int.add_le_add (b_l1_x21.1) (Int.le_refl _))) (by omega) (by decide) (by decide)) (by have e9 : ((iI (l1_x21.toInt + 1))).toInt = (l1_x21.toInt + 1) := (iI_t (Int.le_trans (by decide) (Int.add_le_add (b_l1_x21.1) (Int.le_refl _))) (Int.le_trans (Int.add_le_add (b_l1_x21.2) (Int.le_refl _)) (by decide))); omega) hP hD hS hl
theorem dX5_tryAnswer_0 : decode cX5_tryAnswer 0 = .ok (.iconst 0, 1) := dk_3 (by decide +kernel)
theorem dX5_tryAnswer_1 : decode cX5_tryAnswer 1 = .ok (.istore_n 1, 1) := dk_60 (by decide +kernel)
theorem dX5_tryAnswer_2 : decode cX5_tryAnswer 2 = .ok (.iconst 0, 1) := dk_3 (by decide +kernel)
theorem dX5_tryAnswer_3 : decode cX5_tryAnswer 3 = .ok (.istore_n 2, 1) := dk_61 (by decide +kernel)
theorem dX5_tryAnswer_4 : decode cX5_tryAnswer 4 = .ok (.iload_n 2, 1) := dk_28 (by decide +kernel)
theorem dX5_tryAnswer_5 : decode cX5_tryAnswer 5 = .ok (.aload_n 0, 1) := dk_42 (by decide +kernel)
theorem dX5_tryAnswer_6 : decode cX5_tryAnswer 6 = .ok (.getfield 74, 3) := dk_180 (by decide +kernel)
theorem dX5_tryAnswer_9 : decode cX5_tryAnswer 9 = .ok (.getfield 98, 3) := dk_180 (by decide +kernel)
theorem dX5_tryAnswer_12 : decode cX5_tryAnswer 12 = .ok (.if_icmp .ge 61, 3) := dk_162 (by decide +kernel)
theorem dX5_tryAnswer_15 : decode cX5_tryAnswer 15 = .ok (.aload_n 0, 1) := dk_42 (by decide +kernel)
theorem dX5_tryAnswer_16 : decode cX5_tryAnswer 16 = .ok (.getfield 12, 3) := dk_180 (by decide +kernel)
theorem dX5_tryAnswer_19 : decode cX5_tryAnswer 19 = .ok (.aload_n 0, 1) := dk_42 (by decide +kernel)
theorem dX5_tryAnswer_20 : decode cX5_tryAnswer 20 = .ok (.iload_n 2, 1) := dk_28 (by decide +kernel)
theorem dX5_tryAnswer_21 : decode cX5_tryAnswer 21 = .ok (.invokevirtual 225, 3) := dk_182 (by decide +kernel)
theorem dX5_tryAnswer_24 : decode cX5_tryAnswer 24 = .ok (.invokevirtual 228, 3) := dk_182 (by decide +kernel)
theorem dX5_tryAnswer_27 : decode cX5_tryAnswer 27 = .ok (.aload_n 0, 1) := dk_42 (by decide +kernel)
theorem dX5_tryAnswer_28 : decode cX5_tryAnswer 28 = .ok (.getfield 78, 3) := dk_180 (by decide +kernel)
theorem dX5_tryAnswer_31 : decode cX5_tryAnswer 31 = .ok (.ifCond .eq 36, 3) := dk_153 (by decide +kernel)
theorem dX5_tryAnswer_34 : decode cX5_tryAnswer 34 = .ok (.iload_n 1, 1) := dk_27 (by decide +kernel)
theorem dX5_tryAnswer_35 : decode cX5_tryAnswer 35 = .ok (.ifCond .ne 32, 3) := dk_154 (by decide +kernel)
theorem dX5_tryAnswer_38 : decode cX5_tryAnswer 38 = .ok (.aload_n 0, 1) := dk_42 (by decide +kernel)
theorem dX5_tryAnswer_39 : decode cX5_tryAnswer 39 = .ok (.aload_n 0, 1) := dk_42 (by decide +kernel)
theorem dX5_tryAnswer_40 : decode cX5_tryAnswer 40 = .ok (.getfield 12, 3) := dk_180 (by decide +kernel)
theorem dX5_tryAnswer_43 : decode cX5_tryAnswer 43 = .ok (.aload_n 0, 1) := dk_42 (by decide +kernel)
theorem dX5_tryAnswer_44 : decode cX5_tryAnswer 44 = .ok (.iload_n 2, 1) := dk_28 (by decide +kernel)
theorem dX5_tryAnswer_45 : decode cX5_tryAnswer 45 = .ok (.invokevirtual 225, 3) := dk_182 (by decide +kernel)
theorem dX5_tryAnswer_48 : decode cX5_tryAnswer 48 = .ok (.iconst 0, 1) := dk_3 (by decide +kernel)
theorem dX5_tryAnswer_49 : decode cX5_tryAnswer 49 = .ok (.invokevirtual 177, 3) := dk_182 (by decide +kernel)
theorem dX5_tryAnswer_52 : decode cX5_tryAnswer 52 = .ok (.aload_n 0, 1) := dk_42 (by decide +kernel)
theorem dX5_tryAnswer_53 : decode cX5_tryAnswer 53 = .ok (.getfield 52, 3) := dk_180 (by decide +kernel)
theorem dX5_tryAnswer_56 : decode cX5_tryAnswer 56 = .ok (.iload_n 2, 1) := dk_28 (by decide +kernel)
theorem dX5_tryAnswer_57 : decode cX5_tryAnswer 57 = .ok (.aaload, 1) := dk_50 (by decide +kernel)
theorem dX5_tryAnswer_58 : decode cX5_tryAnswer 58 = .ok (.invokevirtual 232, 3) := dk_182 (by decide +kernel)
theorem dX5_tryAnswer_61 : decode cX5_tryAnswer 61 = .ok (.istore_n 1, 1) := dk_60 (by decide +kernel)
theorem dX5_tryAnswer_62 : decode cX5_tryAnswer 62 = .ok (.iload_n 1, 1) := dk_27 (by decide +kernel)
theorem dX5_tryAnswer_63 : decode cX5_tryAnswer 63 = .ok (.ifCond .le 4, 3) := dk_158 (by decide +kernel)
theorem dX5_tryAnswer_66 : decode cX5_tryAnswer 66 = .ok (.return_, 1) := dk_177 (by decide +kernel)
theorem dX5_tryAnswer_67 : decode cX5_tryAnswer 67 = .ok (.iinc 2 1, 3) := dk_132 (by decide +kernel)
theorem dX5_tryAnswer_70 : decode cX5_tryAnswer 70 = .ok (.goto (-66), 3) := dk_167 (by decide +kernel)
theorem dX5_tryAnswer_73 : decode cX5_tryAnswer 73 = .ok (.iconst 0, 1) := dk_3 (by decide +kernel)
theorem dX5_tryAnswer_74 : decode cX5_tryAnswer 74 = .ok (.istore_n 2, 1) := dk_61 (by decide +kernel)
theorem dX5_tryAnswer_75 : decode cX5_tryAnswer 75 = .ok (.iload_n 2, 1) := dk_28 (by decide +kernel)
theorem dX5_tryAnswer_76 : decode cX5_tryAnswer 76 = .ok (.aload_n 0, 1) := dk_42 (by decide +kernel)
theorem dX5_tryAnswer_77 : decode cX5_tryAnswer 77 = .ok (.getfield 74, 3) := dk_180 (by decide +kernel)
theorem dX5_tryAnswer_80 : decode cX5_tryAnswer 80 = .ok (.getfield 112, 3) := dk_180 (by decide +kernel)
theorem dX5_tryAnswer_83 : decode cX5_tryAnswer 83 = .ok (.if_icmp .ge 50, 3) := dk_162 (by decide +kernel)
theorem dX5_tryAnswer_86 : decode cX5_tryAnswer 86 = .ok (.aload_n 0, 1) := dk_42 (by decide +kernel)
theorem dX5_tryAnswer_87 : decode cX5_tryAnswer 87 = .ok (.getfield 38, 3) := dk_180 (by decide +kernel)
theorem dX5_tryAnswer_90 : decode cX5_tryAnswer 90 = .ok (.iload_n 2, 1) := dk_28 (by decide +kernel)
theorem dX5_tryAnswer_91 : decode cX5_tryAnswer 91 = .ok (.iaload, 1) := dk_46 (by decide +kernel)
theorem dX5_tryAnswer_92 : decode cX5_tryAnswer 92 = .ok (.iconst (-1), 1) := dk_2 (by decide +kernel)
theorem dX5_tryAnswer_93 : decode cX5_tryAnswer 93 = .ok (.if_icmp .eq 34, 3) := dk_159 (by decide +kernel)
theorem dX5_tryAnswer_96 : decode cX5_tryAnswer 96 = .ok (.aload_n 0, 1) := dk_42 (by decide +kernel)
theorem dX5_tryAnswer_97 : decode cX5_tryAnswer 97 = .ok (.getfield 12, 3) := dk_180 (by decide +kernel)
theorem dX5_tryAnswer_100 : decode cX5_tryAnswer 100 = .ok (.aload_n 0, 1) := dk_42 (by decide +kernel)
theorem dX5_tryAnswer_101 : decode cX5_tryAnswer 101 = .ok (.getfield 38, 3) := dk_180 (by decide +kernel)
theorem dX5_tryAnswer_104 : decode cX5_tryAnswer 104 = .ok (.iload_n 2, 1) := dk_28 (by decide +kernel)
theorem dX5_tryAnswer_105 : decode cX5_tryAnswer 105 = .ok (.iaload, 1) := dk_46 (by decide +kernel)
theorem dX5_tryAnswer_106 : decode cX5_tryAnswer 106 = .ok (.iconst 1, 1) := dk_4 (by decide +kernel)
theorem dX5_tryAnswer_107 : decode cX5_tryAnswer 107 = .ok (.isub, 1) := dk_100 (by decide +kernel)
theorem dX5_tryAnswer_108 : decode cX5_tryAnswer 108 = .ok (.invokevirtual 236, 3) := dk_182 (by decide +kernel)
theorem dX5_tryAnswer_111 : decode cX5_tryAnswer 111 = .ok (.pop, 1) := dk_87 (by decide +kernel)
theorem dX5_tryAnswer_112 : decode cX5_tryAnswer 112 = .ok (.aload_n 0, 1) := dk_42 (by decide +kernel)
theorem dX5_tryAnswer_113 : decode cX5_tryAnswer 113 = .ok (.getfield 12, 3) := dk_180 (by decide +kernel)
theorem dX5_tryAnswer_116 : decode cX5_tryAnswer 116 = .ok (.aload_n 0, 1) := dk_42 (by decide +kernel)
theorem dX5_tryAnswer_117 : decode cX5_tryAnswer 117 = .ok (.getfield 38, 3) := dk_180 (by decide +kernel)
theorem dX5_tryAnswer_120 : decode cX5_tryAnswer 120 = .ok (.iload_n 2, 1) := dk_28 (by decide +kernel)
theorem dX5_tryAnswer_121 : decode cX5_tryAnswer 121 = .ok (.iaload, 1) := dk_46 (by decide +kernel)
theorem dX5_tryAnswer_122 : decode cX5_tryAnswer 122 = .ok (.iconst 1, 1) := dk_4 (by decide +kernel)
theorem dX5_tryAnswer_123 : decode cX5_tryAnswer 123 = .ok (.isub, 1) := dk_100 (by decide +kernel)
theorem dX5_tryAnswer_124 : decode cX5_tryAnswer 124 = .ok (.invokevirtual 239, 3) := dk_182 (by decide +kernel)
theorem dX5_tryAnswer_127 : decode cX5_tryAnswer 127 = .ok (.iinc 2 1, 3) := dk_132 (by decide +kernel)
theorem dX5_tryAnswer_130 : decode cX5_tryAnswer 130 = .ok (.goto (-55), 3) := dk_167 (by decide +kernel)
theorem dX5_tryAnswer_133 : decode cX5_tryAnswer 133 = .ok (.aload_n 0, 1) := dk_42 (by decide +kernel)
theorem dX5_tryAnswer_134 : decode cX5_tryAnswer 134 = .ok (.aload_n 0, 1) := dk_42 (by decide +kernel)
theorem dX5_tryAnswer_135 : decode cX5_tryAnswer 135 = .ok (.getfield 62, 3) := dk_180 (by decide +kernel)
theorem dX5_tryAnswer_138 : decode cX5_tryAnswer 138 = .ok (.invokevirtual 242, 3) := dk_182 (by decide +kernel)
theorem dX5_tryAnswer_141 : decode cX5_tryAnswer 141 = .ok (.iconst 0, 1) := dk_3 (by decide +kernel)
theorem dX5_tryAnswer_142 : decode cX5_tryAnswer 142 = .ok (.istore_n 2, 1) := dk_61 (by decide +kernel)
theorem dX5_tryAnswer_143 : decode cX5_tryAnswer 143 = .ok (.iload_n 2, 1) := dk_28 (by decide +kernel)
theorem dX5_tryAnswer_144 : decode cX5_tryAnswer 144 = .ok (.aload_n 0, 1) := dk_42 (by decide +kernel)
theorem dX5_tryAnswer_145 : decode cX5_tryAnswer 145 = .ok (.getfield 74, 3) := dk_180 (by decide +kernel)
theorem dX5_tryAnswer_148 : decode cX5_tryAnswer 148 = .ok (.getfield 112, 3) := dk_180 (by decide +kernel)
theorem dX5_tryAnswer_151 : decode cX5_tryAnswer 151 = .ok (.if_icmp .ge 37, 3) := dk_162 (by decide +kernel)
theorem dX5_tryAnswer_154 : decode cX5_tryAnswer 154 = .ok (.aload_n 0, 1) := dk_42 (by decide +kernel)
theorem dX5_tryAnswer_155 : decode cX5_tryAnswer 155 = .ok (.getfield 78, 3) := dk_180 (by decide +kernel)
theorem dX5_tryAnswer_158 : decode cX5_tryAnswer 158 = .ok (.ifCond .eq 30, 3) := dk_153 (by decide +kernel)
theorem dX5_tryAnswer_161 : decode cX5_tryAnswer 161 = .ok (.iload_n 1, 1) := dk_27 (by decide +kernel)
theorem dX5_tryAnswer_162 : decode cX5_tryAnswer 162 = .ok (.ifCond .ne 26, 3) := dk_154 (by decide +kernel)
theorem dX5_tryAnswer_165 : decode cX5_tryAnswer 165 = .ok (.aload_n 0, 1) := dk_42 (by decide +kernel)
theorem dX5_tryAnswer_166 : decode cX5_tryAnswer 166 = .ok (.aload_n 0, 1) := dk_42 (by decide +kernel)
theorem dX5_tryAnswer_167 : decode cX5_tryAnswer 167 = .ok (.getfield 62, 3) := dk_180 (by decide +kernel)
theorem dX5_tryAnswer_170 : decode cX5_tryAnswer 170 = .ok (.iload_n 2, 1) := dk_28 (by decide +kernel)
theorem dX5_tryAnswer_171 : decode cX5_tryAnswer 171 = .ok (.aaload, 1) := dk_50 (by decide +kernel)
theorem dX5_tryAnswer_172 : decode cX5_tryAnswer 172 = .ok (.aload_n 0, 1) := dk_42 (by decide +kernel)
theorem dX5_tryAnswer_173 : decode cX5_tryAnswer 173 = .ok (.getfield 48, 3) := dk_180 (by decide +kernel)
theorem dX5_tryAnswer_176 : decode cX5_tryAnswer 176 = .ok (.iload_n 2, 1) := dk_28 (by decide +kernel)
theorem dX5_tryAnswer_177 : decode cX5_tryAnswer 177 = .ok (.aaload, 1) := dk_50 (by decide +kernel)
theorem dX5_tryAnswer_178 : decode cX5_tryAnswer 178 = .ok (.invokevirtual 232, 3) := dk_182 (by decide +kernel)
theorem dX5_tryAnswer_181 : decode cX5_tryAnswer 181 = .ok (.istore_n 1, 1) := dk_60 (by decide +kernel)
theorem dX5_tryAnswer_182 : decode cX5_tryAnswer 182 = .ok (.iinc 2 1, 3) := dk_132 (by decide +kernel)
theorem dX5_tryAnswer_185 : decode cX5_tryAnswer 185 = .ok (.goto (-42), 3) := dk_167 (by decide +kernel)
theorem dX5_tryAnswer_188 : decode cX5_tryAnswer 188 = .ok (.aload_n 0, 1) := dk_42 (by decide +kernel)
theorem dX5_tryAnswer_189 : decode cX5_tryAnswer 189 = .ok (.getfield 78, 3) := dk_180 (by decide +kernel)
theorem dX5_tryAnswer_192 : decode cX5_tryAnswer 192 = .ok (.ifCond .eq 7, 3) := dk_153 (by decide +kernel)
theorem dX5_tryAnswer_195 : decode cX5_tryAnswer 195 = .ok (.iload_n 1, 1) := dk_27 (by decide +kernel)
theorem dX5_tryAnswer_196 : decode cX5_tryAnswer 196 = .ok (.ifCond .ge 7, 3) := dk_156 (by decide +kernel)
theorem dX5_tryAnswer_199 : decode cX5_tryAnswer 199 = .ok (.aload_n 0, 1) := dk_42 (by decide +kernel)
theorem dX5_tryAnswer_200 : decode cX5_tryAnswer 200 = .ok (.invokevirtual 246, 3) := dk_182 (by decide +kernel)
theorem dX5_tryAnswer_203 : decode cX5_tryAnswer 203 = .ok (.return_, 1) := dk_177 (by decide +kernel)
def wsMX5_tryAnswer : List Cond := .code yX5_tryAnswer cX5_tryAnswer 3 none :: ([.fieldLink RX5 74 "OptimaWorks$Solver" "model" "LOptimaWorks$Model;", .fieldLink RX5 98 "OptimaWorks$Model" "goals" "I", .fieldLink RX5 112 "OptimaWorks$Model" "variables" "I", .fieldLink RX5 38 "OptimaWorks$Solver" "column" "[I", .fieldLink RX5 12 "OptimaWorks$Solver" "tableau" "LOptimaWorks$Tableau;", .fieldLink RX5 62 "OptimaWorks$Solver" "trial" "[LOptimaWorks$Whole;", .fieldLink RX5 78 "OptimaWorks$Solver" "answered" "Z", .fieldLink RX5 48 "OptimaWorks$Solver" "answer" "[LOptimaWorks$Whole;", .fieldLink RX5 52 "OptimaWorks$Solver" "answerGoal" "[LOptimaWorks$Whole;"] ++ wsX10 ++ wsX50 ++ (wsV RX5 236 RX6 yX6_sink wsMX6_sink) ++ (wsV RX5 239 RX6 yX6_keepSunk wsMX6_keepSunk) ++ (wsV RX5 242 RX5 yX5_takeNumbers wsMX5_takeNumbers) ++ (wsV RX5 232 RX5 yX5_compare wsMX5_compare) ++ (wsV RX5 246 RX5 yX5_keepAnswer wsMX5_keepAnswer) ++ (wsV RX5 225 RX5 yX5_goalRow wsMX5_goalRow) ++ (wsV RX5 228 RX6 yX6_makeLeast wsMX6_makeLeast) ++ (wsV RX5 177 RX6 yX6_cellAt wsMX6_cellAt))
theorem iwsMX5_tryAnswer_in1 : ∀ w ∈ wsX10, w ∈ wsMX5_tryAnswer := fun _ h => List.mem_cons_of_mem _ (List.mem_append_left _ (List.mem_append_left _ (List.mem_append_left _ (List.mem_append_left _ (List.mem_append_left _ (List.mem_append_left _ (List.mem_append_left _ (List.mem_append_left _ (List.mem_append_left _ (List.mem_append_right _ h))))))))))
theorem iwsMX5_tryAnswer_in5 : ∀ w ∈ wsX50, w ∈ wsMX5_tryAnswer := fun _ h => List.mem_cons_of_mem _ (List.mem_append_left _ (List.mem_append_left _ (List.mem_append_left _ (List.mem_append_left _ (List.mem_append_left _ (List.mem_append_left _ (List.mem_append_left _ (List.mem_append_left _ (List.mem_append_right _ h)))))))))
theorem gwsMX5_tryAnswer_0 : GoodIn wsMX5_tryAnswer (wsV RX5 236 RX6 yX6_sink wsMX6_sink) := goodIn_sub (fun _ h => List.mem_cons_of_mem _ (List.mem_append_left _ (List.mem_append_left _ (List.mem_append_left _ (List.mem_append_left _ (List.mem_append_left _ (List.mem_append_left _ (List.mem_append_left _ (List.mem_append_right _ h))))))))) (gdV (by decide +kernel) gdwsMX6_sink)
theorem gwsMX5_tryAnswer_1 : GoodIn wsMX5_tryAnswer (wsV RX5 239 RX6 yX6_keepSunk wsMX6_keepSunk) := goodIn_sub (fun _ h => List.mem_cons_of_mem _ (List.mem_append_left _ (List.mem_append_left _ (List.mem_append_left _ (List.mem_append_left _ (List.mem_append_left _ (List.mem_append_left _ (List.mem_append_right _ h)))))))) (gdV (by decide +kernel) gdwsMX6_keepSunk)
theorem gwsMX5_tryAnswer_2 : GoodIn wsMX5_tryAnswer (wsV RX5 242 RX5 yX5_takeNumbers wsMX5_takeNumbers) := goodIn_sub (fun _ h => List.mem_cons_of_mem _ (List.mem_append_left _ (List.mem_append_left _ (List.mem_append_left _ (List.mem_append_left _ (List.mem_append_left _ (List.mem_append_right _ h))))))) (gdV (by decide +kernel) gdwsMX5_takeNumbers)
theorem gwsMX5_tryAnswer_3 : GoodIn wsMX5_tryAnswer (wsV RX5 232 RX5 yX5_compare wsMX5_compare) := goodIn_sub (fun _ h => List.mem_cons_of_mem _ (List.mem_append_left _ (List.mem_append_left _ (List.mem_append_left _ (List.mem_append_left _ (List.mem_append_right _ h)))))) (gdV (by decide +kernel) gdwsMX5_compare)
theorem gwsMX5_tryAnswer_4 : GoodIn wsMX5_tryAnswer (wsV RX5 246 RX5 yX5_keepAnswer wsMX5_keepAnswer) := goodIn_sub (fun _ h => List.mem_cons_of_mem _ (List.mem_append_left _ (List.mem_append_left _ (List.mem_append_left _ (List.mem_append_right _ h))))) (gdV (by decide +kernel) gdwsMX5_keepAnswer)
theorem gwsMX5_tryAnswer_5 : GoodIn wsMX5_tryAnswer (wsV RX5 225 RX5 yX5_goalRow wsMX5_goalRow) := goodIn_sub (fun _ h => List.mem_cons_of_mem _ (List.mem_append_left _ (List.mem_append_left _ (List.mem_append_right _ h)))) (gdV (by decide +kernel) gdwsMX5_goalRow)
theorem gwsMX5_tryAnswer_6 : GoodIn wsMX5_tryAnswer (wsV RX5 228 RX6 yX6_makeLeast wsMX6_makeLeast) := goodIn_sub (fun _ h => List.mem_cons_of_mem _ (List.mem_append_left _ (List.mem_append_right _ h))) (gdV (by decide +kernel) gdwsMX6_makeLeast)
theorem gwsMX5_tryAnswer_7 : GoodIn wsMX5_tryAnswer (wsV RX5 177 RX6 yX6_cellAt wsMX6_cellAt) := goodIn_sub (fun _ h => List.mem_cons_of_mem _ (List.mem_append_right _ h)) (gdV (by decide +kernel) gdwsMX6_cellAt)
theorem gdwsMX5_tryAnswer : wsMX5_tryAnswer.all goodWord = true := gdC rfl (gdA (gdA (gdA (gdA (gdA (gdA (gdA (gdA (gdA (gdA (by decide +kernel : ([.fieldLink RX5 74 "OptimaWorks$Solver" "model" "LOptimaWorks$Model;", .fieldLink RX5 98 "OptimaWorks$Model" "goals" "I", .fieldLink RX5 112 "OptimaWorks$Model" "variables" "I", .fieldLink RX5 38 "OptimaWorks$Solver" "column" "[I", .fieldLink RX5 12 "OptimaWorks$Solver" "tableau" "LOptimaWorks$Tableau;", .fieldLink RX5 62 "OptimaWorks$Solver" "trial" "[LOptimaWorks$Whole;", .fieldLink RX5 78 "OptimaWorks$Solver" "answered" "Z", .fieldLink RX5 48 "OptimaWorks$Solver" "answer" "[LOptimaWorks$Whole;", .fieldLink RX5 52 "OptimaWorks$Solver" "answerGoal" "[LOptimaWorks$Whole;"] : List Cond).all goodWord = true) gdwsX10) gdwsX50) (gdV (by decide +kernel) gdwsMX6_sink)) (gdV (by decide +kernel) gdwsMX6_keepSunk)) (gdV (by decide +kernel) gdwsMX5_takeNumbers)) (gdV (by decide +kernel) gdwsMX5_compare)) (gdV (by decide +kernel) gdwsMX5_keepAnswer)) (gdV (by decide +kernel) gdwsMX5_goalRow)) (gdV (by decide +kernel) gdwsMX6_makeLeast)) (gdV (by decide +kernel) gdwsMX6_cellAt))
theorem hm_m_X5_tryAnswer_0 : (.fieldLink RX5 74 "OptimaWorks$Solver" "model" "LOptimaWorks$Model;" : Cond) ∈ wsMX5_tryAnswer := by decide +kernel
theorem hm_m_X5_tryAnswer_1 : (.fieldLink RX5 112 "OptimaWorks$Model" "variables" "I" : Cond) ∈ wsMX5_tryAnswer := by decide +kernel
theorem hm_m_X5_tryAnswer_2 : (.fieldLink RX5 62 "OptimaWorks$Solver" "trial" "[LOptimaWorks$Whole;" : Cond) ∈ wsMX5_tryAnswer := by decide +kernel
theorem hm_m_X5_tryAnswer_3 : (.fieldLink RX5 78 "OptimaWorks$Solver" "answered" "Z" : Cond) ∈ wsMX5_tryAnswer := by decide +kernel
theorem hm_m_X5_tryAnswer_4 : (.fieldLink RX5 38 "OptimaWorks$Solver" "column" "[I" : Cond) ∈ wsMX5_tryAnswer := by decide +kernel
theorem hm_m_X5_tryAnswer_5 : (.fieldLink RX5 12 "OptimaWorks$Solver" "tableau" "LOptimaWorks$Tableau;" : Cond) ∈ wsMX5_tryAnswer := by decide +kernel
set_option maxHeartbeats 4000000 in
set_option maxRecDepth 100000 in
/-- is it better -/
theorem m_X5_tryAnswer (l : Launch) (dC : Nat → ClassId) (dI : Nat → Nat → Nat) (hO : Nat → Nat) (aO : Nat → Nat) (kO : Nat → ClassId) (hM : Nat → Nat) (hQ : Nat → Nat) (hw : Nat → Nat) (iO_answered : Int32) (iO_searched : Int32) (iO_searchedRelaxed : Int32) (iO_counted : Int32) (fO_countedCase : Nat → Int32) (gO_goalNumber : Nat → Int64) (gO_goalScale : Nat → Int64) (fO_start : Nat → Int32) (fO_column : Nat → Int32) (fO_chosen : Nat → Int32) (aM : Nat → Nat) (kM : Nat → ClassId) (iM_stands : Int32) (iM_variables : Int32) (iM_rows : Int32) (iM_goals : Int32) (iM_differents : Int32) (iM_cases : Int32) (fM_from : Nat → Int32) (fM_to : Nat → Int32) (fM_whole : Nat → Int32) (fM_ways : Nat → Int32) (iM_plainRows : Int32) (fM_plainRow : Nat → Int32) (fM_kept : Nat → Int32) (fM_goalOver : Nat → Int32) (fM_goalUnder : Nat → Int32) (fM_goalMax : Nat → Int32) (fM_different : Nat → Int32) (aQ : Nat → Nat) (kQ : Nat → ClassId) (fQ_inside : Nat → Int32) (fQ_outside : Nat → Int32) (fQ_shut : Nat → Int32) (iQ_rows : Int32) (iQ_allRows : Int32) (iQ_columns : Int32) (nW : Nat) (lw : Nat → Nat) (kw : ClassId) (wl : Nat → Int32) (wb : Nat → Int32) (wG : Nat → Nat → Int64) (b_iO_answered : 0 ≤ iO_answered.toInt ∧ iO_answered.toInt ≤ 1) (b_iO_searched : 0 ≤ iO_searched.toInt ∧ iO_searched.toInt ≤ 1) (b_iO_searchedRelaxed : 0 ≤ iO_searchedRelaxed.toInt ∧ iO_searchedRelaxed.toInt ≤ 1) (b_iO_counted : (-1) ≤ iO_counted.toInt ∧ iO_counted.toInt ≤ 64) (b_fO_countedCase : ∀ q : Nat, 0 ≤ (fO_countedCase q).toInt ∧ (fO_countedCase q).toInt ≤ 200000) (b_fO_column : ∀ q : Nat, (-1) ≤ (fO_column q).toInt ∧ (fO_column q).toInt ≤ 8) (b_fO_chosen : ∀ q : Nat, 0 ≤ (fO_chosen q).toInt ∧ (fO_chosen q).toInt ≤ 2) (b_iM_stands : 0 ≤ iM_stands.toInt ∧ iM_stands.toInt ≤ 1) (b_iM_variables : 0 ≤ iM_variables.toInt ∧ iM_variables.toInt ≤ 8) (b_iM_rows : 0 ≤ iM_rows.toInt ∧ iM_rows.toInt ≤ 12) (b_iM_goals : 0 ≤ iM_goals.toInt ∧ iM_goals.toInt ≤ 3) (b_iM_differents : 0 ≤ iM_differents.toInt ∧ iM_differents.toInt ≤ 8) (b_iM_cases : 0 ≤ iM_cases.toInt ∧ iM_cases.toInt ≤ 200000) (b_fM_ways : ∀ q : Nat, 0 ≤ (fM_ways q).toInt ∧ (fM_ways q).toInt ≤ 3) (b_iM_plainRows : 0 ≤ iM_plainRows.toInt ∧ iM_plainRows.toInt ≤ 12) (b_fM_plainRow : ∀ q : Nat, 0 ≤ (fM_plainRow q).toInt ∧ (fM_plainRow q).toInt ≤ 11) (b_pr : iM_plainRows.toInt ≤ iM_rows.toInt) (b_iQ_rows : 0 ≤ iQ_rows.toInt ∧ iQ_rows.toInt ≤ 40) (b_iQ_allRows : 0 ≤ iQ_allRows.toInt ∧ iQ_allRows.toInt ≤ 40) (b_iQ_columns : 0 ≤ iQ_columns.toInt ∧ iQ_columns.toInt ≤ 40) (b_tb : TbO iQ_rows iQ_allRows iQ_columns) (b_wl : ∀ q : Nat, 0 ≤ (wl q).toInt ∧ (wl q).toInt ≤ 14) (b_wb : ∀ q : Nat, 0 ≤ (wb q).toInt ∧ (wb q).toInt ≤ 1) (hnW : 432 ≤ nW) (hc8 : iQ_columns.toInt ≤ 8) (hr20 : iQ_rows.toInt ≤ 20) (sz : Nat) : Met l yX5_tryAnswer wsMX5_tryAnswer ({ frames := 6, cells := 0, slots := 0, locals := 156 }) (va_Pc [.ref (hO 0)] (fun U => U.heap.size = sz ∧ va_P (dC, dI) vwCl (WO hO aO kO hM hQ hw iO_answered iO_searched iO_searchedRelaxed iO_counted fO_countedCase gO_goalNumber gO_goalScale fO_start fO_column fO_chosen ++ (WM hM aM kM iM_stands iM_variables iM_rows iM_goals iM_differents iM_cases fM_from fM_to fM_whole fM_ways iM_plainRows fM_plainRow fM_kept fM_goalOver fM_goalUnder fM_goalMax fM_different ++ (WQ hQ aQ kQ hw fQ_inside fQ_outside fQ_shut iQ_rows iQ_allRows iQ_columns ++ (WW nW hw lw kw wl wb wG)))) U.heap ∧ va_K (dC, dI) vwCl (tO kO ++ (tM kM ++ (tQ kQ ++ (tW kw)))) U ∧ va_D (fun _ => True) (WO hO aO kO hM hQ hw iO_answered iO_searched iO_searchedRelaxed iO_counted fO_countedCase gO_goalNumber gO_goalScale fO_start fO_column fO_chosen ++ (WM hM aM kM iM_stands iM_variables iM_rows iM_goals iM_differents iM_cases fM_from fM_to fM_whole fM_ways iM_plainRows fM_plainRow fM_kept fM_goalOver fM_goalUnder fM_goalMax fM_different ++ (WQ hQ aQ kQ hw fQ_inside fQ_outside fQ_shut iQ_rows iQ_allRows iQ_columns ++ (WW nW hw lw kw wl wb wG)))))) (va_Qv (fun (u : (Int32) × (Nat → Int32) × (Nat → Int32) × (Nat → Int32) × (Nat → Int32) × (Nat → Int32) × (Nat → Nat → Int64)) => (0 ≤ (u.1).toInt ∧ (u.1).toInt ≤ 1) ∧ (∀ q : Nat, 0 ≤ ((u.2.2.2.2.1) q).toInt ∧ ((u.2.2.2.2.1) q).toInt ≤ 14) ∧ (∀ q : Nat, 0 ≤ ((u.2.2.2.2.2.1) q).toInt ∧ ((u.2.2.2.2.2.1) q).toInt ≤ 1)) (fun (u : (Int32) × (Nat → Int32) × (Nat → Int32) × (Nat → Int32) × (Nat → Int32) × (Nat → Int32) × (Nat → Nat → Int64)) t => va_P (dC, dI) vwCl (WO hO aO kO hM hQ hw (u.1) iO_searched iO_searchedRelaxed iO_counted fO_countedCase gO_goalNumber gO_goalScale fO_start fO_column fO_chosen ++ (WM hM aM kM iM_stands iM_variables iM_rows iM_goals iM_differents iM_cases fM_from fM_to fM_whole fM_ways iM_plainRows fM_plainRow fM_kept fM_goalOver fM_goalUnder fM_goalMax fM_different ++ (WQ hQ aQ kQ hw (u.2.1) (u.2.2.1) (u.2.2.2.1) iQ_rows iQ_allRows iQ_columns ++ (WW nW hw lw kw (u.2.2.2.2.1) (u.2.2.2.2.2.1) (u.2.2.2.2.2.2))))) t.heap ∧ va_D (va_A (WO hO aO kO hM hQ hw iO_answered iO_searched iO_searchedRelaxed iO_counted fO_countedCase gO_goalNumber gO_goalScale fO_start fO_column fO_chosen ++ (WM hM aM kM iM_stands iM_variables iM_rows iM_goals iM_differents iM_cases fM_from fM_to fM_whole fM_ways iM_plainRows fM_plainRow fM_kept fM_goalOver fM_goalUnder fM_goalMax fM_different ++ (WQ hQ aQ kQ hw fQ_inside fQ_outside fQ_shut iQ_rows iQ_allRows iQ_columns ++ (WW nW hw lw kw wl wb wG)))) sz) (WO hO aO kO hM hQ hw (u.1) iO_searched iO_searchedRelaxed iO_counted fO_countedCase gO_goalNumber gO_goalScale fO_start fO_column fO_chosen ++ (WM hM aM kM iM_stands iM_variables iM_rows iM_goals iM_differents iM_cases fM_from fM_to fM_whole fM_ways iM_plainRows fM_plainRow fM_kept fM_goalOver fM_goalUnder fM_goalMax fM_different ++ (WQ hQ aQ kQ hw (u.2.1) (u.2.2.1) (u.2.2.2.1) iQ_rows iQ_allRows iQ_columns ++ (WW nW hw lw kw (u.2.2.2.2.1) (u.2.2.2.2.2.1) (u.2.2.2.2.2.2)))))) (va_A (WO hO aO kO hM hQ hw iO_answered iO_searched iO_searchedRelaxed iO_counted fO_countedCase gO_goalNumber gO_goalScale fO_start fO_column fO_chosen ++ (WM hM aM kM iM_stands iM_variables iM_rows iM_goals iM_differents iM_cases fM_from fM_to fM_whole fM_ways iM_plainRows fM_plainRow fM_kept fM_goalOver fM_goalUnder fM_goalMax fM_different ++ (WQ hQ aQ kQ hw fQ_inside fQ_outside fQ_shut iQ_rows iQ_allRows iQ_columns ++ (WW nW hw lw kw wl wb wG)))) sz)) 0 0 (va_A (WO hO aO kO hM hQ hw iO_answered iO_searched iO_searchedRelaxed iO_counted fO_countedCase gO_goalNumber gO_goalScale fO_start fO_column fO_chosen ++ (WM hM aM kM iM_stands iM_variables iM_rows iM_goals iM_differents iM_cases fM_from fM_to fM_whole fM_ways iM_plainRows fM_plainRow fM_kept fM_goalOver fM_goalUnder fM_goalMax fM_different ++ (WQ hQ aQ kQ hw fQ_inside fQ_outside fQ_shut iQ_rows iQ_allRows iQ_columns ++ (WW nW hw lw kw wl wb wG)))) sz) := by
  refine Met.ofW (cc := cX5_tryAnswer) (maxL := 3) (ret := none) (by decide) rfl ?_
  intro p e s m args below meth c s₁ B hml hv
  obtain ⟨rfl, hsz, hP, hK, hD0⟩ := hv
  have hx := B.exec
  have hb := B.bytes
  have hr := B.returns
  have hts := atoms_spec (ws := wsMX5_tryAnswer) B.pre
  have hown : s.vm.findClass RX5 = some m.cls := findClass_of_methodNamed B.named
  have hlocks := B.notSynchronized
  subst hsz
  have hD := hD0.self (sz := s.heap.size)
  generalize hAe : va_A (WO hO aO kO hM hQ hw iO_answered iO_searched iO_searchedRelaxed iO_counted fO_countedCase gO_goalNumber gO_goalScale fO_start fO_column fO_chosen ++ (WM hM aM kM iM_stands iM_variables iM_rows iM_goals iM_differents iM_cases fM_from fM_to fM_whole fM_ways iM_plainRows fM_plainRow fM_kept fM_goalOver fM_goalUnder fM_goalMax fM_different ++ (WQ hQ aQ kQ hw fQ_inside fQ_outside fQ_shut iQ_rows iQ_allRows iQ_columns ++ (WW nW hw lw kw wl wb wG)))) s.heap.size = A at hD ⊢
  have hA : ∀ q : Nat, s.heap.size ≤ q → A q := fun q h => by rw [← hAe]; exact Or.inr h
  have hS : va_S A s.heap s.heap [] := va_S.rf
  have hl := lv_entry ([.ref (hO 0)]) (n := 3) (Nat.le_of_ble_eq_true rfl)
  rw [lg_entry_eq]
  generalize (lg_sl ([.ref (hO 0)]) ++ List.replicate (3 - (lg_sl ([.ref (hO 0)])).length) Slot.unset).toArray = ls at hl ⊢
  have hl : lv_has ls 3 [(0, .ref (hO 0))] := hl
  refine lv_iconst (v := 0) hx hb dX5_tryAnswer_0 (by decide) ?_
  refine lv_istore_n hx hb dX5_tryAnswer_1 rfl hl (by decide) rfl (fun ls (hl : lv_has ls _ ([(1, .int 0), (0, .ref (hO 0))])) => ?_)
  refine lv_iconst (v := 0) hx hb dX5_tryAnswer_2 (by decide) ?_
  refine lv_istore_n hx hb dX5_tryAnswer_3 rfl hl (by decide) rfl (fun ls (hl : lv_has ls _ ([(2, .int 0), (1, .int 0), (0, .ref (hO 0))])) => ?_)
  have hl : lv_has _ _ ([(2, .int 0), (1, .int 0), (0, .ref (hO 0))]) := lv_sub hl [0, 1, 2] rfl
  refine (fun (loop : ∀ (n9 : Nat) (fQ_inside_x4 : Nat → Int32) (fQ_outside_x4 : Nat → Int32) (fQ_shut_x4 : Nat → Int32) (wl_x4 : Nat → Int32) (wb_x4 : Nat → Int32) (wG_x4 : Nat → Nat → Int64) (l2_x4 : Int32) (l1_x4 : Int32) (H : Heap) (locs : List Loc) (ls : Array Slot), (∀ q : Nat, 0 ≤ (wl_x4 q).toInt ∧ (wl_x4 q).toInt ≤ 14) → (∀ q : Nat, 0 ≤ (wb_x4 q).toInt ∧ (wb_x4 q).toInt ≤ 1) → (0 ≤ l2_x4.toInt ∧ l2_x4.toInt ≤ 3) → ((-1) ≤ l1_x4.toInt ∧ l1_x4.toInt ≤ 1) → (3 - l2_x4.toInt < ((n9 : Nat) : Int)) → va_P (dC, dI) vwCl (WO hO aO kO hM hQ hw iO_answered iO_searched iO_searchedRelaxed iO_counted fO_countedCase gO_goalNumber gO_goalScale fO_start fO_column fO_chosen ++ (WM hM aM kM iM_stands iM_variables iM_rows iM_goals iM_differents iM_cases fM_from fM_to fM_whole fM_ways iM_plainRows fM_plainRow fM_kept fM_goalOver fM_goalUnder fM_goalMax fM_different ++ (WQ hQ aQ kQ hw fQ_inside_x4 fQ_outside_x4 fQ_shut_x4 iQ_rows iQ_allRows iQ_columns ++ (WW nW hw lw kw wl_x4 wb_x4 wG_x4)))) H → va_D A (WO hO aO kO hM hQ hw iO_answered iO_searched iO_searchedRelaxed iO_counted fO_countedCase gO_goalNumber gO_goalScale fO_start fO_column fO_chosen ++ (WM hM aM kM iM_stands iM_variables iM_rows iM_goals iM_differents iM_cases fM_from fM_to fM_whole fM_ways iM_plainRows fM_plainRow fM_kept fM_goalOver fM_goalUnder fM_goalMax fM_different ++ (WQ hQ aQ kQ hw fQ_inside_x4 fQ_outside_x4 fQ_shut_x4 iQ_rows iQ_allRows iQ_columns ++ (WW nW hw lw kw wl_x4 wb_x4 wG_x4)))) → va_S A s.heap H locs → lv_has ls 3 [(2, .int l2_x4), (1, .int l1_x4), (0, .ref (hO 0))] → W p l e _ s m _ below meth c H locs 0 0 _ (F0 m 4 ls [])) => loop (4) fQ_inside fQ_outside fQ_shut wl wb wG 0 0 _ _ _ b_wl b_wb (show 0 ≤ (0 : Int32).toInt ∧ (0 : Int32).toInt ≤ 3 from by decide) (show (-1) ≤ (0 : Int32).toInt ∧ (0 : Int32).toInt ≤ 1 from by decide) ((by have e9 : (0 : Int32).toInt = 0 := (by decide : (0 : Int32).toInt = 0); omega)) hP hD hS hl) ?_
  intro n9
  induction n9 with
  | zero => intro fQ_inside_x4 fQ_outside_x4 fQ_shut_x4 wl_x4 wb_x4 wG_x4 l2_x4 l1_x4 H locs ls b_wl_x4 b_wb_x4 b_l2_x4 b_l1_x4 hf9; exact False.elim (by omega)
  | succ n9 ihx4 =>
    intro fQ_inside_x4 fQ_outside_x4 fQ_shut_x4 wl_x4 wb_x4 wG_x4 l2_x4 l1_x4 H locs ls b_wl_x4 b_wb_x4 b_l2_x4 b_l1_x4 hfx4 hP hD hS hl
    refine lv_iload_n hx hb dX5_tryAnswer_4 rfl (lv_at hl 0 rfl) ?_
    refine lv_aload_n hx hb dX5_tryAnswer_5 rfl (lv_at hl 2 rfl) ?_
    refine va_get (D := (dC, dI)) (ci := 5) (v := .ref (hM 0)) (C := RX5) (T := TX5) (N := 19) hx hb hts iwsMX5_tryAnswer_in5 hown hK hP 0 rfl rfl 0 (by decide) (hts _ hm_m_X5_tryAnswer_0) (fun _ h9 => h9) rfl dX5_tryAnswer_6 ?_
    refine va_get (D := (dC, dI)) (ci := 1) (v := .int iM_goals) (C := RX1) (T := TX1) (N := 17) hx hb hts iwsMX5_tryAnswer_in1 hown hK hP 11 rfl rfl 3 (by decide) (hts (.fieldLink RX5 98 "OptimaWorks$Model" "goals" "I") (by decide +kernel)) (fun _ h9 => h9) rfl dX5_tryAnswer_9 ?_
    refine lv_icmp_ge (tgt := 73) hx hb dX5_tryAnswer_12 (by decide) (fun c_12 => ?_) (fun c_12 => ?_)
    · have t_12 : l2_x4.toInt ≥ iM_goals.toInt := toI_ge c_12 rfl rfl
      refine lv_iconst (v := 0) hx hb dX5_tryAnswer_73 (by decide) ?_
      refine lv_istore_n hx hb dX5_tryAnswer_74 rfl hl (by decide) rfl (fun ls (hl : lv_has ls _ ([(2, .int 0), (1, .int l1_x4), (0, .ref (hO 0))])) => ?_)
      have hl : lv_has _ _ ([(2, .int 0), (1, .int l1_x4), (0, .ref (hO 0))]) := lv_sub hl [0, 1, 2] rfl
      refine (fun (loop : ∀ (n9 : Nat) (fQ_inside_x75 : Nat → Int32) (fQ_outside_x75 : Nat → Int32) (fQ_shut_x75 : Nat → Int32) (wl_x75 : Nat → Int32) (wb_x75 : Nat → Int32) (wG_x75 : Nat → Nat → Int64) (l2_x75 : Int32) (H : Heap) (locs : List Loc) (ls : Array Slot), (∀ q : Nat, 0 ≤ (wl_x75 q).toInt ∧ (wl_x75 q).toInt ≤ 14) → (∀ q : Nat, 0 ≤ (wb_x75 q).toInt ∧ (wb_x75 q).toInt ≤ 1) → (0 ≤ l2_x75.toInt ∧ l2_x75.toInt ≤ 8) → (8 - l2_x75.toInt < ((n9 : Nat) : Int)) → va_P (dC, dI) vwCl (WO hO aO kO hM hQ hw iO_answered iO_searched iO_searchedRelaxed iO_counted fO_countedCase gO_goalNumber gO_goalScale fO_start fO_column fO_chosen ++ (WM hM aM kM iM_stands iM_variables iM_rows iM_goals iM_differents iM_cases fM_from fM_to fM_whole fM_ways iM_plainRows fM_plainRow fM_kept fM_goalOver fM_goalUnder fM_goalMax fM_different ++ (WQ hQ aQ kQ hw fQ_inside_x75 fQ_outside_x75 fQ_shut_x75 iQ_rows iQ_allRows iQ_columns ++ (WW nW hw lw kw wl_x75 wb_x75 wG_x75)))) H → va_D A (WO hO aO kO hM hQ hw iO_answered iO_searched iO_searchedRelaxed iO_counted fO_countedCase gO_goalNumber gO_goalScale fO_start fO_column fO_chosen ++ (WM hM aM kM iM_stands iM_variables iM_rows iM_goals iM_differents iM_cases fM_from fM_to fM_whole fM_ways iM_plainRows fM_plainRow fM_kept fM_goalOver fM_goalUnder fM_goalMax fM_different ++ (WQ hQ aQ kQ hw fQ_inside_x75 fQ_outside_x75 fQ_shut_x75 iQ_rows iQ_allRows iQ_columns ++ (WW nW hw lw kw wl_x75 wb_x75 wG_x75)))) → va_S A s.heap H locs → lv_has ls 3 [(2, .int l2_x75), (1, .int l1_x4), (0, .ref (hO 0))] → W p l e _ s m _ below meth c H locs 0 0 _ (F0 m 75 ls [])) => loop (9) fQ_inside_x4 fQ_outside_x4 fQ_shut_x4 wl_x4 wb_x4 wG_x4 0 _ _ _ b_wl_x4 b_wb_x4 (show 0 ≤ (0 : Int32).toInt ∧ (0 : Int32).toInt ≤ 8 from by decide) ((by have e9 : (0 : Int32).toInt = 0 := (by decide : (0 : Int32).toInt = 0); omega)) hP hD hS hl) ?_
      intro n9
      induction n9 with
      | zero => intro fQ_inside_x75 fQ_outside_x75 fQ_shut_x75 wl_x75 wb_x75 wG_x75 l2_x75 H locs ls b_wl_x75 b_wb_x75 b_l2_x75 hf9; exact False.elim (by omega)
      | succ n9 ihx75 =>
        intro fQ_inside_x75 fQ_outside_x75 fQ_shut_x75 wl_x75 wb_x75 wG_x75 l2_x75 H locs ls b_wl_x75 b_wb_x75 b_l2_x75 hfx75 hP hD hS hl
        refine lv_iload_n hx hb dX5_tryAnswer_75 rfl (lv_at hl 0 rfl) ?_
        refine lv_aload_n hx hb dX5_tryAnswer_76 rfl (lv_at hl 2 rfl) ?_
        refine va_get (D := (dC, dI)) (ci := 5) (v := .ref (hM 0)) (C := RX5) (T := TX5) (N := 19) hx hb hts iwsMX5_tryAnswer_in5 hown hK hP 0 rfl rfl 0 (by decide) (hts _ hm_m_X5_tryAnswer_0) (fun _ h9 => h9) rfl dX5_tryAnswer_77 ?_
        refine va_get (D := (dC, dI)) (ci := 1) (v := .int iM_variables) (C := RX1) (T := TX1) (N := 17) hx hb hts iwsMX5_tryAnswer_in1 hown hK hP 11 rfl rfl 1 (by decide) (hts _ hm_m_X5_tryAnswer_1) (fun _ h9 => h9) rfl dX5_tryAnswer_80 ?_
        refine lv_icmp_ge (tgt := 133) hx hb dX5_tryAnswer_83 (by decide) (fun c_83 => ?_) (fun c_83 => ?_)
        · have t_83 : l2_x75.toInt ≥ iM_variables.toInt := toI_ge c_83 rfl rfl
          refine lv_aload_n hx hb dX5_tryAnswer_133 rfl (lv_at hl 2 rfl) ?_
          refine lv_aload_n hx hb dX5_tryAnswer_134 rfl (lv_at hl 2 rfl) ?_
          refine va_get (D := (dC, dI)) (ci := 5) (v := .ref (aO 8)) (C := RX5) (T := TX5) (N := 19) hx hb hts iwsMX5_tryAnswer_in5 hown hK hP 0 rfl rfl 15 (by decide) (hts _ hm_m_X5_tryAnswer_2) (fun _ h9 => h9) rfl dX5_tryAnswer_135 ?_
          have hFc := allFree hD hS hA
          refine va_callv (va_runV (As := [.ref (aO 8)]) (rest := []) ⟨hx, hb, hml, hown, hts⟩ (m_X5_takeNumbers l dC dI hO aO kO hM hQ hw iO_answered iO_searched iO_searchedRelaxed iO_counted fO_countedCase gO_goalNumber gO_goalScale fO_start fO_column fO_chosen aM kM iM_stands iM_variables iM_rows iM_goals iM_differents iM_cases fM_from fM_to fM_whole fM_ways iM_plainRows fM_plainRow fM_kept fM_goalOver fM_goalUnder fM_goalMax fM_different aQ kQ fQ_inside_x75 fQ_outside_x75 fQ_shut_x75 iQ_rows iQ_allRows iQ_columns nW lw kw wl_x75 wb_x75 wG_x75 (b_iO_answered) (b_iO_searched) (b_iO_searchedRelaxed) (b_iO_counted) b_fO_countedCase b_fO_column b_fO_chosen (b_iM_stands) (b_iM_variables) (b_iM_rows) (b_iM_goals) (b_iM_differents) (b_iM_cases) b_fM_ways (b_iM_plainRows) b_fM_plainRow (by first | with_reducible assumption | omega | assumption) (b_iQ_rows) (b_iQ_allRows) (b_iQ_columns) (by first | with_reducible assumption | omega | assumption) b_wl_x75 b_wb_x75 (by omega) (by first | with_reducible assumption | omega | (rw [iI_t (by omega) (by omega)]; omega) | decide | assumption) H.size) (cwV 1 hts gwsMX5_tryAnswer_2 rfl rfl rfl hd_yX5_takeNumbers_RX5 (by decide +kernel)) (fz_pre (va_recv hK hP (ci := 5) (q0 := 0) rfl rfl) hP hK hD) rfl rfl hl.1 rfl (lv_room (Nat.le_of_ble_eq_true rfl)) dX5_tryAnswer_138 (by decide +kernel)) hS (fun q _ h => hFc q h) hFc (fun u t9_ H locs ht hvm hw9 hB9 hz1 hk1 hS => ?_)
          revert u hw9 hB9
          refine fz_p3 ?_
          intro wl_476 wb_476 wG_476 hw9 hB9
          try dsimp only at hw9 hB9
          revert hw9
          refine fz_a2 ?_
          intro b_wl_476 b_wb_476
          have hP : va_P (dC, dI) vwCl (WO hO aO kO hM hQ hw iO_answered iO_searched iO_searchedRelaxed iO_counted fO_countedCase gO_goalNumber gO_goalScale fO_start fO_column fO_chosen ++ (WM hM aM kM iM_stands iM_variables iM_rows iM_goals iM_differents iM_cases fM_from fM_to fM_whole fM_ways iM_plainRows fM_plainRow fM_kept fM_goalOver fM_goalUnder fM_goalMax fM_different ++ (WQ hQ aQ kQ hw fQ_inside_x75 fQ_outside_x75 fQ_shut_x75 iQ_rows iQ_allRows iQ_columns ++ (WW nW hw lw kw wl_476 wb_476 wG_476)))) H := fz_P ht hB9.1
          have hD := fz_sd hP (hB9.2.weaken (fun _ q _ h => hFc q.1 h)) rfl
          refine lv_iconst (v := 0) hx hb dX5_tryAnswer_141 (by decide) ?_
          refine lv_istore_n hx hb dX5_tryAnswer_142 rfl hl (by decide) rfl (fun ls (hl : lv_has ls _ ([(2, .int 0), (1, .int l1_x4), (0, .ref (hO 0))])) => ?_)
          have hl : lv_has _ _ ([(2, .int 0), (1, .int l1_x4), (0, .ref (hO 0))]) := lv_sub hl [0, 1, 2] rfl
          refine (fun (loop : ∀ (n9 : Nat) (wl_x143 : Nat → Int32) (wb_x143 : Nat → Int32) (wG_x143 : Nat → Nat → Int64) (l2_x143 : Int32) (l1_x143 : Int32) (H : Heap) (locs : List Loc) (ls : Array Slot), (∀ q : Nat, 0 ≤ (wl_x143 q).toInt ∧ (wl_x143 q).toInt ≤ 14) → (∀ q : Nat, 0 ≤ (wb_x143 q).toInt ∧ (wb_x143 q).toInt ≤ 1) → (0 ≤ l2_x143.toInt ∧ l2_x143.toInt ≤ 8) → ((-1) ≤ l1_x143.toInt ∧ l1_x143.toInt ≤ 1) → (8 - l2_x143.toInt < ((n9 : Nat) : Int)) → va_P (dC, dI) vwCl (WO hO aO kO hM hQ hw iO_answered iO_searched iO_searchedRelaxed iO_counted fO_countedCase gO_goalNumber gO_goalScale fO_start fO_column fO_chosen ++ (WM hM aM kM iM_stands iM_variables iM_rows iM_goals iM_differents iM_cases fM_from fM_to fM_whole fM_ways iM_plainRows fM_plainRow fM_kept fM_goalOver fM_goalUnder fM_goalMax fM_different ++ (WQ hQ aQ kQ hw fQ_inside_x75 fQ_outside_x75 fQ_shut_x75 iQ_rows iQ_allRows iQ_columns ++ (WW nW hw lw kw wl_x143 wb_x143 wG_x143)))) H → va_D A (WO hO aO kO hM hQ hw iO_answered iO_searched iO_searchedRelaxed iO_counted fO_countedCase gO_goalNumber gO_goalScale fO_start fO_column fO_chosen ++ (WM hM aM kM iM_stands iM_variables iM_rows iM_goals iM_differents iM_cases fM_from fM_to fM_whole fM_ways iM_plainRows fM_plainRow fM_kept fM_goalOver fM_goalUnder fM_goalMax fM_different ++ (WQ hQ aQ kQ hw fQ_inside_x75 fQ_outside_x75 fQ_shut_x75 iQ_rows iQ_allRows iQ_columns ++ (WW nW hw lw kw wl_x143 wb_x143 wG_x143)))) → va_S A s.heap H locs → lv_has ls 3 [(2, .int l2_x143), (1, .int l1_x143), (0, .ref (hO 0))] → W p l e _ s m _ below meth c H locs 0 0 _ (F0 m 143 ls [])) => loop (9) wl_476 wb_476 wG_476 0 l1_x4 _ _ _ b_wl_476 b_wb_476 (show 0 ≤ (0 : Int32).toInt ∧ (0 : Int32).toInt ≤ 8 from by decide) (b_l1_x4) ((by have e9 : (0 : Int32).toInt = 0 := (by decide : (0 : Int32).toInt = 0); omega)) hP hD hS hl) ?_
          intro n9
          induction n9 with
          | zero => intro wl_x143 wb_x143 wG_x143 l2_x143 l1_x143 H locs ls b_wl_x143 b_wb_x143 b_l2_x143 b_l1_x143 hf9; exact False.elim (by omega)
          | succ n9 ihx143 =>
            intro wl_x143 wb_x143 wG_x143 l2_x143 l1_x143 H locs ls b_wl_x143 b_wb_x143 b_l2_x143 b_l1_x143 hfx143 hP hD hS hl
            refine lv_iload_n hx hb dX5_tryAnswer_143 rfl (lv_at hl 0 rfl) ?_
            refine lv_aload_n hx hb dX5_tryAnswer_144 rfl (lv_at hl 2 rfl) ?_
            refine va_get (D := (dC, dI)) (ci := 5) (v := .ref (hM 0)) (C := RX5) (T := TX5) (N := 19) hx hb hts iwsMX5_tryAnswer_in5 hown hK hP 0 rfl rfl 0 (by decide) (hts _ hm_m_X5_tryAnswer_0) (fun _ h9 => h9) rfl dX5_tryAnswer_145 ?_
            refine va_get (D := (dC, dI)) (ci := 1) (v := .int iM_variables) (C := RX1) (T := TX1) (N := 17) hx hb hts iwsMX5_tryAnswer_in1 hown hK hP 11 rfl rfl 1 (by decide) (hts _ hm_m_X5_tryAnswer_1) (fun _ h9 => h9) rfl dX5_tryAnswer_148 ?_
            refine W.cut (pc := 188) (fun H locs ls stk =>  stk = [] ∧ va_P (dC, dI) vwCl (WO hO aO kO hM hQ hw iO_answered iO_searched iO_searchedRelaxed iO_counted fO_countedCase gO_goalNumber gO_goalScale fO_start fO_column fO_chosen ++ (WM hM aM kM iM_stands iM_variables iM_rows iM_goals iM_differents iM_cases fM_from fM_to fM_whole fM_ways iM_plainRows fM_plainRow fM_kept fM_goalOver fM_goalUnder fM_goalMax fM_different ++ (WQ hQ aQ kQ hw fQ_inside_x75 fQ_outside_x75 fQ_shut_x75 iQ_rows iQ_allRows iQ_columns ++ (WW nW hw lw kw wl_x143 wb_x143 wG_x143)))) H ∧ va_D A (WO hO aO kO hM hQ hw iO_answered iO_searched iO_searchedRelaxed iO_counted fO_countedCase gO_goalNumber gO_goalScale fO_start fO_column fO_chosen ++ (WM hM aM kM iM_stands iM_variables iM_rows iM_goals iM_differents iM_cases fM_from fM_to fM_whole fM_ways iM_plainRows fM_plainRow fM_kept fM_goalOver fM_goalUnder fM_goalMax fM_different ++ (WQ hQ aQ kQ hw fQ_inside_x75 fQ_outside_x75 fQ_shut_x75 iQ_rows iQ_allRows iQ_columns ++ (WW nW hw lw kw wl_x143 wb_x143 wG_x143)))) ∧ va_S A s.heap H locs ∧ lv_has ls 3 [(2, .int l2_x143), (1, .int l1_x143), (0, .ref (hO 0))]) (fun join142 => ?_) ?_
            · refine lv_icmp_ge (tgt := 188) hx hb dX5_tryAnswer_151 (by decide) (fun c_151 => ?_) (fun c_151 => ?_)
              · have t_151 : l2_x143.toInt ≥ iM_variables.toInt := toI_ge c_151 rfl rfl
                have hl : lv_has _ _ ([(2, .int l2_x143), (1, .int l1_x143), (0, .ref (hO 0))]) := lv_sub hl [0, 1, 2] rfl
                exact join142 _ _ _ _ ⟨rfl, hP, hD, hS, hl⟩
              · have t_151 : ¬ l2_x143.toInt ≥ iM_variables.toInt := toI_nge c_151 rfl rfl
                refine lv_aload_n hx hb dX5_tryAnswer_154 rfl (lv_at hl 2 rfl) ?_
                refine va_get (D := (dC, dI)) (ci := 5) (v := .int iO_answered) (C := RX5) (T := TX5) (N := 19) hx hb hts iwsMX5_tryAnswer_in5 hown hK hP 0 rfl rfl 2 (by decide) (hts _ hm_m_X5_tryAnswer_3) (fun _ h9 => h9) rfl dX5_tryAnswer_155 ?_
                refine lv_if_eq (tgt := 188) hx hb dX5_tryAnswer_158 (by decide) (fun c_158 => ?_) (fun c_158 => ?_)
                · have t_158 : iO_answered.toInt = 0 := toI_eq c_158 rfl (by decide : (0 : Int32).toInt = 0)
                  have hl : lv_has _ _ ([(2, .int l2_x143), (1, .int l1_x143), (0, .ref (hO 0))]) := lv_sub hl [0, 1, 2] rfl
                  exact join142 _ _ _ _ ⟨rfl, hP, hD, hS, hl⟩
                · have t_158 : ¬ iO_answered.toInt = 0 := toI_neq c_158 rfl (by decide : (0 : Int32).toInt = 0)
                  refine lv_iload_n hx hb dX5_tryAnswer_161 rfl (lv_at hl 1 rfl) ?_
                  refine lv_if_ne (tgt := 188) hx hb dX5_tryAnswer_162 (by decide) (fun c_162 => ?_) (fun c_162 => ?_)
                  · have t_162 : l1_x143.toInt ≠ 0 := toI_ne c_162 rfl (by decide : (0 : Int32).toInt = 0)
                    have hl : lv_has _ _ ([(2, .int l2_x143), (1, .int l1_x143), (0, .ref (hO 0))]) := lv_sub hl [0, 1, 2] rfl
                    exact join142 _ _ _ _ ⟨rfl, hP, hD, hS, hl⟩
                  · have t_162 : l1_x143.toInt = 0 := toI_nne c_162 rfl (by decide : (0 : Int32).toInt = 0)
                    refine lv_aload_n hx hb dX5_tryAnswer_165 rfl (lv_at hl 2 rfl) ?_
                    refine lv_aload_n hx hb dX5_tryAnswer_166 rfl (lv_at hl 2 rfl) ?_
                    refine va_get (D := (dC, dI)) (ci := 5) (v := .ref (aO 8)) (C := RX5) (T := TX5) (N := 19) hx hb hts iwsMX5_tryAnswer_in5 hown hK hP 0 rfl rfl 15 (by decide) (hts _ hm_m_X5_tryAnswer_2) (fun _ h9 => h9) rfl dX5_tryAnswer_167 ?_
                    refine lv_iload_n hx hb dX5_tryAnswer_170 rfl (lv_at hl 0 rfl) ?_
                    refine va_aldq (cA := kO 8) (n := 8) (f := fun q => some (hw (418 + q))) hx hb hK hP 9 8 rfl rfl (vp_in_iff.mpr ⟨b_l2_x143.1, (Int.lt_of_lt_of_le (Int.not_le.mp t_151) (Int.le_trans b_iM_variables.2 (by decide)))⟩) dX5_tryAnswer_171 ?_
                    obtain ⟨k500, hk500, b_k500⟩ : ∃ k9 : Nat, k9 = 418 + (l2_x143).toNatClampNeg ∧ (418 ≤ k9 ∧ k9 < 426 ∧ (k9 : Int) = 418 + l2_x143.toInt) := ⟨_, rfl, ald_k (x := (l2_x143)) (o := 418) (n := 8) rfl (by omega) (by omega)⟩
                    refine W.eq (g2 := F0 m 172 ls [.ref (hw k500), .ref (hO 0)]) (by rw [hk500]; rfl) ?_
                    clear hk500
                    refine lv_aload_n hx hb dX5_tryAnswer_172 rfl (lv_at hl 2 rfl) ?_
                    refine va_get (D := (dC, dI)) (ci := 5) (v := .ref (aO 6)) (C := RX5) (T := TX5) (N := 19) hx hb hts iwsMX5_tryAnswer_in5 hown hK hP 0 rfl rfl 12 (by decide) (hts (.fieldLink RX5 48 "OptimaWorks$Solver" "answer" "[LOptimaWorks$Whole;") (by decide +kernel)) (fun _ h9 => h9) rfl dX5_tryAnswer_173 ?_
                    refine lv_iload_n hx hb dX5_tryAnswer_176 rfl (lv_at hl 0 rfl) ?_
                    refine va_aldq (cA := kO 6) (n := 8) (f := fun q => some (hw (406 + q))) hx hb hK hP 7 6 rfl rfl (vp_in_iff.mpr ⟨b_l2_x143.1, (Int.lt_of_lt_of_le (Int.not_le.mp t_151) (Int.le_trans b_iM_variables.2 (by decide)))⟩) dX5_tryAnswer_177 ?_
                    obtain ⟨k501, hk501, b_k501⟩ : ∃ k9 : Nat, k9 = 406 + (l2_x143).toNatClampNeg ∧ (406 ≤ k9 ∧ k9 < 414 ∧ (k9 : Int) = 406 + l2_x143.toInt) := ⟨_, rfl, ald_k (x := (l2_x143)) (o := 406) (n := 8) rfl (by omega) (by omega)⟩
                    refine W.eq (g2 := F0 m 178 ls [.ref (hw k501), .ref (hw k500), .ref (hO 0)]) (by rw [hk501]; rfl) ?_
                    clear hk501
                    have hFc := allFree hD hS hA
                    refine va_calli (va_runV (As := [.ref (hw k500), .ref (hw k501)]) (rest := []) ⟨hx, hb, hml, hown, hts⟩ (m_X5_compare l dC dI hO aO kO hM hQ hw iO_answered iO_searched iO_searchedRelaxed iO_counted fO_countedCase gO_goalNumber gO_goalScale fO_start fO_column fO_chosen aM kM iM_stands iM_variables iM_rows iM_goals iM_differents iM_cases fM_from fM_to fM_whole fM_ways iM_plainRows fM_plainRow fM_kept fM_goalOver fM_goalUnder fM_goalMax fM_different aQ kQ fQ_inside_x75 fQ_outside_x75 fQ_shut_x75 iQ_rows iQ_allRows iQ_columns nW lw kw wl_x143 wb_x143 wG_x143 k500 k501 (b_iO_answered) (b_iO_searched) (b_iO_searchedRelaxed) (b_iO_counted) b_fO_countedCase b_fO_column b_fO_chosen (b_iM_stands) (b_iM_variables) (b_iM_rows) (b_iM_goals) (b_iM_differents) (b_iM_cases) b_fM_ways (b_iM_plainRows) b_fM_plainRow (by first | with_reducible assumption | omega | assumption) (b_iQ_rows) (b_iQ_allRows) (b_iQ_columns) (by first | with_reducible assumption | omega | assumption) b_wl_x143 b_wb_x143 (by omega) (by first | with_reducible assumption | omega | (rw [iI_t (by omega) (by omega)]; omega) | decide | assumption) (by first | with_reducible assumption | omega | (rw [iI_t (by omega) (by omega)]; omega) | decide | assumption) H.size) (cwV 2 hts gwsMX5_tryAnswer_3 rfl rfl rfl hd_yX5_compare_RX5 (by decide +kernel)) (fz_pre (va_recv hK hP (ci := 5) (q0 := 0) rfl rfl) hP hK hD) rfl rfl hl.1 rfl (lv_room (Nat.le_of_ble_eq_true rfl)) dX5_tryAnswer_178 (by decide +kernel)) hS (fun q _ h => hFc q h) hFc (fun r502 u t9_ H locs ht hvm hw9 hB9 hz1 hk1 hS => ?_)
                    revert u hw9 hB9
                    refine fz_p3 ?_
                    intro wl_502 wb_502 wG_502 hw9 hB9
                    try dsimp only at hw9 hB9
                    revert hw9
                    refine fz_a3 ?_
                    intro b_wl_502 b_wb_502 b_r502
                    have hP : va_P (dC, dI) vwCl (WO hO aO kO hM hQ hw iO_answered iO_searched iO_searchedRelaxed iO_counted fO_countedCase gO_goalNumber gO_goalScale fO_start fO_column fO_chosen ++ (WM hM aM kM iM_stands iM_variables iM_rows iM_goals iM_differents iM_cases fM_from fM_to fM_whole fM_ways iM_plainRows fM_plainRow fM_kept fM_goalOver fM_goalUnder fM_goalMax fM_different ++ (WQ hQ aQ kQ hw fQ_inside_x75 fQ_outside_x75 fQ_shut_x75 iQ_rows iQ_allRows iQ_columns ++ (WW nW hw lw kw wl_502 wb_502 wG_502)))) H := fz_P ht hB9.1
                    have hD := fz_sd hP (hB9.2.weaken (fun _ q _ h => hFc q.1 h)) rfl
                    refine lv_istore_n hx hb dX5_tryAnswer_181 rfl hl (by decide) rfl (fun ls (hl : lv_has ls _ ([(1, .int r502), (2, .int l2_x143), (0, .ref (hO 0))])) => ?_)
                    refine lv_iinc (v := (iI (l2_x143.toInt + 1))) hx hb dX5_tryAnswer_182 hl (k := 1) rfl (iI_add2 (iI_of _) (by decide : (1 : Int32) = iI 1)) (by decide) rfl (fun ls (hl : lv_has ls _ ([(2, .int (iI (l2_x143.toInt + 1))), (1, .int r502), (0, .ref (hO 0))])) => ?_)
                    refine lv_goto (tgt := 143) hx hb dX5_tryAnswer_185 (by decide) ?_
                    have hl : lv_has _ _ ([(2, .int (iI (l2_x143.toInt + 1))), (1, .int r502), (0, .ref (hO 0))]) := lv_sub hl [0, 1, 2] rfl
                    exact ihx143 wl_502 wb_502 wG_502 (iI (l2_x143.toInt + 1)) r502 _ _ _ b_wl_502 b_wb_502 (iI_rng (Int.le_trans (by decide) (Int.add_le_add (b_l2_x143.1) (Int.le_refl _))) (by omega) (by decide) (by decide)) (by first | exact b_r502 | with_reducible assumption | exact ⟨by omega, by omega⟩ | assumption) (by have e9 : ((iI (l2_x143.toInt + 1))).toInt = (l2_x143.toInt + 1) := (iI_t (Int.le_trans (by decide) (Int.add_le_add (b_l2_x143.1) (Int.le_refl _))) (Int.le_trans (Int.add_le_add (b_l2_x143.2) (Int.le_refl _)) (by decide))); omega) hP hD hS hl
            · rintro H locs ls stk ⟨rfl, hP, hD, hS, hl⟩
              refine lv_aload_n hx hb dX5_tryAnswer_188 rfl (lv_at hl 2 rfl) ?_
              refine va_get (D := (dC, dI)) (ci := 5) (v := .int iO_answered) (C := RX5) (T := TX5) (N := 19) hx hb hts iwsMX5_tryAnswer_in5 hown hK hP 0 rfl rfl 2 (by decide) (hts _ hm_m_X5_tryAnswer_3) (fun _ h9 => h9) rfl dX5_tryAnswer_189 ?_
              refine W.cut (pc := 203) (fun H locs ls stk => ∃ (iO_answered_j143 : Int32) (wl_j143 : Nat → Int32) (wb_j143 : Nat → Int32) (wG_j143 : Nat → Nat → Int64), (0 ≤ iO_answered_j143.toInt ∧ iO_answered_j143.toInt ≤ 1) ∧ (∀ q : Nat, 0 ≤ (wl_j143 q).toInt ∧ (wl_j143 q).toInt ≤ 14) ∧ (∀ q : Nat, 0 ≤ (wb_j143 q).toInt ∧ (wb_j143 q).toInt ≤ 1) ∧  stk = [] ∧ va_P (dC, dI) vwCl (WO hO aO kO hM hQ hw iO_answered_j143 iO_searched iO_searchedRelaxed iO_counted fO_countedCase gO_goalNumber gO_goalScale fO_start fO_column fO_chosen ++ (WM hM aM kM iM_stands iM_variables iM_rows iM_goals iM_differents iM_cases fM_from fM_to fM_whole fM_ways iM_plainRows fM_plainRow fM_kept fM_goalOver fM_goalUnder fM_goalMax fM_different ++ (WQ hQ aQ kQ hw fQ_inside_x75 fQ_outside_x75 fQ_shut_x75 iQ_rows iQ_allRows iQ_columns ++ (WW nW hw lw kw wl_j143 wb_j143 wG_j143)))) H ∧ va_D A (WO hO aO kO hM hQ hw iO_answered_j143 iO_searched iO_searchedRelaxed iO_counted fO_countedCase gO_goalNumber gO_goalScale fO_start fO_column fO_chosen ++ (WM hM aM kM iM_stands iM_variables iM_rows iM_goals iM_differents iM_cases fM_from fM_to fM_whole fM_ways iM_plainRows fM_plainRow fM_kept fM_goalOver fM_goalUnder fM_goalMax fM_different ++ (WQ hQ aQ kQ hw fQ_inside_x75 fQ_outside_x75 fQ_shut_x75 iQ_rows iQ_allRows iQ_columns ++ (WW nW hw lw kw wl_j143 wb_j143 wG_j143)))) ∧ va_S A s.heap H locs ∧ lv_has ls 3 [(2, .int l2_x143), (1, .int l1_x143), (0, .ref (hO 0))]) (fun join143 => ?_) ?_
              · refine lv_if_eq (tgt := 199) hx hb dX5_tryAnswer_192 (by decide) (fun c_192 => ?_) (fun c_192 => ?_)
                · have t_192 : iO_answered.toInt = 0 := toI_eq c_192 rfl (by decide : (0 : Int32).toInt = 0)
                  refine lv_aload_n hx hb dX5_tryAnswer_199 rfl (lv_at hl 2 rfl) ?_
                  have hFc := allFree hD hS hA
                  refine va_callv (va_runV (As := []) (rest := []) ⟨hx, hb, hml, hown, hts⟩ (m_X5_keepAnswer l dC dI hO aO kO hM hQ hw iO_answered iO_searched iO_searchedRelaxed iO_counted fO_countedCase gO_goalNumber gO_goalScale fO_start fO_column fO_chosen aM kM iM_stands iM_variables iM_rows iM_goals iM_differents iM_cases fM_from fM_to fM_whole fM_ways iM_plainRows fM_plainRow fM_kept fM_goalOver fM_goalUnder fM_goalMax fM_different aQ kQ fQ_inside_x75 fQ_outside_x75 fQ_shut_x75 iQ_rows iQ_allRows iQ_columns nW lw kw wl_x143 wb_x143 wG_x143 (b_iO_answered) (b_iO_searched) (b_iO_searchedRelaxed) (b_iO_counted) b_fO_countedCase b_fO_column b_fO_chosen (b_iM_stands) (b_iM_variables) (b_iM_rows) (b_iM_goals) (b_iM_differents) (b_iM_cases) b_fM_ways (b_iM_plainRows) b_fM_plainRow (by first | with_reducible assumption | omega | assumption) (b_iQ_rows) (b_iQ_allRows) (b_iQ_columns) (by first | with_reducible assumption | omega | assumption) b_wl_x143 b_wb_x143 (by omega) (by first | with_reducible assumption | omega | (rw [iI_t (by omega) (by omega)]; omega) | decide | assumption) (by first | with_reducible assumption | omega | (rw [iI_t (by omega) (by omega)]; omega) | decide | assumption) H.size) (cwV 0 hts gwsMX5_tryAnswer_4 rfl rfl rfl hd_yX5_keepAnswer_RX5 (by decide +kernel)) (fz_pre (va_recv hK hP (ci := 5) (q0 := 0) rfl rfl) hP hK hD) rfl rfl hl.1 rfl (lv_room (Nat.le_of_ble_eq_true rfl)) dX5_tryAnswer_200 (by decide +kernel)) hS (fun q _ h => hFc q h) hFc (fun u t9_ H locs ht hvm hw9 hB9 hz1 hk1 hS => ?_)
                  revert u hw9 hB9
                  refine fz_p4 ?_
                  intro iO_answered_505 wl_505 wb_505 wG_505 hw9 hB9
                  try dsimp only at hw9 hB9
                  revert hw9
                  refine fz_a3 ?_
                  intro b_iO_answered_505 b_wl_505 b_wb_505
                  have hP : va_P (dC, dI) vwCl (WO hO aO kO hM hQ hw iO_answered_505 iO_searched iO_searchedRelaxed iO_counted fO_countedCase gO_goalNumber gO_goalScale fO_start fO_column fO_chosen ++ (WM hM aM kM iM_stands iM_variables iM_rows iM_goals iM_differents iM_cases fM_from fM_to fM_whole fM_ways iM_plainRows fM_plainRow fM_kept fM_goalOver fM_goalUnder fM_goalMax fM_different ++ (WQ hQ aQ kQ hw fQ_inside_x75 fQ_outside_x75 fQ_shut_x75 iQ_rows iQ_allRows iQ_columns ++ (WW nW hw lw kw wl_505 wb_505 wG_505)))) H := fz_P ht hB9.1
                  have hD := fz_sd hP (hB9.2.weaken (fun _ q _ h => hFc q.1 h)) rfl
                  have hl : lv_has _ _ ([(2, .int l2_x143), (1, .int l1_x143), (0, .ref (hO 0))]) := lv_sub hl [0, 1, 2] rfl
                  exact join143 _ _ _ _ ⟨iO_answered_505, wl_505, wb_505, wG_505, (b_iO_answered_505), b_wl_505, b_wb_505, rfl, hP, hD, hS, hl⟩
                · have t_192 : ¬ iO_answered.toInt = 0 := toI_neq c_192 rfl (by decide : (0 : Int32).toInt = 0)
                  refine lv_iload_n hx hb dX5_tryAnswer_195 rfl (lv_at hl 1 rfl) ?_
                  refine lv_if_ge (tgt := 203) hx hb dX5_tryAnswer_196 (by decide) (fun c_196 => ?_) (fun c_196 => ?_)
                  · have t_196 : l1_x143.toInt ≥ 0 := toI_ge c_196 rfl (by decide : (0 : Int32).toInt = 0)
                    have hl : lv_has _ _ ([(2, .int l2_x143), (1, .int l1_x143), (0, .ref (hO 0))]) := lv_sub hl [0, 1, 2] rfl
                    exact join143 _ _ _ _ ⟨iO_answered, wl_x143, wb_x143, wG_x143, (b_iO_answered), b_wl_x143, b_wb_x143, rfl, hP, hD, hS, hl⟩
                  · have t_196 : ¬ l1_x143.toInt ≥ 0 := toI_nge c_196 rfl (by decide : (0 : Int32).toInt = 0)
                    refine lv_aload_n hx hb dX5_tryAnswer_199 rfl (lv_at hl 2 rfl) ?_
                    have hFc := allFree hD hS hA
                    refine va_callv (va_runV (As := []) (rest := []) ⟨hx, hb, hml, hown, hts⟩ (m_X5_keepAnswer l dC dI hO aO kO hM hQ hw iO_answered iO_searched iO_searchedRelaxed iO_counted fO_countedCase gO_goalNumber gO_goalScale fO_start fO_column fO_chosen aM kM iM_stands iM_variables iM_rows iM_goals iM_differents iM_cases fM_from fM_to fM_whole fM_ways iM_plainRows fM_plainRow fM_kept fM_goalOver fM_goalUnder fM_goalMax fM_different aQ kQ fQ_inside_x75 fQ_outside_x75 fQ_shut_x75 iQ_rows iQ_allRows iQ_columns nW lw kw wl_x143 wb_x143 wG_x143 (b_iO_answered) (b_iO_searched) (b_iO_searchedRelaxed) (b_iO_counted) b_fO_countedCase b_fO_column b_fO_chosen (b_iM_stands) (b_iM_variables) (b_iM_rows) (b_iM_goals) (b_iM_differents) (b_iM_cases) b_fM_ways (b_iM_plainRows) b_fM_plainRow (by first | with_reducible assumption | omega | assumption) (b_iQ_rows) (b_iQ_allRows) (b_iQ_columns) (by first | with_reducible assumption | omega | assumption) b_wl_x143 b_wb_x143 (by omega) (by first | with_reducible assumption | omega | (rw [iI_t (by omega) (by omega)]; omega) | decide | assumption) (by first | with_reducible assumption | omega | (rw [iI_t (by omega) (by omega)]; omega) | decide | assumption) H.size) (cwV 0 hts gwsMX5_tryAnswer_4 rfl rfl rfl hd_yX5_keepAnswer_RX5 (by decide +kernel)) (fz_pre (va_recv hK hP (ci := 5) (q0 := 0) rfl rfl) hP hK hD) rfl rfl hl.1 rfl (lv_room (Nat.le_of_ble_eq_true rfl)) dX5_tryAnswer_200 (by decide +kernel)) hS (fun q _ h => hFc q h) hFc (fun u t9_ H locs ht hvm hw9 hB9 hz1 hk1 hS => ?_)
                    revert u hw9 hB9
                    refine fz_p4 ?_
                    intro iO_answered_506 wl_506 wb_506 wG_506 hw9 hB9
                    try dsimp only at hw9 hB9
                    revert hw9
                    refine fz_a3 ?_
                    intro b_iO_answered_506 b_wl_506 b_wb_506
                    have hP : va_P (dC, dI) vwCl (WO hO aO kO hM hQ hw iO_answered_506 iO_searched iO_searchedRelaxed iO_counted fO_countedCase gO_goalNumber gO_goalScale fO_start fO_column fO_chosen ++ (WM hM aM kM iM_stands iM_variables iM_rows iM_goals iM_differents iM_cases fM_from fM_to fM_whole fM_ways iM_plainRows fM_plainRow fM_kept fM_goalOver fM_goalUnder fM_goalMax fM_different ++ (WQ hQ aQ kQ hw fQ_inside_x75 fQ_outside_x75 fQ_shut_x75 iQ_rows iQ_allRows iQ_columns ++ (WW nW hw lw kw wl_506 wb_506 wG_506)))) H := fz_P ht hB9.1
                    have hD := fz_sd hP (hB9.2.weaken (fun _ q _ h => hFc q.1 h)) rfl
                    have hl : lv_has _ _ ([(2, .int l2_x143), (1, .int l1_x143), (0, .ref (hO 0))]) := lv_sub hl [0, 1, 2] rfl
                    exact join143 _ _ _ _ ⟨iO_answered_506, wl_506, wb_506, wG_506, (b_iO_answered_506), b_wl_506, b_wb_506, rfl, hP, hD, hS, hl⟩
              · intro H locs ls stk
                refine fz_e4 ?_
                intro iO_answered_j143 wl_j143 wb_j143 wG_j143
                refine fz_a8 ?_
                intro b_iO_answered_j143 b_wl_j143 b_wb_j143 hst9_3 hP hD hS hl
                subst hst9_3
                refine W.widen (k := 0) (n := 0) (by decide +kernel) (by decide +kernel) ?_
                exact W.vret hx hb hr (fun t9_ ht hW => ⟨⟨(iO_answered_j143, fQ_inside_x75, fQ_outside_x75, fQ_shut_x75, wl_j143, wb_j143, wG_j143), rfl, ⟨b_iO_answered_j143, b_wl_j143, b_wb_j143⟩, by rw [ht]; exact hP, hD⟩, hS.F ht⟩) hS.2.2 dX5_tryAnswer_203
        · have t_83 : ¬ l2_x75.toInt ≥ iM_variables.toInt := toI_nge c_83 rfl rfl
          refine lv_aload_n hx hb dX5_tryAnswer_86 rfl (lv_at hl 2 rfl) ?_
          refine va_get (D := (dC, dI)) (ci := 5) (v := .ref (aO 4)) (C := RX5) (T := TX5) (N := 19) hx hb hts iwsMX5_tryAnswer_in5 hown hK hP 0 rfl rfl 10 (by decide) (hts _ hm_m_X5_tryAnswer_4) (fun _ h9 => h9) rfl dX5_tryAnswer_87 ?_
          refine lv_iload_n hx hb dX5_tryAnswer_90 rfl (lv_at hl 0 rfl) ?_
          refine va_iald (cA := kO 4) (n := 8) (f := fO_column) hx hb hK hP 5 4 rfl rfl (vp_in_iff.mpr ⟨b_l2_x75.1, (Int.lt_of_lt_of_le (Int.not_le.mp t_83) (Int.le_trans b_iM_variables.2 (by decide)))⟩) dX5_tryAnswer_91 ?_
          refine lv_topi (fun v507 hv507 => ?_)
          have b_v507 : (-1) ≤ v507.toInt ∧ v507.toInt ≤ 8 := by rw [hv507]; exact b_fO_column _
          clear hv507
          refine lv_iconst (v := (-1)) hx hb dX5_tryAnswer_92 (by decide) ?_
          refine W.cut (pc := 127) (fun H locs ls stk => ∃ (fQ_inside_j144 : Nat → Int32) (fQ_outside_j144 : Nat → Int32) (fQ_shut_j144 : Nat → Int32) (wl_j144 : Nat → Int32) (wb_j144 : Nat → Int32) (wG_j144 : Nat → Nat → Int64), (∀ q : Nat, 0 ≤ (wl_j144 q).toInt ∧ (wl_j144 q).toInt ≤ 14) ∧ (∀ q : Nat, 0 ≤ (wb_j144 q).toInt ∧ (wb_j144 q).toInt ≤ 1) ∧  stk = [] ∧ va_P (dC, dI) vwCl (WO hO aO kO hM hQ hw iO_answered iO_searched iO_searchedRelaxed iO_counted fO_countedCase gO_goalNumber gO_goalScale fO_start fO_column fO_chosen ++ (WM hM aM kM iM_stands iM_variables iM_rows iM_goals iM_differents iM_cases fM_from fM_to fM_whole fM_ways iM_plainRows fM_plainRow fM_kept fM_goalOver fM_goalUnder fM_goalMax fM_different ++ (WQ hQ aQ kQ hw fQ_inside_j144 fQ_outside_j144 fQ_shut_j144 iQ_rows iQ_allRows iQ_columns ++ (WW nW hw lw kw wl_j144 wb_j144 wG_j144)))) H ∧ va_D A (WO hO aO kO hM hQ hw iO_answered iO_searched iO_searchedRelaxed iO_counted fO_countedCase gO_goalNumber gO_goalScale fO_start fO_column fO_chosen ++ (WM hM aM kM iM_stands iM_variables iM_rows iM_goals iM_differents iM_cases fM_from fM_to fM_whole fM_ways iM_plainRows fM_plainRow fM_kept fM_goalOver fM_goalUnder fM_goalMax fM_different ++ (WQ hQ aQ kQ hw fQ_inside_j144 fQ_outside_j144 fQ_shut_j144 iQ_rows iQ_allRows iQ_columns ++ (WW nW hw lw kw wl_j144 wb_j144 wG_j144)))) ∧ va_S A s.heap H locs ∧ lv_has ls 3 [(2, .int l2_x75), (1, .int l1_x4), (0, .ref (hO 0))]) (fun join144 => ?_) ?_
          · refine lv_icmp_eq (tgt := 127) hx hb dX5_tryAnswer_93 (by decide) (fun c_93 => ?_) (fun c_93 => ?_)
            · have t_93 : v507.toInt = (-1) := toI_eq c_93 rfl (by decide : ((-1) : Int32).toInt = (-1))
              have hl : lv_has _ _ ([(2, .int l2_x75), (1, .int l1_x4), (0, .ref (hO 0))]) := lv_sub hl [0, 1, 2] rfl
              exact join144 _ _ _ _ ⟨fQ_inside_x75, fQ_outside_x75, fQ_shut_x75, wl_x75, wb_x75, wG_x75, b_wl_x75, b_wb_x75, rfl, hP, hD, hS, hl⟩
            · have t_93 : ¬ v507.toInt = (-1) := toI_neq c_93 rfl (by decide : ((-1) : Int32).toInt = (-1))
              refine lv_aload_n hx hb dX5_tryAnswer_96 rfl (lv_at hl 2 rfl) ?_
              refine va_get (D := (dC, dI)) (ci := 5) (v := .ref (hQ 0)) (C := RX5) (T := TX5) (N := 19) hx hb hts iwsMX5_tryAnswer_in5 hown hK hP 0 rfl rfl 1 (by decide) (hts _ hm_m_X5_tryAnswer_5) (fun _ h9 => h9) rfl dX5_tryAnswer_97 ?_
              refine lv_aload_n hx hb dX5_tryAnswer_100 rfl (lv_at hl 2 rfl) ?_
              refine va_get (D := (dC, dI)) (ci := 5) (v := .ref (aO 4)) (C := RX5) (T := TX5) (N := 19) hx hb hts iwsMX5_tryAnswer_in5 hown hK hP 0 rfl rfl 10 (by decide) (hts _ hm_m_X5_tryAnswer_4) (fun _ h9 => h9) rfl dX5_tryAnswer_101 ?_
              refine lv_iload_n hx hb dX5_tryAnswer_104 rfl (lv_at hl 0 rfl) ?_
              refine va_iald (cA := kO 4) (n := 8) (f := fO_column) hx hb hK hP 5 4 rfl rfl (vp_in_iff.mpr ⟨b_l2_x75.1, (by omega)⟩) dX5_tryAnswer_105 ?_
              refine lv_topi (fun v514 hv514 => ?_)
              have b_v514 : (-1) ≤ v514.toInt ∧ v514.toInt ≤ 8 := by rw [hv514]; exact b_fO_column _
              clear hv514
              refine lv_iconst (v := 1) hx hb dX5_tryAnswer_106 (by decide) ?_
              refine lv_isub hx hb dX5_tryAnswer_107 ?_
              refine lv_topi (fun y515 hy515 => ?_)
              obtain rfl : (iI (v514.toInt - 1)) = y515 := (hy515.trans (iI_sub2 (iI_of _) (by decide : (1 : Int32) = iI 1))).symm
              have p9 := cj_4_2_3 (WO hO aO kO hM hQ hw iO_answered iO_searched iO_searchedRelaxed iO_counted fO_countedCase gO_goalNumber gO_goalScale fO_start fO_column fO_chosen) (WM hM aM kM iM_stands iM_variables iM_rows iM_goals iM_differents iM_cases fM_from fM_to fM_whole fM_ways iM_plainRows fM_plainRow fM_kept fM_goalOver fM_goalUnder fM_goalMax fM_different) (WQ hQ aQ kQ hw fQ_inside_x75 fQ_outside_x75 fQ_shut_x75 iQ_rows iQ_allRows iQ_columns) (WW nW hw lw kw wl_x75 wb_x75 wG_x75)
              have hPc := hP.mem (fun q h => p9.mem_iff.mpr (List.mem_append_left _ h))
              have hDc := (hD.perm p9).left
              have hKc : va_K (dC, dI) vwCl (tQ kQ ++ (tW kw)) _ := hK.sub [20, 21, 22, 23, 24] rfl
              have hFc := freeG p9 hD hS hA
              refine va_calli (va_runV (As := [.int (iI (v514.toInt - 1))]) (rest := []) ⟨hx, hb, hml, hown, hts⟩ (m_X6_sink l dC dI hQ aQ kQ hw fQ_inside_x75 fQ_outside_x75 fQ_shut_x75 iQ_rows iQ_allRows iQ_columns nW lw kw wl_x75 wb_x75 wG_x75 (iI (v514.toInt - 1)) (b_iQ_rows) (b_iQ_allRows) (b_iQ_columns) (by first | with_reducible assumption | omega | assumption) b_wl_x75 b_wb_x75 (by omega) H.size) (cwV 1 hts gwsMX5_tryAnswer_0 rfl rfl rfl hd_yX6_sink_RX6 (by decide +kernel)) (fz_pre (va_recv hK hP (ci := 6) (q0 := 22) rfl rfl) hPc hKc hDc) rfl rfl hl.1 rfl (lv_room (Nat.le_of_ble_eq_true rfl)) dX5_tryAnswer_108 (by decide +kernel)) hS (fun q _ h => hFc q h) hFc (fun r516 u t9_ H locs ht hvm hw9 hB9 hz1 hk1 hS => ?_)
              revert u hw9 hB9
              refine fz_p5 ?_
              intro fQ_inside_516 fQ_outside_516 wl_516 wb_516 wG_516 hw9 hB9
              try dsimp only at hw9 hB9
              revert hw9
              refine fz_a3 ?_
              intro b_wl_516 b_wb_516 b_r516
              have p8 := cj_4_2_3 (WO hO aO kO hM hQ hw iO_answered iO_searched iO_searchedRelaxed iO_counted fO_countedCase gO_goalNumber gO_goalScale fO_start fO_column fO_chosen) (WM hM aM kM iM_stands iM_variables iM_rows iM_goals iM_differents iM_cases fM_from fM_to fM_whole fM_ways iM_plainRows fM_plainRow fM_kept fM_goalOver fM_goalUnder fM_goalMax fM_different) (WQ hQ aQ kQ hw fQ_inside_516 fQ_outside_516 fQ_shut_x75 iQ_rows iQ_allRows iQ_columns) (WW nW hw lw kw wl_516 wb_516 wG_516)
              obtain ⟨hP, hD⟩ := frameG p9 p8 hP hD hk1 hFc (fz_P ht hB9.1) hB9.2
              refine lv_pop hx hb dX5_tryAnswer_111 rfl ?_
              refine lv_aload_n hx hb dX5_tryAnswer_112 rfl (lv_at hl 2 rfl) ?_
              refine va_get (D := (dC, dI)) (ci := 5) (v := .ref (hQ 0)) (C := RX5) (T := TX5) (N := 19) hx hb hts iwsMX5_tryAnswer_in5 hown hK hP 0 rfl rfl 1 (by decide) (hts _ hm_m_X5_tryAnswer_5) (fun _ h9 => h9) rfl dX5_tryAnswer_113 ?_
              refine lv_aload_n hx hb dX5_tryAnswer_116 rfl (lv_at hl 2 rfl) ?_
              refine va_get (D := (dC, dI)) (ci := 5) (v := .ref (aO 4)) (C := RX5) (T := TX5) (N := 19) hx hb hts iwsMX5_tryAnswer_in5 hown hK hP 0 rfl rfl 10 (by decide) (hts _ hm_m_X5_tryAnswer_4) (fun _ h9 => h9) rfl dX5_tryAnswer_117 ?_
              refine lv_iload_n hx hb dX5_tryAnswer_120 rfl (lv_at hl 0 rfl) ?_
              refine va_iald (cA := kO 4) (n := 8) (f := fO_column) hx hb hK hP 5 4 rfl rfl (vp_in_iff.mpr ⟨b_l2_x75.1, (by omega)⟩) dX5_tryAnswer_121 ?_
              refine lv_topi (fun v517 hv517 => ?_)
              have b_v517 : (-1) ≤ v517.toInt ∧ v517.toInt ≤ 8 := by rw [hv517]; exact b_fO_column _
              clear hv517
              refine lv_iconst (v := 1) hx hb dX5_tryAnswer_122 (by decide) ?_
              refine lv_isub hx hb dX5_tryAnswer_123 ?_
              refine lv_topi (fun y518 hy518 => ?_)
              obtain rfl : (iI (v517.toInt - 1)) = y518 := (hy518.trans (iI_sub2 (iI_of _) (by decide : (1 : Int32) = iI 1))).symm
              have p9 := cj_4_2_3 (WO hO aO kO hM hQ hw iO_answered iO_searched iO_searchedRelaxed iO_counted fO_countedCase gO_goalNumber gO_goalScale fO_start fO_column fO_chosen) (WM hM aM kM iM_stands iM_variables iM_rows iM_goals iM_differents iM_cases fM_from fM_to fM_whole fM_ways iM_plainRows fM_plainRow fM_kept fM_goalOver fM_goalUnder fM_goalMax fM_different) (WQ hQ aQ kQ hw fQ_inside_516 fQ_outside_516 fQ_shut_x75 iQ_rows iQ_allRows iQ_columns) (WW nW hw lw kw wl_516 wb_516 wG_516)
              have hPc := hP.mem (fun q h => p9.mem_iff.mpr (List.mem_append_left _ h))
              have hDc := (hD.perm p9).left
              have hKc : va_K (dC, dI) vwCl (tQ kQ ++ (tW kw)) _ := hK.sub [20, 21, 22, 23, 24] rfl
              have hFc := freeG p9 hD hS hA
              refine va_callv (va_runV (As := [.int (iI (v517.toInt - 1))]) (rest := []) ⟨hx, hb, hml, hown, hts⟩ (m_X6_keepSunk l dC dI hQ aQ kQ hw fQ_inside_516 fQ_outside_516 fQ_shut_x75 iQ_rows iQ_allRows iQ_columns nW lw kw wl_516 wb_516 wG_516 (iI (v517.toInt - 1)) (b_iQ_rows) (b_iQ_allRows) (b_iQ_columns) (by first | with_reducible assumption | omega | assumption) b_wl_516 b_wb_516 (by omega) H.size) (cwV 1 hts gwsMX5_tryAnswer_1 rfl rfl rfl hd_yX6_keepSunk_RX6 (by decide +kernel)) (fz_pre (va_recv hK hP (ci := 6) (q0 := 22) rfl rfl) hPc hKc hDc) rfl rfl hl.1 rfl (lv_room (Nat.le_of_ble_eq_true rfl)) dX5_tryAnswer_124 (by decide +kernel)) hS (fun q _ h => hFc q h) hFc (fun fQ_shut_519 t9_ H locs ht hvm hw9 hB9 hz1 hk1 hS => ?_)
              clear hw9
              have p8 := cj_4_2_3 (WO hO aO kO hM hQ hw iO_answered iO_searched iO_searchedRelaxed iO_counted fO_countedCase gO_goalNumber gO_goalScale fO_start fO_column fO_chosen) (WM hM aM kM iM_stands iM_variables iM_rows iM_goals iM_differents iM_cases fM_from fM_to fM_whole fM_ways iM_plainRows fM_plainRow fM_kept fM_goalOver fM_goalUnder fM_goalMax fM_different) (WQ hQ aQ kQ hw fQ_inside_516 fQ_outside_516 fQ_shut_519 iQ_rows iQ_allRows iQ_columns) (WW nW hw lw kw wl_516 wb_516 wG_516)
              obtain ⟨hP, hD⟩ := frameG p9 p8 hP hD hk1 hFc (fz_P ht hB9.1) hB9.2
              have hl : lv_has _ _ ([(2, .int l2_x75), (1, .int l1_x4), (0, .ref (hO 0))]) := lv_sub hl [0, 1, 2] rfl
              exact join144 _ _ _ _ ⟨fQ_inside_516, fQ_outside_516, fQ_shut_519, wl_516, wb_516, wG_516, b_wl_516, b_wb_516, rfl, hP, hD, hS, hl⟩
          · intro H locs ls stk
            refine fz_e6 ?_
            intro fQ_inside_j144 fQ_outside_j144 fQ_shut_j144 wl_j144 wb_j144 wG_j144
            refine fz_a7 ?_
            intro b_wl_j144 b_wb_j144 hst9_2 hP hD hS hl
            subst hst9_2
            refine lv_iinc (v := (iI (l2_x75.toInt + 1))) hx hb dX5_tryAnswer_127 hl (k := 0) rfl (iI_add2 (iI_of _) (by decide : (1 : Int32) = iI 1)) (by decide) rfl (fun ls (hl : lv_has ls _ ([(2, .int (iI (l2_x75.toInt + 1))), (1, .int l1_x4), (0, .ref (hO 0))])) => ?_)
            refine lv_goto (tgt := 75) hx hb dX5_tryAnswer_130 (by decide) ?_
            have hl : lv_has _ _ ([(2, .int (iI (l2_x75.toInt + 1))), (1, .int l1_x4), (0, .ref (hO 0))]) := lv_sub hl [0, 1, 2] rfl
            exact ihx75 fQ_inside_j144 fQ_outside_j144 fQ_shut_j144 wl_j144 wb_j144 wG_j144 (iI (l2_x75.toInt + 1)) _ _ _ b_wl_j144 b_wb_j144 (iI_rng (Int.le_trans (by decide) (Int.add_le_add (b_l2_x75.1) (Int.le_refl _))) (by omega) (by decide) (by decide)) (by have e9 : ((iI (l2_x75.toInt + 1))).toInt = (l2_x75.toInt + 1) := (iI_t (Int.le_trans (by decide) (Int.add_le_add (b_l2_x75.1) (Int.le_refl _))) (Int.le_trans (Int.add_le_add (b_l2_x75.2) (Int.le_refl _)) (by decide))); omega) hP hD hS hl
    · have t_12 : ¬ l2_x4.toInt ≥ iM_goals.toInt := toI_nge c_12 rfl rfl
      refine lv_aload_n hx hb dX5_tryAnswer_15 rfl (lv_at hl 2 rfl) ?_
      refine va_get (D := (dC, dI)) (ci := 5) (v := .ref (hQ 0)) (C := RX5) (T := TX5) (N := 19) hx hb hts iwsMX5_tryAnswer_in5 hown hK hP 0 rfl rfl 1 (by decide) (hts _ hm_m_X5_tryAnswer_5) (fun _ h9 => h9) rfl dX5_tryAnswer_16 ?_
      refine lv_aload_n hx hb dX5_tryAnswer_19 rfl (lv_at hl 2 rfl) ?_
      refine lv_iload_n hx hb dX5_tryAnswer_20 rfl (lv_at hl 0 rfl) ?_
      have hFc := allFree hD hS hA
      refine va_calli (va_runV (As := [.int l2_x4]) (rest := [.ref (hQ 0)]) ⟨hx, hb, hml, hown, hts⟩ (m_X5_goalRow l dC dI hO aO kO hM hQ hw iO_answered iO_searched iO_searchedRelaxed iO_counted fO_countedCase gO_goalNumber gO_goalScale fO_start fO_column fO_chosen aM kM iM_stands iM_variables iM_rows iM_goals iM_differents iM_cases fM_from fM_to fM_whole fM_ways iM_plainRows fM_plainRow fM_kept fM_goalOver fM_goalUnder fM_goalMax fM_different aQ kQ fQ_inside_x4 fQ_outside_x4 fQ_shut_x4 iQ_rows iQ_allRows iQ_columns nW lw kw wl_x4 wb_x4 wG_x4 l2_x4 (b_iO_answered) (b_iO_searched) (b_iO_searchedRelaxed) (b_iO_counted) b_fO_countedCase b_fO_column b_fO_chosen (b_iM_stands) (b_iM_variables) (b_iM_rows) (b_iM_goals) (b_iM_differents) (b_iM_cases) b_fM_ways (b_iM_plainRows) b_fM_plainRow (by first | with_reducible assumption | omega | assumption) (b_iQ_rows) (b_iQ_allRows) (b_iQ_columns) (by first | with_reducible assumption | omega | assumption) b_wl_x4 b_wb_x4 (by first | exact b_l2_x4 | with_reducible assumption | exact ⟨by omega, by omega⟩ | assumption) (by omega) (by first | with_reducible assumption | omega | (rw [iI_t (by omega) (by omega)]; omega) | decide | assumption) H.size) (cwV 1 hts gwsMX5_tryAnswer_5 rfl rfl rfl hd_yX5_goalRow_RX5 (by decide +kernel)) (fz_pre (va_recv hK hP (ci := 5) (q0 := 0) rfl rfl) hP hK hD) rfl rfl hl.1 rfl (lv_room (Nat.le_of_ble_eq_true rfl)) dX5_tryAnswer_21 (by decide +kernel)) hS (fun q _ h => hFc q h) hFc (fun r520 u t9_ H locs ht hvm hw9 hB9 hz1 hk1 hS => ?_)
      have b_r520 := hw9
      try dsimp only at b_r520
      have hP : va_P (dC, dI) vwCl (WO hO aO kO hM hQ hw iO_answered iO_searched iO_searchedRelaxed iO_counted fO_countedCase gO_goalNumber gO_goalScale fO_start fO_column fO_chosen ++ (WM hM aM kM iM_stands iM_variables iM_rows iM_goals iM_differents iM_cases fM_from fM_to fM_whole fM_ways iM_plainRows fM_plainRow fM_kept fM_goalOver fM_goalUnder fM_goalMax fM_different ++ (WQ hQ aQ kQ hw fQ_inside_x4 fQ_outside_x4 fQ_shut_x4 iQ_rows iQ_allRows iQ_columns ++ (WW nW hw lw kw wl_x4 wb_x4 wG_x4)))) H := fz_P ht hB9.1
      have hD := fz_sd hP (hB9.2.weaken (fun _ q _ h => hFc q.1 h)) rfl
      have p9 := cj_4_2_3 (WO hO aO kO hM hQ hw iO_answered iO_searched iO_searchedRelaxed iO_counted fO_countedCase gO_goalNumber gO_goalScale fO_start fO_column fO_chosen) (WM hM aM kM iM_stands iM_variables iM_rows iM_goals iM_differents iM_cases fM_from fM_to fM_whole fM_ways iM_plainRows fM_plainRow fM_kept fM_goalOver fM_goalUnder fM_goalMax fM_different) (WQ hQ aQ kQ hw fQ_inside_x4 fQ_outside_x4 fQ_shut_x4 iQ_rows iQ_allRows iQ_columns) (WW nW hw lw kw wl_x4 wb_x4 wG_x4)
      have hPc := hP.mem (fun q h => p9.mem_iff.mpr (List.mem_append_left _ h))
      have hDc := (hD.perm p9).left
      have hKc : va_K (dC, dI) vwCl (tQ kQ ++ (tW kw)) _ := hK.sub [20, 21, 22, 23, 24] rfl
      have hFc := freeG p9 hD hS hA
      refine va_callv (va_runV (As := [.int r520]) (rest := []) ⟨hx, hb, hml, hown, hts⟩ (m_X6_makeLeast l dC dI hQ aQ kQ hw fQ_inside_x4 fQ_outside_x4 fQ_shut_x4 iQ_rows iQ_allRows iQ_columns nW lw kw wl_x4 wb_x4 wG_x4 r520 (b_iQ_rows) (b_iQ_allRows) (b_iQ_columns) (by first | with_reducible assumption | omega | assumption) b_wl_x4 b_wb_x4 (by first | exact b_r520 | with_reducible assumption | exact ⟨by omega, by omega⟩ | assumption) (by omega) (FitR.small (I := 39) (C := 8) (by omega) (by omega) (by omega) (by omega) (by decide)) H.size) (cwV 1 hts gwsMX5_tryAnswer_6 rfl rfl rfl hd_yX6_makeLeast_RX6 (by decide +kernel)) (fz_pre (va_recv hK hP (ci := 6) (q0 := 22) rfl rfl) hPc hKc hDc) rfl rfl hl.1 rfl (lv_room (Nat.le_of_ble_eq_true rfl)) dX5_tryAnswer_24 (by decide +kernel)) hS (fun q _ h => hFc q h) hFc (fun u t9_ H locs ht hvm hw9 hB9 hz1 hk1 hS => ?_)
      revert u hw9 hB9
      refine fz_p6 ?_
      intro fQ_inside_521 fQ_outside_521 fQ_shut_521 wl_521 wb_521 wG_521 hw9 hB9
      try dsimp only at hw9 hB9
      revert hw9
      refine fz_a2 ?_
      intro b_wl_521 b_wb_521
      have p8 := cj_4_2_3 (WO hO aO kO hM hQ hw iO_answered iO_searched iO_searchedRelaxed iO_counted fO_countedCase gO_goalNumber gO_goalScale fO_start fO_column fO_chosen) (WM hM aM kM iM_stands iM_variables iM_rows iM_goals iM_differents iM_cases fM_from fM_to fM_whole fM_ways iM_plainRows fM_plainRow fM_kept fM_goalOver fM_goalUnder fM_goalMax fM_different) (WQ hQ aQ kQ hw fQ_inside_521 fQ_outside_521 fQ_shut_521 iQ_rows iQ_allRows iQ_columns) (WW nW hw lw kw wl_521 wb_521 wG_521)
      obtain ⟨hP, hD⟩ := frameG p9 p8 hP hD hk1 hFc (fz_P ht hB9.1) hB9.2
      refine lv_aload_n hx hb dX5_tryAnswer_27 rfl (lv_at hl 2 rfl) ?_
      refine va_get (D := (dC, dI)) (ci := 5) (v := .int iO_answered) (C := RX5) (T := TX5) (N := 19) hx hb hts iwsMX5_tryAnswer_in5 hown hK hP 0 rfl rfl 2 (by decide) (hts _ hm_m_X5_tryAnswer_3) (fun _ h9 => h9) rfl dX5_tryAnswer_28 ?_
      refine lv_if_eq (tgt := 67) hx hb dX5_tryAnswer_31 (by decide) (fun c_31 => ?_) (fun c_31 => ?_)
      · have t_31 : iO_answered.toInt = 0 := toI_eq c_31 rfl (by decide : (0 : Int32).toInt = 0)
        refine lv_iinc (v := (iI (l2_x4.toInt + 1))) hx hb dX5_tryAnswer_67 hl (k := 0) rfl (iI_add2 (iI_of _) (by decide : (1 : Int32) = iI 1)) (by decide) rfl (fun ls (hl : lv_has ls _ ([(2, .int (iI (l2_x4.toInt + 1))), (1, .int l1_x4), (0, .ref (hO 0))])) => ?_)
        refine lv_goto (tgt := 4) hx hb dX5_tryAnswer_70 (by decide) ?_
        have hl : lv_has _ _ ([(2, .int (iI (l2_x4.toInt + 1))), (1, .int l1_x4), (0, .ref (hO 0))]) := lv_sub hl [0, 1, 2] rfl
        exact ihx4 fQ_inside_521 fQ_outside_521 fQ_shut_521 wl_521 wb_521 wG_521 (iI (l2_x4.toInt + 1)) l1_x4 _ _ _ b_wl_521 b_wb_521 (iI_rng (Int.le_trans (by decide) (Int.add_le_add (b_l2_x4.1) (Int.le_refl _))) (by omega) (by decide) (by decide)) (b_l1_x4) (by have e9 : ((iI (l2_x4.toInt + 1))).toInt = (l2_x4.toInt + 1) := (iI_t (Int.le_trans (by decide) (Int.add_le_add (b_l2_x4.1) (Int.le_refl _))) (Int.le_trans (Int.add_le_add (b_l2_x4.2) (Int.le_refl _)) (by decide))); omega) hP hD hS hl
      · have t_31 : ¬ iO_answered.toInt = 0 := toI_neq c_31 rfl (by decide : (0 : Int32).toInt = 0)
        refine lv_iload_n hx hb dX5_tryAnswer_34 rfl (lv_at hl 1 rfl) ?_
        refine lv_if_ne (tgt := 67) hx hb dX5_tryAnswer_35 (by decide) (fun c_35 => ?_) (fun c_35 => ?_)
        · have t_35 : l1_x4.toInt ≠ 0 := toI_ne c_35 rfl (by decide : (0 : Int32).toInt = 0)
          refine lv_iinc (v := (iI (l2_x4.toInt + 1))) hx hb dX5_tryAnswer_67 hl (k := 0) rfl (iI_add2 (iI_of _) (by decide : (1 : Int32) = iI 1)) (by decide) rfl (fun ls (hl : lv_has ls _ ([(2, .int (iI (l2_x4.toInt + 1))), (1, .int l1_x4), (0, .ref (hO 0))])) => ?_)
          refine lv_goto (tgt := 4) hx hb dX5_tryAnswer_70 (by decide) ?_
          have hl : lv_has _ _ ([(2, .int (iI (l2_x4.toInt + 1))), (1, .int l1_x4), (0, .ref (hO 0))]) := lv_sub hl [0, 1, 2] rfl
          exact ihx4 fQ_inside_521 fQ_outside_521 fQ_shut_521 wl_521 wb_521 wG_521 (iI (l2_x4.toInt + 1)) l1_x4 _ _ _ b_wl_521 b_wb_521 (iI_rng (Int.le_trans (by decide) (Int.add_le_add (b_l2_x4.1) (Int.le_refl _))) (by omega) (by decide) (by decide)) (b_l1_x4) (by have e9 : ((iI (l2_x4.toInt + 1))).toInt = (l2_x4.toInt + 1) := (iI_t (Int.le_trans (by decide) (Int.add_le_add (b_l2_x4.1) (Int.le_refl _))) (Int.le_trans (Int.add_le_add (b_l2_x4.2) (Int.le_refl _)) (by decide))); omega) hP hD hS hl
        · have t_35 : l1_x4.toInt = 0 := toI_nne c_35 rfl (by decide : (0 : Int32).toInt = 0)
          refine lv_aload_n hx hb dX5_tryAnswer_38 rfl (lv_at hl 2 rfl) ?_
          refine lv_aload_n hx hb dX5_tryAnswer_39 rfl (lv_at hl 2 rfl) ?_
          refine va_get (D := (dC, dI)) (ci := 5) (v := .ref (hQ 0)) (C := RX5) (T := TX5) (N := 19) hx hb hts iwsMX5_tryAnswer_in5 hown hK hP 0 rfl rfl 1 (by decide) (hts _ hm_m_X5_tryAnswer_5) (fun _ h9 => h9) rfl dX5_tryAnswer_40 ?_
          refine lv_aload_n hx hb dX5_tryAnswer_43 rfl (lv_at hl 2 rfl) ?_
          refine lv_iload_n hx hb dX5_tryAnswer_44 rfl (lv_at hl 0 rfl) ?_
          have hFc := allFree hD hS hA
          refine va_calli (va_runV (As := [.int l2_x4]) (rest := [.ref (hQ 0), .ref (hO 0)]) ⟨hx, hb, hml, hown, hts⟩ (m_X5_goalRow l dC dI hO aO kO hM hQ hw iO_answered iO_searched iO_searchedRelaxed iO_counted fO_countedCase gO_goalNumber gO_goalScale fO_start fO_column fO_chosen aM kM iM_stands iM_variables iM_rows iM_goals iM_differents iM_cases fM_from fM_to fM_whole fM_ways iM_plainRows fM_plainRow fM_kept fM_goalOver fM_goalUnder fM_goalMax fM_different aQ kQ fQ_inside_521 fQ_outside_521 fQ_shut_521 iQ_rows iQ_allRows iQ_columns nW lw kw wl_521 wb_521 wG_521 l2_x4 (b_iO_answered) (b_iO_searched) (b_iO_searchedRelaxed) (b_iO_counted) b_fO_countedCase b_fO_column b_fO_chosen (b_iM_stands) (b_iM_variables) (b_iM_rows) (b_iM_goals) (b_iM_differents) (b_iM_cases) b_fM_ways (b_iM_plainRows) b_fM_plainRow (by first | with_reducible assumption | omega | assumption) (b_iQ_rows) (b_iQ_allRows) (b_iQ_columns) (by first | with_reducible assumption | omega | assumption) b_wl_521 b_wb_521 (by first | exact b_l2_x4 | with_reducible assumption | exact ⟨by omega, by omega⟩ | assumption) (by omega) (by first | with_reducible assumption | omega | (rw [iI_t (by omega) (by omega)]; omega) | decide | assumption) H.size) (cwV 1 hts gwsMX5_tryAnswer_5 rfl rfl rfl hd_yX5_goalRow_RX5 (by decide +kernel)) (fz_pre (va_recv hK hP (ci := 5) (q0 := 0) rfl rfl) hP hK hD) rfl rfl hl.1 rfl (lv_room (Nat.le_of_ble_eq_true rfl)) dX5_tryAnswer_45 (by decide +kernel)) hS (fun q _ h => hFc q h) hFc (fun r522 u t9_ H locs ht hvm hw9 hB9 hz1 hk1 hS => ?_)
          have b_r522 := hw9
          try dsimp only at b_r522
          have hP : va_P (dC, dI) vwCl (WO hO aO kO hM hQ hw iO_answered iO_searched iO_searchedRelaxed iO_counted fO_countedCase gO_goalNumber gO_goalScale fO_start fO_column fO_chosen ++ (WM hM aM kM iM_stands iM_variables iM_rows iM_goals iM_differents iM_cases fM_from fM_to fM_whole fM_ways iM_plainRows fM_plainRow fM_kept fM_goalOver fM_goalUnder fM_goalMax fM_different ++ (WQ hQ aQ kQ hw fQ_inside_521 fQ_outside_521 fQ_shut_521 iQ_rows iQ_allRows iQ_columns ++ (WW nW hw lw kw wl_521 wb_521 wG_521)))) H := fz_P ht hB9.1
          have hD := fz_sd hP (hB9.2.weaken (fun _ q _ h => hFc q.1 h)) rfl
          refine lv_iconst (v := 0) hx hb dX5_tryAnswer_48 (by decide) ?_
          have p9 := cj_4_2_3 (WO hO aO kO hM hQ hw iO_answered iO_searched iO_searchedRelaxed iO_counted fO_countedCase gO_goalNumber gO_goalScale fO_start fO_column fO_chosen) (WM hM aM kM iM_stands iM_variables iM_rows iM_goals iM_differents iM_cases fM_from fM_to fM_whole fM_ways iM_plainRows fM_plainRow fM_kept fM_goalOver fM_goalUnder fM_goalMax fM_different) (WQ hQ aQ kQ hw fQ_inside_521 fQ_outside_521 fQ_shut_521 iQ_rows iQ_allRows iQ_columns) (WW nW hw lw kw wl_521 wb_521 wG_521)
          have hPc := hP.mem (fun q h => p9.mem_iff.mpr (List.mem_append_left _ h))
          have hDc := (hD.perm p9).left
          have hKc : va_K (dC, dI) vwCl (tQ kQ ++ (tW kw)) _ := hK.sub [20, 21, 22, 23, 24] rfl
          have hFc := freeG p9 hD hS hA
          refine va_callr (va_runV (As := [.int r522, .int 0]) (rest := [.ref (hO 0)]) ⟨hx, hb, hml, hown, hts⟩ (m_X6_cellAt l dC dI hQ aQ kQ hw fQ_inside_521 fQ_outside_521 fQ_shut_521 iQ_rows iQ_allRows iQ_columns nW lw kw wl_521 wb_521 wG_521 r522 0 (b_iQ_rows) (b_iQ_allRows) (b_iQ_columns) (by first | with_reducible assumption | omega | assumption) b_wl_521 b_wb_521 (by first | exact b_r522 | with_reducible assumption | exact ⟨by omega, by omega⟩ | assumption) (show 0 ≤ (0 : Int32).toInt ∧ (0 : Int32).toInt ≤ 40 from by decide) (by omega) ((by have h9 := ix_small (i := r522.toInt) (j := 0) (c := iQ_columns.toInt) (by omega) (by omega) (by omega) (by omega) (by omega) (by omega); have h8 : (0 : Int32).toInt = 0 := (by decide); rw [h8]; exact h9)) H.size) (cwV 2 hts gwsMX5_tryAnswer_7 rfl rfl rfl hd_yX6_cellAt_RX6 (by decide +kernel)) (fz_pre (va_recv hK hP (ci := 6) (q0 := 22) rfl rfl) hPc hKc hDc) rfl rfl hl.1 rfl (lv_room (Nat.le_of_ble_eq_true rfl)) dX5_tryAnswer_49 (by decide +kernel)) hS (fun q _ h => hFc q h) hFc (fun kR_523 ra523 t9_ H locs ht hvm hw9 hB9 hz1 hk1 hS => ?_)
          revert hB9
          refine fz_a2 ?_
          intro hra hB9
          subst hra
          have f523_0 := hw9
          try dsimp only at f523_0
          have p8 := p9
          obtain ⟨hP, hD⟩ := frameG p9 p8 hP hD hk1 hFc (fz_P ht hB9.1) hB9.2
          refine lv_aload_n hx hb dX5_tryAnswer_52 rfl (lv_at hl 2 rfl) ?_
          refine va_get (D := (dC, dI)) (ci := 5) (v := .ref (aO 7)) (C := RX5) (T := TX5) (N := 19) hx hb hts iwsMX5_tryAnswer_in5 hown hK hP 0 rfl rfl 13 (by decide) (hts (.fieldLink RX5 52 "OptimaWorks$Solver" "answerGoal" "[LOptimaWorks$Whole;") (by decide +kernel)) (fun _ h9 => h9) rfl dX5_tryAnswer_53 ?_
          refine lv_iload_n hx hb dX5_tryAnswer_56 rfl (lv_at hl 0 rfl) ?_
          refine va_aldq (cA := kO 7) (n := 3) (f := fun q => some (hw (414 + q))) hx hb hK hP 8 7 rfl rfl (vp_in_iff.mpr ⟨b_l2_x4.1, (Int.lt_of_lt_of_le (Int.not_le.mp t_12) (Int.le_trans b_iM_goals.2 (by decide)))⟩) dX5_tryAnswer_57 ?_
          obtain ⟨k524, hk524, b_k524⟩ : ∃ k9 : Nat, k9 = 414 + (l2_x4).toNatClampNeg ∧ (414 ≤ k9 ∧ k9 < 417 ∧ (k9 : Int) = 414 + l2_x4.toInt) := ⟨_, rfl, ald_k (x := (l2_x4)) (o := 414) (n := 3) rfl (by omega) (by omega)⟩
          refine W.eq (g2 := F0 m 58 ls [.ref (hw k524), .ref (hw kR_523), .ref (hO 0)]) (by rw [hk524]; rfl) ?_
          clear hk524
          have hFc := allFree hD hS hA
          refine va_calli (va_runV (As := [.ref (hw kR_523), .ref (hw k524)]) (rest := []) ⟨hx, hb, hml, hown, hts⟩ (m_X5_compare l dC dI hO aO kO hM hQ hw iO_answered iO_searched iO_searchedRelaxed iO_counted fO_countedCase gO_goalNumber gO_goalScale fO_start fO_column fO_chosen aM kM iM_stands iM_variables iM_rows iM_goals iM_differents iM_cases fM_from fM_to fM_whole fM_ways iM_plainRows fM_plainRow fM_kept fM_goalOver fM_goalUnder fM_goalMax fM_different aQ kQ fQ_inside_521 fQ_outside_521 fQ_shut_521 iQ_rows iQ_allRows iQ_columns nW lw kw wl_521 wb_521 wG_521 kR_523 k524 (b_iO_answered) (b_iO_searched) (b_iO_searchedRelaxed) (b_iO_counted) b_fO_countedCase b_fO_column b_fO_chosen (b_iM_stands) (b_iM_variables) (b_iM_rows) (b_iM_goals) (b_iM_differents) (b_iM_cases) b_fM_ways (b_iM_plainRows) b_fM_plainRow (by first | with_reducible assumption | omega | assumption) (b_iQ_rows) (b_iQ_allRows) (b_iQ_columns) (by first | with_reducible assumption | omega | assumption) b_wl_521 b_wb_521 (by omega) (by first | with_reducible assumption | omega | (rw [iI_t (by omega) (by omega)]; omega) | decide | assumption) (by first | with_reducible assumption | omega | (rw [iI_t (by omega) (by omega)]; omega) | decide | assumption) H.size) (cwV 2 hts gwsMX5_tryAnswer_3 rfl rfl rfl hd_yX5_compare_RX5 (by decide +kernel)) (fz_pre (va_recv hK hP (ci := 5) (q0 := 0) rfl rfl) hP hK hD) rfl rfl hl.1 rfl (lv_room (Nat.le_of_ble_eq_true rfl)) dX5_tryAnswer_58 (by decide +kernel)) hS (fun q _ h => hFc q h) hFc (fun r525 u t9_ H locs ht hvm hw9 hB9 hz1 hk1 hS => ?_)
          revert u hw9 hB9
          refine fz_p3 ?_
          intro wl_525 wb_525 wG_525 hw9 hB9
          try dsimp only at hw9 hB9
          revert hw9
          refine fz_a3 ?_
          intro b_wl_525 b_wb_525 b_r525
          have hP : va_P (dC, dI) vwCl (WO hO aO kO hM hQ hw iO_answered iO_searched iO_searchedRelaxed iO_counted fO_countedCase gO_goalNumber gO_goalScale fO_start fO_column fO_chosen ++ (WM hM aM kM iM_stands iM_variables iM_rows iM_goals iM_differents iM_cases fM_from fM_to fM_whole fM_ways iM_plainRows fM_plainRow fM_kept fM_goalOver fM_goalUnder fM_goalMax fM_different ++ (WQ hQ aQ kQ hw fQ_inside_521 fQ_outside_521 fQ_shut_521 iQ_rows iQ_allRows iQ_columns ++ (WW nW hw lw kw wl_525 wb_525 wG_525)))) H := fz_P ht hB9.1
          have hD := fz_sd hP (hB9.2.weaken (fun _ q _ h => hFc q.1 h)) rfl
          refine lv_istore_n hx hb dX5_tryAnswer_61 rfl hl (by decide) rfl (fun ls (hl : lv_has ls _ ([(1, .int r525), (2, .int l2_x4), (0, .ref (hO 0))])) => ?_)
          refine lv_iload_n hx hb dX5_tryAnswer_62 rfl (lv_at hl 0 rfl) ?_
          refine lv_if_le (tgt := 67) hx hb dX5_tryAnswer_63 (by decide) (fun c_63 => ?_) (fun c_63 => ?_)
          · have t_63 : r525.toInt ≤ 0 := toI_le c_63 rfl (by decide : (0 : Int32).toInt = 0)
            refine lv_iinc (v := (iI (l2_x4.toInt + 1))) hx hb dX5_tryAnswer_67 hl (k := 1) rfl (iI_add2 (iI_of _) (by decide : (1 : Int32) = iI 1)) (by decide) rfl (fun ls (hl : lv_has ls _ ([(2, .int (iI (l2_x4.toInt + 1))), (1, .int r525), (0, .ref (hO 0))])) => ?_)
            refine lv_goto (tgt := 4) hx hb dX5_tryAnswer_70 (by decide) ?_
            have hl : lv_has _ _ ([(2, .int (iI (l2_x4.toInt + 1))), (1, .int r525), (0, .ref (hO 0))]) := lv_sub hl [0, 1, 2] rfl
            exact ihx4 fQ_inside_521 fQ_outside_521 fQ_shut_521 wl_525 wb_525 wG_525 (iI (l2_x4.toInt + 1)) r525 _ _ _ b_wl_525 b_wb_525 (iI_rng (Int.le_trans (by decide) (Int.add_le_add (b_l2_x4.1) (Int.le_refl _))) (by omega) (by decide) (by decide)) (by first | exact b_r525 | with_reducible assumption | exact ⟨by omega, by omega⟩ | assumption) (by have e9 : ((iI (l2_x4.toInt + 1))).toInt = (l2_x4.toInt + 1) := (iI_t (Int.le_trans (by decide) (Int.add_le_add (b_l2_x4.1) (Int.le_refl _))) (Int.le_trans (Int.add_le_add (b_l2_x4.2) (Int.le_refl _)) (by decide))); omega) hP hD hS hl
          · have t_63 : ¬ r525.toInt ≤ 0 := toI_nle c_63 rfl (by decide : (0 : Int32).toInt = 0)
            refine W.widen (k := 0) (n := 0) (by decide +kernel) (by decide +kernel) ?_
            exact W.vret hx hb hr (fun t9_ ht hW => ⟨⟨(iO_answered, fQ_inside_521, fQ_outside_521, fQ_shut_521, wl_525, wb_525, wG_525), rfl, ⟨b_iO_answered, b_wl_525, b_wb_525⟩, by rw [ht]; exact hP, hD⟩, hS.F ht⟩) hS.2.2 dX5_tryAnswer_66
end
section
theorem hd_yX5_scaleGoals_RX5 : yX5_scaleGoals.cls = RX5 ∧ yX5_scaleGoals.cls ≠ "java/lang/invoke/MethodHandle" ∧ yX5_scaleGoals.cls ≠ "java/lang/invoke/VarHandle" ∧ (parseMethodDescriptor yX5_scaleGoals.desc).map (fun d => d.parameters.length) = some 0 := by decide +kernel
theorem hd_yX5_lay_RX5 : yX5_lay.cls = RX5 ∧ yX5_lay.cls ≠ "java/lang/invoke/MethodHandle" ∧ yX5_lay.cls ≠ "java/lang/invoke/VarHandle" ∧ (parseMethodDescriptor yX5_lay.desc).map (fun d => d.parameters.length) = some 2 := by decide +kernel
theorem hd_yX5_settle_RX5 : yX5_settle.cls = RX5 ∧ yX5_settle.cls ≠ "java/lang/invoke/MethodHandle" ∧ yX5_settle.cls ≠ "java/lang/invoke/VarHandle" ∧ (parseMethodDescriptor yX5_settle.desc).map (fun d => d.parameters.length) = some 1 := by decide +kernel
theorem hd_yX5_tryAnswer_RX5 : yX5_tryAnswer.cls = RX5 ∧ yX5_tryAnswer.cls ≠ "java/lang/invoke/MethodHandle" ∧ yX5_tryAnswer.cls ≠ "java/lang/invoke/VarHandle" ∧ (parseMethodDescriptor yX5_tryAnswer.desc).map (fun d => d.parameters.length) = some 0 := by decide +kernel
theorem hd_yX5_choose_RX5 : yX5_choose.cls = RX5 ∧ yX5_choose.cls ≠ "java/lang/invoke/MethodHandle" ∧ yX5_choose.cls ≠ "java/lang/invoke/VarHandle" ∧ (parseMethodDescriptor yX5_choose.desc).map (fun d => d.parameters.length) = some 1 := by decide +kernel
theorem hd_yX5_setGoal_RX5 : yX5_setGoal.cls = RX5 ∧ yX5_setGoal.cls ≠ "java/lang/invoke/MethodHandle" ∧ yX5_setGoal.cls ≠ "java/lang/invoke/VarHandle" ∧ (parseMethodDescriptor yX5_setGoal.desc).map (fun d => d.parameters.length) = some 3 := by decide +kernel
theorem hd_yX8_isOne_RX8 : yX8_isOne.cls = RX8 ∧ yX8_isOne.cls ≠ "java/lang/invoke/MethodHandle" ∧ yX8_isOne.cls ≠ "java/lang/invoke/VarHandle" ∧ (parseMethodDescriptor yX8_isOne.desc).map (fun d => d.parameters.length) = some 0 := by decide +kernel
theorem dX5_findAnswer_0 : decode cX5_findAnswer 0 = .ok (.aload_n 0, 1) := dk_42 (by decide +kernel)
theorem dX5_findAnswer_1 : decode cX5_findAnswer 1 = .ok (.getfield 82, 3) := dk_180 (by decide +kernel)
theorem dX5_findAnswer_4 : decode cX5_findAnswer 4 = .ok (.ifCond .eq 16, 3) := dk_153 (by decide +kernel)
theorem dX5_findAnswer_7 : decode cX5_findAnswer 7 = .ok (.aload_n 0, 1) := dk_42 (by decide +kernel)
theorem dX5_findAnswer_8 : decode cX5_findAnswer 8 = .ok (.getfield 85, 3) := dk_180 (by decide +kernel)
theorem dX5_findAnswer_11 : decode cX5_findAnswer 11 = .ok (.iload_n 1, 1) := dk_27 (by decide +kernel)
theorem dX5_findAnswer_12 : decode cX5_findAnswer 12 = .ok (.if_icmp .ne 8, 3) := dk_160 (by decide +kernel)
theorem dX5_findAnswer_15 : decode cX5_findAnswer 15 = .ok (.aload_n 0, 1) := dk_42 (by decide +kernel)
theorem dX5_findAnswer_16 : decode cX5_findAnswer 16 = .ok (.getfield 78, 3) := dk_180 (by decide +kernel)
theorem dX5_findAnswer_19 : decode cX5_findAnswer 19 = .ok (.ireturn, 1) := dk_172 (by decide +kernel)
theorem dX5_findAnswer_20 : decode cX5_findAnswer 20 = .ok (.aload_n 0, 1) := dk_42 (by decide +kernel)
theorem dX5_findAnswer_21 : decode cX5_findAnswer 21 = .ok (.iconst 1, 1) := dk_4 (by decide +kernel)
theorem dX5_findAnswer_22 : decode cX5_findAnswer 22 = .ok (.putfield 82, 3) := dk_181 (by decide +kernel)
theorem dX5_findAnswer_25 : decode cX5_findAnswer 25 = .ok (.aload_n 0, 1) := dk_42 (by decide +kernel)
theorem dX5_findAnswer_26 : decode cX5_findAnswer 26 = .ok (.iload_n 1, 1) := dk_27 (by decide +kernel)
theorem dX5_findAnswer_27 : decode cX5_findAnswer 27 = .ok (.putfield 85, 3) := dk_181 (by decide +kernel)
theorem dX5_findAnswer_30 : decode cX5_findAnswer 30 = .ok (.aload_n 0, 1) := dk_42 (by decide +kernel)
theorem dX5_findAnswer_31 : decode cX5_findAnswer 31 = .ok (.iconst 0, 1) := dk_3 (by decide +kernel)
theorem dX5_findAnswer_32 : decode cX5_findAnswer 32 = .ok (.putfield 78, 3) := dk_181 (by decide +kernel)
theorem dX5_findAnswer_35 : decode cX5_findAnswer 35 = .ok (.aload_n 0, 1) := dk_42 (by decide +kernel)
theorem dX5_findAnswer_36 : decode cX5_findAnswer 36 = .ok (.invokevirtual 88, 3) := dk_182 (by decide +kernel)
theorem dX5_findAnswer_39 : decode cX5_findAnswer 39 = .ok (.iload_n 1, 1) := dk_27 (by decide +kernel)
theorem dX5_findAnswer_40 : decode cX5_findAnswer 40 = .ok (.ifCond .eq 7, 3) := dk_153 (by decide +kernel)
theorem dX5_findAnswer_43 : decode cX5_findAnswer 43 = .ok (.iconst 1, 1) := dk_4 (by decide +kernel)
theorem dX5_findAnswer_44 : decode cX5_findAnswer 44 = .ok (.goto 10, 3) := dk_167 (by decide +kernel)
theorem dX5_findAnswer_47 : decode cX5_findAnswer 47 = .ok (.aload_n 0, 1) := dk_42 (by decide +kernel)
theorem dX5_findAnswer_48 : decode cX5_findAnswer 48 = .ok (.getfield 74, 3) := dk_180 (by decide +kernel)
theorem dX5_findAnswer_51 : decode cX5_findAnswer 51 = .ok (.getfield 91, 3) := dk_180 (by decide +kernel)
theorem dX5_findAnswer_54 : decode cX5_findAnswer 54 = .ok (.istore_n 2, 1) := dk_61 (by decide +kernel)
theorem dX5_findAnswer_55 : decode cX5_findAnswer 55 = .ok (.iconst 0, 1) := dk_3 (by decide +kernel)
theorem dX5_findAnswer_56 : decode cX5_findAnswer 56 = .ok (.istore_n 3, 1) := dk_62 (by decide +kernel)
theorem dX5_findAnswer_57 : decode cX5_findAnswer 57 = .ok (.iload_n 3, 1) := dk_29 (by decide +kernel)
theorem dX5_findAnswer_58 : decode cX5_findAnswer 58 = .ok (.iload_n 2, 1) := dk_28 (by decide +kernel)
theorem dX5_findAnswer_59 : decode cX5_findAnswer 59 = .ok (.if_icmp .ge 48, 3) := dk_162 (by decide +kernel)
theorem dX5_findAnswer_62 : decode cX5_findAnswer 62 = .ok (.iload_n 1, 1) := dk_27 (by decide +kernel)
theorem dX5_findAnswer_63 : decode cX5_findAnswer 63 = .ok (.ifCond .ne 11, 3) := dk_154 (by decide +kernel)
theorem dX5_findAnswer_66 : decode cX5_findAnswer 66 = .ok (.aload_n 0, 1) := dk_42 (by decide +kernel)
theorem dX5_findAnswer_67 : decode cX5_findAnswer 67 = .ok (.iload_n 3, 1) := dk_29 (by decide +kernel)
theorem dX5_findAnswer_68 : decode cX5_findAnswer 68 = .ok (.invokevirtual 94, 3) := dk_182 (by decide +kernel)
theorem dX5_findAnswer_71 : decode cX5_findAnswer 71 = .ok (.ifCond .eq 30, 3) := dk_153 (by decide +kernel)
theorem dX5_findAnswer_74 : decode cX5_findAnswer 74 = .ok (.aload_n 0, 1) := dk_42 (by decide +kernel)
theorem dX5_findAnswer_75 : decode cX5_findAnswer 75 = .ok (.iload_n 1, 1) := dk_27 (by decide +kernel)
theorem dX5_findAnswer_76 : decode cX5_findAnswer 76 = .ok (.aload_n 0, 1) := dk_42 (by decide +kernel)
theorem dX5_findAnswer_77 : decode cX5_findAnswer 77 = .ok (.getfield 74, 3) := dk_180 (by decide +kernel)
theorem dX5_findAnswer_80 : decode cX5_findAnswer 80 = .ok (.getfield 98, 3) := dk_180 (by decide +kernel)
theorem dX5_findAnswer_83 : decode cX5_findAnswer 83 = .ok (.invokevirtual 101, 3) := dk_182 (by decide +kernel)
theorem dX5_findAnswer_86 : decode cX5_findAnswer 86 = .ok (.ifCond .eq 15, 3) := dk_153 (by decide +kernel)
theorem dX5_findAnswer_89 : decode cX5_findAnswer 89 = .ok (.aload_n 0, 1) := dk_42 (by decide +kernel)
theorem dX5_findAnswer_90 : decode cX5_findAnswer 90 = .ok (.iload_n 1, 1) := dk_27 (by decide +kernel)
theorem dX5_findAnswer_91 : decode cX5_findAnswer 91 = .ok (.invokevirtual 105, 3) := dk_182 (by decide +kernel)
theorem dX5_findAnswer_94 : decode cX5_findAnswer 94 = .ok (.ifCond .eq 7, 3) := dk_153 (by decide +kernel)
theorem dX5_findAnswer_97 : decode cX5_findAnswer 97 = .ok (.aload_n 0, 1) := dk_42 (by decide +kernel)
theorem dX5_findAnswer_98 : decode cX5_findAnswer 98 = .ok (.invokevirtual 109, 3) := dk_182 (by decide +kernel)
theorem dX5_findAnswer_101 : decode cX5_findAnswer 101 = .ok (.iinc 3 1, 3) := dk_132 (by decide +kernel)
theorem dX5_findAnswer_104 : decode cX5_findAnswer 104 = .ok (.goto (-47), 3) := dk_167 (by decide +kernel)
theorem dX5_findAnswer_107 : decode cX5_findAnswer 107 = .ok (.aload_n 0, 1) := dk_42 (by decide +kernel)
theorem dX5_findAnswer_108 : decode cX5_findAnswer 108 = .ok (.getfield 78, 3) := dk_180 (by decide +kernel)
theorem dX5_findAnswer_111 : decode cX5_findAnswer 111 = .ok (.ireturn, 1) := dk_172 (by decide +kernel)
def wsMX5_findAnswer : List Cond := .code yX5_findAnswer cX5_findAnswer 4 (some .boolean) :: ([.fieldLink RX5 82 "OptimaWorks$Solver" "searched" "Z", .fieldLink RX5 85 "OptimaWorks$Solver" "searchedRelaxed" "Z", .fieldLink RX5 78 "OptimaWorks$Solver" "answered" "Z", .fieldLink RX5 74 "OptimaWorks$Solver" "model" "LOptimaWorks$Model;", .fieldLink RX5 91 "OptimaWorks$Model" "cases" "I", .fieldLink RX5 98 "OptimaWorks$Model" "goals" "I"] ++ wsX10 ++ wsX50 ++ (wsV RX5 88 RX5 yX5_scaleGoals wsMX5_scaleGoals) ++ (wsV RX5 101 RX5 yX5_lay wsMX5_lay) ++ (wsV RX5 105 RX5 yX5_settle wsMX5_settle) ++ (wsV RX5 109 RX5 yX5_tryAnswer wsMX5_tryAnswer) ++ (wsV RX5 94 RX5 yX5_choose wsMX5_choose))
theorem iwsMX5_findAnswer_in1 : ∀ w ∈ wsX10, w ∈ wsMX5_findAnswer := fun _ h => List.mem_cons_of_mem _ (List.mem_append_left _ (List.mem_append_left _ (List.mem_append_left _ (List.mem_append_left _ (List.mem_append_left _ (List.mem_append_left _ (List.mem_append_right _ h)))))))
theorem iwsMX5_findAnswer_in5 : ∀ w ∈ wsX50, w ∈ wsMX5_findAnswer := fun _ h => List.mem_cons_of_mem _ (List.mem_append_left _ (List.mem_append_left _ (List.mem_append_left _ (List.mem_append_left _ (List.mem_append_left _ (List.mem_append_right _ h))))))
theorem gwsMX5_findAnswer_0 : GoodIn wsMX5_findAnswer (wsV RX5 88 RX5 yX5_scaleGoals wsMX5_scaleGoals) := goodIn_sub (fun _ h => List.mem_cons_of_mem _ (List.mem_append_left _ (List.mem_append_left _ (List.mem_append_left _ (List.mem_append_left _ (List.mem_append_right _ h)))))) (gdV (by decide +kernel) gdwsMX5_scaleGoals)
theorem gwsMX5_findAnswer_1 : GoodIn wsMX5_findAnswer (wsV RX5 101 RX5 yX5_lay wsMX5_lay) := goodIn_sub (fun _ h => List.mem_cons_of_mem _ (List.mem_append_left _ (List.mem_append_left _ (List.mem_append_left _ (List.mem_append_right _ h))))) (gdV (by decide +kernel) gdwsMX5_lay)
theorem gwsMX5_findAnswer_2 : GoodIn wsMX5_findAnswer (wsV RX5 105 RX5 yX5_settle wsMX5_settle) := goodIn_sub (fun _ h => List.mem_cons_of_mem _ (List.mem_append_left _ (List.mem_append_left _ (List.mem_append_right _ h)))) (gdV (by decide +kernel) gdwsMX5_settle)
theorem gwsMX5_findAnswer_3 : GoodIn wsMX5_findAnswer (wsV RX5 109 RX5 yX5_tryAnswer wsMX5_tryAnswer) := goodIn_sub (fun _ h => List.mem_cons_of_mem _ (List.mem_append_left _ (List.mem_append_right _ h))) (gdV (by decide +kernel) gdwsMX5_tryAnswer)
theorem gwsMX5_findAnswer_4 : GoodIn wsMX5_findAnswer (wsV RX5 94 RX5 yX5_choose wsMX5_choose) := goodIn_sub (fun _ h => List.mem_cons_of_mem _ (List.mem_append_right _ h)) (gdV (by decide +kernel) gdwsMX5_choose)
theorem gdwsMX5_findAnswer : wsMX5_findAnswer.all goodWord = true := gdC rfl (gdA (gdA (gdA (gdA (gdA (gdA (gdA (by decide +kernel : ([.fieldLink RX5 82 "OptimaWorks$Solver" "searched" "Z", .fieldLink RX5 85 "OptimaWorks$Solver" "searchedRelaxed" "Z", .fieldLink RX5 78 "OptimaWorks$Solver" "answered" "Z", .fieldLink RX5 74 "OptimaWorks$Solver" "model" "LOptimaWorks$Model;", .fieldLink RX5 91 "OptimaWorks$Model" "cases" "I", .fieldLink RX5 98 "OptimaWorks$Model" "goals" "I"] : List Cond).all goodWord = true) gdwsX10) gdwsX50) (gdV (by decide +kernel) gdwsMX5_scaleGoals)) (gdV (by decide +kernel) gdwsMX5_lay)) (gdV (by decide +kernel) gdwsMX5_settle)) (gdV (by decide +kernel) gdwsMX5_tryAnswer)) (gdV (by decide +kernel) gdwsMX5_choose))
theorem hm_m_X5_findAnswer_0 : (.fieldLink RX5 82 "OptimaWorks$Solver" "searched" "Z" : Cond) ∈ wsMX5_findAnswer := by decide +kernel
theorem hm_m_X5_findAnswer_1 : (.fieldLink RX5 85 "OptimaWorks$Solver" "searchedRelaxed" "Z" : Cond) ∈ wsMX5_findAnswer := by decide +kernel
theorem hm_m_X5_findAnswer_2 : (.fieldLink RX5 78 "OptimaWorks$Solver" "answered" "Z" : Cond) ∈ wsMX5_findAnswer := by decide +kernel
theorem hm_m_X5_findAnswer_3 : (.fieldLink RX5 74 "OptimaWorks$Solver" "model" "LOptimaWorks$Model;" : Cond) ∈ wsMX5_findAnswer := by decide +kernel
theorem hm_m_X5_findAnswer_4 : (.fieldLink RX5 91 "OptimaWorks$Model" "cases" "I" : Cond) ∈ wsMX5_findAnswer := by decide +kernel
theorem hm_m_X5_findAnswer_5 : (.fieldLink RX5 98 "OptimaWorks$Model" "goals" "I" : Cond) ∈ wsMX5_findAnswer := by decide +kernel
set_option maxHeartbeats 4000000 in
set_option maxRecDepth 100000 in
/-- an answer is sought -/
theorem m_X5_findAnswer (l : Launch) (dC : Nat → ClassId) (dI : Nat → Nat → Nat) (hO : Nat → Nat) (aO : Nat → Nat) (kO : Nat → ClassId) (hM : Nat → Nat) (hQ : Nat → Nat) (hw : Nat → Nat) (iO_answered : Int32) (iO_searched : Int32) (iO_searchedRelaxed : Int32) (iO_counted : Int32) (fO_countedCase : Nat → Int32) (gO_goalNumber : Nat → Int64) (gO_goalScale : Nat → Int64) (fO_start : Nat → Int32) (fO_column : Nat → Int32) (fO_chosen : Nat → Int32) (aM : Nat → Nat) (kM : Nat → ClassId) (iM_stands : Int32) (iM_variables : Int32) (iM_rows : Int32) (iM_goals : Int32) (iM_differents : Int32) (iM_cases : Int32) (fM_from : Nat → Int32) (fM_to : Nat → Int32) (fM_whole : Nat → Int32) (fM_ways : Nat → Int32) (iM_plainRows : Int32) (fM_plainRow : Nat → Int32) (fM_kept : Nat → Int32) (fM_goalOver : Nat → Int32) (fM_goalUnder : Nat → Int32) (fM_goalMax : Nat → Int32) (fM_different : Nat → Int32) (aQ : Nat → Nat) (kQ : Nat → ClassId) (fQ_inside : Nat → Int32) (fQ_outside : Nat → Int32) (fQ_shut : Nat → Int32) (iQ_rows : Int32) (iQ_allRows : Int32) (iQ_columns : Int32) (nW : Nat) (lw : Nat → Nat) (kw : ClassId) (wl : Nat → Int32) (wb : Nat → Int32) (wG : Nat → Nat → Int64) (p1 : Int32) (b_iO_answered : 0 ≤ iO_answered.toInt ∧ iO_answered.toInt ≤ 1) (b_iO_searched : 0 ≤ iO_searched.toInt ∧ iO_searched.toInt ≤ 1) (b_iO_searchedRelaxed : 0 ≤ iO_searchedRelaxed.toInt ∧ iO_searchedRelaxed.toInt ≤ 1) (b_iO_counted : (-1) ≤ iO_counted.toInt ∧ iO_counted.toInt ≤ 64) (b_fO_countedCase : ∀ q : Nat, 0 ≤ (fO_countedCase q).toInt ∧ (fO_countedCase q).toInt ≤ 200000) (b_fO_column : ∀ q : Nat, (-1) ≤ (fO_column q).toInt ∧ (fO_column q).toInt ≤ 8) (b_fO_chosen : ∀ q : Nat, 0 ≤ (fO_chosen q).toInt ∧ (fO_chosen q).toInt ≤ 2) (b_iM_stands : 0 ≤ iM_stands.toInt ∧ iM_stands.toInt ≤ 1) (b_iM_variables : 0 ≤ iM_variables.toInt ∧ iM_variables.toInt ≤ 8) (b_iM_rows : 0 ≤ iM_rows.toInt ∧ iM_rows.toInt ≤ 12) (b_iM_goals : 0 ≤ iM_goals.toInt ∧ iM_goals.toInt ≤ 3) (b_iM_differents : 0 ≤ iM_differents.toInt ∧ iM_differents.toInt ≤ 8) (b_iM_cases : 0 ≤ iM_cases.toInt ∧ iM_cases.toInt ≤ 200000) (b_fM_ways : ∀ q : Nat, 0 ≤ (fM_ways q).toInt ∧ (fM_ways q).toInt ≤ 3) (b_iM_plainRows : 0 ≤ iM_plainRows.toInt ∧ iM_plainRows.toInt ≤ 12) (b_fM_plainRow : ∀ q : Nat, 0 ≤ (fM_plainRow q).toInt ∧ (fM_plainRow q).toInt ≤ 11) (b_pr : iM_plainRows.toInt ≤ iM_rows.toInt) (b_iQ_rows : 0 ≤ iQ_rows.toInt ∧ iQ_rows.toInt ≤ 40) (b_iQ_allRows : 0 ≤ iQ_allRows.toInt ∧ iQ_allRows.toInt ≤ 40) (b_iQ_columns : 0 ≤ iQ_columns.toInt ∧ iQ_columns.toInt ≤ 40) (b_tb : TbO iQ_rows iQ_allRows iQ_columns) (b_wl : ∀ q : Nat, 0 ≤ (wl q).toInt ∧ (wl q).toInt ≤ 14) (b_wb : ∀ q : Nat, 0 ≤ (wb q).toInt ∧ (wb q).toInt ≤ 1) (b_p1 : 0 ≤ p1.toInt ∧ p1.toInt ≤ 1) (hnW : 432 ≤ nW) (sz : Nat) : Met l yX5_findAnswer wsMX5_findAnswer ({ frames := 7, cells := 0, slots := 0, locals := 178 }) (va_Pc [.ref (hO 0), .int p1] (fun U => U.heap.size = sz ∧ va_P (dC, dI) vwCl (WO hO aO kO hM hQ hw iO_answered iO_searched iO_searchedRelaxed iO_counted fO_countedCase gO_goalNumber gO_goalScale fO_start fO_column fO_chosen ++ (WM hM aM kM iM_stands iM_variables iM_rows iM_goals iM_differents iM_cases fM_from fM_to fM_whole fM_ways iM_plainRows fM_plainRow fM_kept fM_goalOver fM_goalUnder fM_goalMax fM_different ++ (WQ hQ aQ kQ hw fQ_inside fQ_outside fQ_shut iQ_rows iQ_allRows iQ_columns ++ (WW nW hw lw kw wl wb wG)))) U.heap ∧ va_K (dC, dI) vwCl (tO kO ++ (tM kM ++ (tQ kQ ++ (tW kw)))) U ∧ va_D (fun _ => True) (WO hO aO kO hM hQ hw iO_answered iO_searched iO_searchedRelaxed iO_counted fO_countedCase gO_goalNumber gO_goalScale fO_start fO_column fO_chosen ++ (WM hM aM kM iM_stands iM_variables iM_rows iM_goals iM_differents iM_cases fM_from fM_to fM_whole fM_ways iM_plainRows fM_plainRow fM_kept fM_goalOver fM_goalUnder fM_goalMax fM_different ++ (WQ hQ aQ kQ hw fQ_inside fQ_outside fQ_shut iQ_rows iQ_allRows iQ_columns ++ (WW nW hw lw kw wl wb wG)))))) (va_Qi (fun (r : Int32) (u : (Int32) × (Int32) × (Int32) × (Nat → Int64) × (Nat → Int64) × (Nat → Int32) × (Nat → Int32) × (Nat → Int32) × (Nat → Int32) × (Nat → Int32) × (Nat → Int32) × (Int32) × (Int32) × (Int32) × (Nat → Int32) × (Nat → Int32) × (Nat → Nat → Int64)) => (0 ≤ (u.1).toInt ∧ (u.1).toInt ≤ 1) ∧ (0 ≤ (u.2.1).toInt ∧ (u.2.1).toInt ≤ 1) ∧ (0 ≤ (u.2.2.1).toInt ∧ (u.2.2.1).toInt ≤ 1) ∧ (∀ q : Nat, (-1) ≤ ((u.2.2.2.2.2.2.1) q).toInt ∧ ((u.2.2.2.2.2.2.1) q).toInt ≤ 8) ∧ (∀ q : Nat, 0 ≤ ((u.2.2.2.2.2.2.2.1) q).toInt ∧ ((u.2.2.2.2.2.2.2.1) q).toInt ≤ 2) ∧ (0 ≤ (u.2.2.2.2.2.2.2.2.2.2.2.1).toInt ∧ (u.2.2.2.2.2.2.2.2.2.2.2.1).toInt ≤ 40) ∧ (0 ≤ (u.2.2.2.2.2.2.2.2.2.2.2.2.1).toInt ∧ (u.2.2.2.2.2.2.2.2.2.2.2.2.1).toInt ≤ 40) ∧ (0 ≤ (u.2.2.2.2.2.2.2.2.2.2.2.2.2.1).toInt ∧ (u.2.2.2.2.2.2.2.2.2.2.2.2.2.1).toInt ≤ 40) ∧ (∀ q : Nat, 0 ≤ ((u.2.2.2.2.2.2.2.2.2.2.2.2.2.2.1) q).toInt ∧ ((u.2.2.2.2.2.2.2.2.2.2.2.2.2.2.1) q).toInt ≤ 14) ∧ (∀ q : Nat, 0 ≤ ((u.2.2.2.2.2.2.2.2.2.2.2.2.2.2.2.1) q).toInt ∧ ((u.2.2.2.2.2.2.2.2.2.2.2.2.2.2.2.1) q).toInt ≤ 1) ∧ (TbO (u.2.2.2.2.2.2.2.2.2.2.2.1) (u.2.2.2.2.2.2.2.2.2.2.2.2.1) (u.2.2.2.2.2.2.2.2.2.2.2.2.2.1)) ∧ (0 ≤ r.toInt ∧ r.toInt ≤ 1)) (fun (u : (Int32) × (Int32) × (Int32) × (Nat → Int64) × (Nat → Int64) × (Nat → Int32) × (Nat → Int32) × (Nat → Int32) × (Nat → Int32) × (Nat → Int32) × (Nat → Int32) × (Int32) × (Int32) × (Int32) × (Nat → Int32) × (Nat → Int32) × (Nat → Nat → Int64)) t => va_P (dC, dI) vwCl (WO hO aO kO hM hQ hw (u.1) (u.2.1) (u.2.2.1) iO_counted fO_countedCase (u.2.2.2.1) (u.2.2.2.2.1) (u.2.2.2.2.2.1) (u.2.2.2.2.2.2.1) (u.2.2.2.2.2.2.2.1) ++ (WM hM aM kM iM_stands iM_variables iM_rows iM_goals iM_differents iM_cases fM_from fM_to fM_whole fM_ways iM_plainRows fM_plainRow fM_kept fM_goalOver fM_goalUnder fM_goalMax fM_different ++ (WQ hQ aQ kQ hw (u.2.2.2.2.2.2.2.2.1) (u.2.2.2.2.2.2.2.2.2.1) (u.2.2.2.2.2.2.2.2.2.2.1) (u.2.2.2.2.2.2.2.2.2.2.2.1) (u.2.2.2.2.2.2.2.2.2.2.2.2.1) (u.2.2.2.2.2.2.2.2.2.2.2.2.2.1) ++ (WW nW hw lw kw (u.2.2.2.2.2.2.2.2.2.2.2.2.2.2.1) (u.2.2.2.2.2.2.2.2.2.2.2.2.2.2.2.1) (u.2.2.2.2.2.2.2.2.2.2.2.2.2.2.2.2))))) t.heap ∧ va_D (va_A (WO hO aO kO hM hQ hw iO_answered iO_searched iO_searchedRelaxed iO_counted fO_countedCase gO_goalNumber gO_goalScale fO_start fO_column fO_chosen ++ (WM hM aM kM iM_stands iM_variables iM_rows iM_goals iM_differents iM_cases fM_from fM_to fM_whole fM_ways iM_plainRows fM_plainRow fM_kept fM_goalOver fM_goalUnder fM_goalMax fM_different ++ (WQ hQ aQ kQ hw fQ_inside fQ_outside fQ_shut iQ_rows iQ_allRows iQ_columns ++ (WW nW hw lw kw wl wb wG)))) sz) (WO hO aO kO hM hQ hw (u.1) (u.2.1) (u.2.2.1) iO_counted fO_countedCase (u.2.2.2.1) (u.2.2.2.2.1) (u.2.2.2.2.2.1) (u.2.2.2.2.2.2.1) (u.2.2.2.2.2.2.2.1) ++ (WM hM aM kM iM_stands iM_variables iM_rows iM_goals iM_differents iM_cases fM_from fM_to fM_whole fM_ways iM_plainRows fM_plainRow fM_kept fM_goalOver fM_goalUnder fM_goalMax fM_different ++ (WQ hQ aQ kQ hw (u.2.2.2.2.2.2.2.2.1) (u.2.2.2.2.2.2.2.2.2.1) (u.2.2.2.2.2.2.2.2.2.2.1) (u.2.2.2.2.2.2.2.2.2.2.2.1) (u.2.2.2.2.2.2.2.2.2.2.2.2.1) (u.2.2.2.2.2.2.2.2.2.2.2.2.2.1) ++ (WW nW hw lw kw (u.2.2.2.2.2.2.2.2.2.2.2.2.2.2.1) (u.2.2.2.2.2.2.2.2.2.2.2.2.2.2.2.1) (u.2.2.2.2.2.2.2.2.2.2.2.2.2.2.2.2)))))) (va_A (WO hO aO kO hM hQ hw iO_answered iO_searched iO_searchedRelaxed iO_counted fO_countedCase gO_goalNumber gO_goalScale fO_start fO_column fO_chosen ++ (WM hM aM kM iM_stands iM_variables iM_rows iM_goals iM_differents iM_cases fM_from fM_to fM_whole fM_ways iM_plainRows fM_plainRow fM_kept fM_goalOver fM_goalUnder fM_goalMax fM_different ++ (WQ hQ aQ kQ hw fQ_inside fQ_outside fQ_shut iQ_rows iQ_allRows iQ_columns ++ (WW nW hw lw kw wl wb wG)))) sz)) 0 0 (va_A (WO hO aO kO hM hQ hw iO_answered iO_searched iO_searchedRelaxed iO_counted fO_countedCase gO_goalNumber gO_goalScale fO_start fO_column fO_chosen ++ (WM hM aM kM iM_stands iM_variables iM_rows iM_goals iM_differents iM_cases fM_from fM_to fM_whole fM_ways iM_plainRows fM_plainRow fM_kept fM_goalOver fM_goalUnder fM_goalMax fM_different ++ (WQ hQ aQ kQ hw fQ_inside fQ_outside fQ_shut iQ_rows iQ_allRows iQ_columns ++ (WW nW hw lw kw wl wb wG)))) sz) := by
  refine Met.ofW (cc := cX5_findAnswer) (maxL := 4) (ret := (some .boolean)) (by decide) rfl ?_
  intro p e s m args below meth c s₁ B hml hv
  obtain ⟨rfl, hsz, hP, hK, hD0⟩ := hv
  have hx := B.exec
  have hb := B.bytes
  have hr := B.returns
  have hts := atoms_spec (ws := wsMX5_findAnswer) B.pre
  have hown : s.vm.findClass RX5 = some m.cls := findClass_of_methodNamed B.named
  have hlocks := B.notSynchronized
  subst hsz
  have hD := hD0.self (sz := s.heap.size)
  generalize hAe : va_A (WO hO aO kO hM hQ hw iO_answered iO_searched iO_searchedRelaxed iO_counted fO_countedCase gO_goalNumber gO_goalScale fO_start fO_column fO_chosen ++ (WM hM aM kM iM_stands iM_variables iM_rows iM_goals iM_differents iM_cases fM_from fM_to fM_whole fM_ways iM_plainRows fM_plainRow fM_kept fM_goalOver fM_goalUnder fM_goalMax fM_different ++ (WQ hQ aQ kQ hw fQ_inside fQ_outside fQ_shut iQ_rows iQ_allRows iQ_columns ++ (WW nW hw lw kw wl wb wG)))) s.heap.size = A at hD ⊢
  have hA : ∀ q : Nat, s.heap.size ≤ q → A q := fun q h => by rw [← hAe]; exact Or.inr h
  have hS : va_S A s.heap s.heap [] := va_S.rf
  have hl := lv_entry ([.ref (hO 0), .int p1]) (n := 4) (Nat.le_of_ble_eq_true rfl)
  rw [lg_entry_eq]
  generalize (lg_sl ([.ref (hO 0), .int p1]) ++ List.replicate (4 - (lg_sl ([.ref (hO 0), .int p1])).length) Slot.unset).toArray = ls at hl ⊢
  have hl : lv_has ls 4 [(0, .ref (hO 0)), (1, .int p1)] := hl
  refine lv_aload_n hx hb dX5_findAnswer_0 rfl (lv_at hl 0 rfl) ?_
  refine va_get (D := (dC, dI)) (ci := 5) (v := .int iO_searched) (C := RX5) (T := TX5) (N := 19) hx hb hts iwsMX5_findAnswer_in5 hown hK hP 0 rfl rfl 3 (by decide) (hts _ hm_m_X5_findAnswer_0) (fun _ h9 => h9) rfl dX5_findAnswer_1 ?_
  refine lv_if_eq (tgt := 20) hx hb dX5_findAnswer_4 (by decide) (fun c_4 => ?_) (fun c_4 => ?_)
  · have t_4 : iO_searched.toInt = 0 := toI_eq c_4 rfl (by decide : (0 : Int32).toInt = 0)
    refine lv_aload_n hx hb dX5_findAnswer_20 rfl (lv_at hl 0 rfl) ?_
    refine lv_iconst (v := 1) hx hb dX5_findAnswer_21 (by decide) ?_
    refine va_put (D := (dC, dI)) (ci := 5) (v := .int 1) (ty := .boolean) (C := RX5) (T := TX5) (N := 19) hx hb hts iwsMX5_findAnswer_in5 tyX5 tyX5_ok nmX5 hown hK hP hD hS 0 rfl rfl 3 (by decide) (hts _ hm_m_X5_findAnswer_0) (fun _ h9 => h9) rfl (by decide +kernel) rfl rfl (Nat.le_of_ble_eq_true rfl) dX5_findAnswer_22 (fun H locs hP hD hS => ?_)
    have hP : va_P (dC, dI) vwCl (WO hO aO kO hM hQ hw iO_answered 1 iO_searchedRelaxed iO_counted fO_countedCase gO_goalNumber gO_goalScale fO_start fO_column fO_chosen ++ (WM hM aM kM iM_stands iM_variables iM_rows iM_goals iM_differents iM_cases fM_from fM_to fM_whole fM_ways iM_plainRows fM_plainRow fM_kept fM_goalOver fM_goalUnder fM_goalMax fM_different ++ (WQ hQ aQ kQ hw fQ_inside fQ_outside fQ_shut iQ_rows iQ_allRows iQ_columns ++ (WW nW hw lw kw wl wb wG)))) H := hP
    have hD := fz_sd hP (hD) rfl
    refine lv_aload_n hx hb dX5_findAnswer_25 rfl (lv_at hl 0 rfl) ?_
    refine lv_iload_n hx hb dX5_findAnswer_26 rfl (lv_at hl 1 rfl) ?_
    refine va_put (D := (dC, dI)) (ci := 5) (v := .int p1) (ty := .boolean) (C := RX5) (T := TX5) (N := 19) hx hb hts iwsMX5_findAnswer_in5 tyX5 tyX5_ok nmX5 hown hK hP hD hS 0 rfl rfl 4 (by decide) (hts _ hm_m_X5_findAnswer_1) (fun _ h9 => h9) rfl (by decide +kernel) (by rcases z01 (x := p1) (b_p1) with h9 | h9 <;> rw [h9] <;> rfl) (by rcases z01 (x := p1) (b_p1) with h9 | h9 <;> rw [h9] <;> rfl) (Nat.le_of_ble_eq_true rfl) dX5_findAnswer_27 (fun H locs hP hD hS => ?_)
    have hP : va_P (dC, dI) vwCl (WO hO aO kO hM hQ hw iO_answered 1 p1 iO_counted fO_countedCase gO_goalNumber gO_goalScale fO_start fO_column fO_chosen ++ (WM hM aM kM iM_stands iM_variables iM_rows iM_goals iM_differents iM_cases fM_from fM_to fM_whole fM_ways iM_plainRows fM_plainRow fM_kept fM_goalOver fM_goalUnder fM_goalMax fM_different ++ (WQ hQ aQ kQ hw fQ_inside fQ_outside fQ_shut iQ_rows iQ_allRows iQ_columns ++ (WW nW hw lw kw wl wb wG)))) H := hP
    have hD := fz_sd hP (hD) rfl
    refine lv_aload_n hx hb dX5_findAnswer_30 rfl (lv_at hl 0 rfl) ?_
    refine lv_iconst (v := 0) hx hb dX5_findAnswer_31 (by decide) ?_
    refine va_put (D := (dC, dI)) (ci := 5) (v := .int 0) (ty := .boolean) (C := RX5) (T := TX5) (N := 19) hx hb hts iwsMX5_findAnswer_in5 tyX5 tyX5_ok nmX5 hown hK hP hD hS 0 rfl rfl 2 (by decide) (hts _ hm_m_X5_findAnswer_2) (fun _ h9 => h9) rfl (by decide +kernel) rfl rfl (Nat.le_of_ble_eq_true rfl) dX5_findAnswer_32 (fun H locs hP hD hS => ?_)
    have hP : va_P (dC, dI) vwCl (WO hO aO kO hM hQ hw 0 1 p1 iO_counted fO_countedCase gO_goalNumber gO_goalScale fO_start fO_column fO_chosen ++ (WM hM aM kM iM_stands iM_variables iM_rows iM_goals iM_differents iM_cases fM_from fM_to fM_whole fM_ways iM_plainRows fM_plainRow fM_kept fM_goalOver fM_goalUnder fM_goalMax fM_different ++ (WQ hQ aQ kQ hw fQ_inside fQ_outside fQ_shut iQ_rows iQ_allRows iQ_columns ++ (WW nW hw lw kw wl wb wG)))) H := hP
    have hD := fz_sd hP (hD) rfl
    refine lv_aload_n hx hb dX5_findAnswer_35 rfl (lv_at hl 0 rfl) ?_
    have hFc := allFree hD hS hA
    refine va_callv (va_runV (As := []) (rest := []) ⟨hx, hb, hml, hown, hts⟩ (m_X5_scaleGoals l dC dI hO aO kO hM hQ hw 0 1 p1 iO_counted fO_countedCase gO_goalNumber gO_goalScale fO_start fO_column fO_chosen aM kM iM_stands iM_variables iM_rows iM_goals iM_differents iM_cases fM_from fM_to fM_whole fM_ways iM_plainRows fM_plainRow fM_kept fM_goalOver fM_goalUnder fM_goalMax fM_different aQ kQ fQ_inside fQ_outside fQ_shut iQ_rows iQ_allRows iQ_columns nW lw kw wl wb wG (show 0 ≤ (0 : Int32).toInt ∧ (0 : Int32).toInt ≤ 1 from by decide) (show 0 ≤ (1 : Int32).toInt ∧ (1 : Int32).toInt ≤ 1 from by decide) (b_p1) (b_iO_counted) b_fO_countedCase b_fO_column b_fO_chosen (b_iM_stands) (b_iM_variables) (b_iM_rows) (b_iM_goals) (b_iM_differents) (b_iM_cases) b_fM_ways (b_iM_plainRows) b_fM_plainRow (by first | with_reducible assumption | omega | assumption) (b_iQ_rows) (b_iQ_allRows) (b_iQ_columns) (by first | with_reducible assumption | omega | assumption) b_wl b_wb (by omega) H.size) (cwV 0 hts gwsMX5_findAnswer_0 rfl rfl rfl hd_yX5_scaleGoals_RX5 (by decide +kernel)) (fz_pre (va_recv hK hP (ci := 5) (q0 := 0) rfl rfl) hP hK hD) rfl rfl hl.1 rfl (lv_room (Nat.le_of_ble_eq_true rfl)) dX5_findAnswer_36 (by decide +kernel)) hS (fun q _ h => hFc q h) hFc (fun u t9_ H locs ht hvm hw9 hB9 hz1 hk1 hS => ?_)
    revert u hw9 hB9
    refine fz_p2 ?_
    intro gO_goalNumber_1 gO_goalScale_1 hw9 hB9
    try dsimp only at hw9 hB9
    clear hw9
    have hP : va_P (dC, dI) vwCl (WO hO aO kO hM hQ hw 0 1 p1 iO_counted fO_countedCase gO_goalNumber_1 gO_goalScale_1 fO_start fO_column fO_chosen ++ (WM hM aM kM iM_stands iM_variables iM_rows iM_goals iM_differents iM_cases fM_from fM_to fM_whole fM_ways iM_plainRows fM_plainRow fM_kept fM_goalOver fM_goalUnder fM_goalMax fM_different ++ (WQ hQ aQ kQ hw fQ_inside fQ_outside fQ_shut iQ_rows iQ_allRows iQ_columns ++ (WW nW hw lw kw wl wb wG)))) H := fz_P ht hB9.1
    have hD := fz_sd hP (hB9.2.weaken (fun _ q _ h => hFc q.1 h)) rfl
    refine lv_iload_n hx hb dX5_findAnswer_39 rfl (lv_at hl 1 rfl) ?_
    refine W.cut (pc := 54) (fun H locs ls stk => ∃ (k0_j3 : Int32), (0 ≤ k0_j3.toInt ∧ k0_j3.toInt ≤ 200000) ∧  stk = [.int k0_j3] ∧ va_P (dC, dI) vwCl (WO hO aO kO hM hQ hw 0 1 p1 iO_counted fO_countedCase gO_goalNumber_1 gO_goalScale_1 fO_start fO_column fO_chosen ++ (WM hM aM kM iM_stands iM_variables iM_rows iM_goals iM_differents iM_cases fM_from fM_to fM_whole fM_ways iM_plainRows fM_plainRow fM_kept fM_goalOver fM_goalUnder fM_goalMax fM_different ++ (WQ hQ aQ kQ hw fQ_inside fQ_outside fQ_shut iQ_rows iQ_allRows iQ_columns ++ (WW nW hw lw kw wl wb wG)))) H ∧ va_D A (WO hO aO kO hM hQ hw 0 1 p1 iO_counted fO_countedCase gO_goalNumber_1 gO_goalScale_1 fO_start fO_column fO_chosen ++ (WM hM aM kM iM_stands iM_variables iM_rows iM_goals iM_differents iM_cases fM_from fM_to fM_whole fM_ways iM_plainRows fM_plainRow fM_kept fM_goalOver fM_goalUnder fM_goalMax fM_different ++ (WQ hQ aQ kQ hw fQ_inside fQ_outside fQ_shut iQ_rows iQ_allRows iQ_columns ++ (WW nW hw lw kw wl wb wG)))) ∧ va_S A s.heap H locs ∧ lv_has ls 4 [(0, .ref (hO 0)), (1, .int p1)]) (fun join3 => ?_) ?_
    · refine lv_if_eq (tgt := 47) hx hb dX5_findAnswer_40 (by decide) (fun c_40 => ?_) (fun c_40 => ?_)
      · have t_40 : p1.toInt = 0 := toI_eq c_40 rfl (by decide : (0 : Int32).toInt = 0)
        refine lv_aload_n hx hb dX5_findAnswer_47 rfl (lv_at hl 0 rfl) ?_
        refine va_get (D := (dC, dI)) (ci := 5) (v := .ref (hM 0)) (C := RX5) (T := TX5) (N := 19) hx hb hts iwsMX5_findAnswer_in5 hown hK hP 0 rfl rfl 0 (by decide) (hts _ hm_m_X5_findAnswer_3) (fun _ h9 => h9) rfl dX5_findAnswer_48 ?_
        refine va_get (D := (dC, dI)) (ci := 1) (v := .int iM_cases) (C := RX1) (T := TX1) (N := 17) hx hb hts iwsMX5_findAnswer_in1 hown hK hP 11 rfl rfl 5 (by decide) (hts _ hm_m_X5_findAnswer_4) (fun _ h9 => h9) rfl dX5_findAnswer_51 ?_
        have hl : lv_has _ _ ([(0, .ref (hO 0)), (1, .int p1)]) := lv_sub hl [0, 1] rfl
        exact join3 _ _ _ _ ⟨iM_cases, (b_iM_cases), rfl, hP, hD, hS, hl⟩
      · have t_40 : ¬ p1.toInt = 0 := toI_neq c_40 rfl (by decide : (0 : Int32).toInt = 0)
        refine lv_iconst (v := 1) hx hb dX5_findAnswer_43 (by decide) ?_
        refine lv_goto (tgt := 54) hx hb dX5_findAnswer_44 (by decide) ?_
        have hl : lv_has _ _ ([(0, .ref (hO 0)), (1, .int p1)]) := lv_sub hl [0, 1] rfl
        exact join3 _ _ _ _ ⟨1, (show 0 ≤ (1 : Int32).toInt ∧ (1 : Int32).toInt ≤ 200000 from by decide), rfl, hP, hD, hS, hl⟩
    · rintro H locs ls stk ⟨k0_j3, b_k0_j3, rfl, hP, hD, hS, hl⟩
      refine lv_istore_n hx hb dX5_findAnswer_54 rfl hl (by decide) rfl (fun ls (hl : lv_has ls _ ([(2, .int k0_j3), (0, .ref (hO 0)), (1, .int p1)])) => ?_)
      refine lv_iconst (v := 0) hx hb dX5_findAnswer_55 (by decide) ?_
      refine lv_istore_n hx hb dX5_findAnswer_56 rfl hl (by decide) rfl (fun ls (hl : lv_has ls _ ([(3, .int 0), (2, .int k0_j3), (0, .ref (hO 0)), (1, .int p1)])) => ?_)
      have hl : lv_has _ _ ([(3, .int 0), (2, .int k0_j3), (0, .ref (hO 0)), (1, .int p1)]) := lv_sub hl [0, 1, 2, 3] rfl
      refine (fun (loop : ∀ (n9 : Nat) (iO_answered_x57 : Int32) (fO_start_x57 : Nat → Int32) (fO_column_x57 : Nat → Int32) (fO_chosen_x57 : Nat → Int32) (fQ_inside_x57 : Nat → Int32) (fQ_outside_x57 : Nat → Int32) (fQ_shut_x57 : Nat → Int32) (iQ_rows_x57 : Int32) (iQ_allRows_x57 : Int32) (iQ_columns_x57 : Int32) (wl_x57 : Nat → Int32) (wb_x57 : Nat → Int32) (wG_x57 : Nat → Nat → Int64) (l3_x57 : Int32) (H : Heap) (locs : List Loc) (ls : Array Slot), (0 ≤ iO_answered_x57.toInt ∧ iO_answered_x57.toInt ≤ 1) → (∀ q : Nat, (-1) ≤ (fO_column_x57 q).toInt ∧ (fO_column_x57 q).toInt ≤ 8) → (∀ q : Nat, 0 ≤ (fO_chosen_x57 q).toInt ∧ (fO_chosen_x57 q).toInt ≤ 2) → (0 ≤ iQ_rows_x57.toInt ∧ iQ_rows_x57.toInt ≤ 40) → (0 ≤ iQ_allRows_x57.toInt ∧ iQ_allRows_x57.toInt ≤ 40) → (0 ≤ iQ_columns_x57.toInt ∧ iQ_columns_x57.toInt ≤ 40) → (∀ q : Nat, 0 ≤ (wl_x57 q).toInt ∧ (wl_x57 q).toInt ≤ 14) → (∀ q : Nat, 0 ≤ (wb_x57 q).toInt ∧ (wb_x57 q).toInt ≤ 1) → (0 ≤ l3_x57.toInt ∧ l3_x57.toInt ≤ 200000) → (TbO iQ_rows_x57 iQ_allRows_x57 iQ_columns_x57) → (200000 - l3_x57.toInt < ((n9 : Nat) : Int)) → va_P (dC, dI) vwCl (WO hO aO kO hM hQ hw iO_answered_x57 1 p1 iO_counted fO_countedCase gO_goalNumber_1 gO_goalScale_1 fO_start_x57 fO_column_x57 fO_chosen_x57 ++ (WM hM aM kM iM_stands iM_variables iM_rows iM_goals iM_differents iM_cases fM_from fM_to fM_whole fM_ways iM_plainRows fM_plainRow fM_kept fM_goalOver fM_goalUnder fM_goalMax fM_different ++ (WQ hQ aQ kQ hw fQ_inside_x57 fQ_outside_x57 fQ_shut_x57 iQ_rows_x57 iQ_allRows_x57 iQ_columns_x57 ++ (WW nW hw lw kw wl_x57 wb_x57 wG_x57)))) H → va_D A (WO hO aO kO hM hQ hw iO_answered_x57 1 p1 iO_counted fO_countedCase gO_goalNumber_1 gO_goalScale_1 fO_start_x57 fO_column_x57 fO_chosen_x57 ++ (WM hM aM kM iM_stands iM_variables iM_rows iM_goals iM_differents iM_cases fM_from fM_to fM_whole fM_ways iM_plainRows fM_plainRow fM_kept fM_goalOver fM_goalUnder fM_goalMax fM_different ++ (WQ hQ aQ kQ hw fQ_inside_x57 fQ_outside_x57 fQ_shut_x57 iQ_rows_x57 iQ_allRows_x57 iQ_columns_x57 ++ (WW nW hw lw kw wl_x57 wb_x57 wG_x57)))) → va_S A s.heap H locs → lv_has ls 4 [(3, .int l3_x57), (2, .int k0_j3), (0, .ref (hO 0)), (1, .int p1)] → W p l e _ s m _ below meth c H locs 0 0 _ (F0 m 57 ls [])) => loop (200001) 0 fO_start fO_column fO_chosen fQ_inside fQ_outside fQ_shut iQ_rows iQ_allRows iQ_columns wl wb wG 0 _ _ _ (show 0 ≤ (0 : Int32).toInt ∧ (0 : Int32).toInt ≤ 1 from by decide) b_fO_column b_fO_chosen (b_iQ_rows) (b_iQ_allRows) (b_iQ_columns) b_wl b_wb (show 0 ≤ (0 : Int32).toInt ∧ (0 : Int32).toInt ≤ 200000 from by decide) (by first | with_reducible assumption | omega | assumption) ((by have e9 : (0 : Int32).toInt = 0 := (by decide : (0 : Int32).toInt = 0); omega)) hP hD hS hl) ?_
      intro n9
      induction n9 with
      | zero => intro iO_answered_x57 fO_start_x57 fO_column_x57 fO_chosen_x57 fQ_inside_x57 fQ_outside_x57 fQ_shut_x57 iQ_rows_x57 iQ_allRows_x57 iQ_columns_x57 wl_x57 wb_x57 wG_x57 l3_x57 H locs ls b_iO_answered_x57 b_fO_column_x57 b_fO_chosen_x57 b_iQ_rows_x57 b_iQ_allRows_x57 b_iQ_columns_x57 b_wl_x57 b_wb_x57 b_l3_x57 b_tb_x57 hf9; exact False.elim (by omega)
      | succ n9 ihx57 =>
        intro iO_answered_x57 fO_start_x57 fO_column_x57 fO_chosen_x57 fQ_inside_x57 fQ_outside_x57 fQ_shut_x57 iQ_rows_x57 iQ_allRows_x57 iQ_columns_x57 wl_x57 wb_x57 wG_x57 l3_x57 H locs ls b_iO_answered_x57 b_fO_column_x57 b_fO_chosen_x57 b_iQ_rows_x57 b_iQ_allRows_x57 b_iQ_columns_x57 b_wl_x57 b_wb_x57 b_l3_x57 b_tb_x57 hfx57 hP hD hS hl
        refine lv_iload_n hx hb dX5_findAnswer_57 rfl (lv_at hl 0 rfl) ?_
        refine lv_iload_n hx hb dX5_findAnswer_58 rfl (lv_at hl 1 rfl) ?_
        refine lv_icmp_ge (tgt := 107) hx hb dX5_findAnswer_59 (by decide) (fun c_59 => ?_) (fun c_59 => ?_)
        · have t_59 : l3_x57.toInt ≥ k0_j3.toInt := toI_ge c_59 rfl rfl
          refine lv_aload_n hx hb dX5_findAnswer_107 rfl (lv_at hl 2 rfl) ?_
          refine va_get (D := (dC, dI)) (ci := 5) (v := .int iO_answered_x57) (C := RX5) (T := TX5) (N := 19) hx hb hts iwsMX5_findAnswer_in5 hown hK hP 0 rfl rfl 2 (by decide) (hts _ hm_m_X5_findAnswer_2) (fun _ h9 => h9) rfl dX5_findAnswer_108 ?_
          refine W.widen (k := 0) (n := 0) (by decide +kernel) (by decide +kernel) ?_
          exact W.zret (v := iO_answered_x57) hx hb hr (by rcases z01 (x := iO_answered_x57) (b_iO_answered_x57) with h9 | h9 <;> rw [h9] <;> rfl) (fun t9_ ht hW => ⟨⟨iO_answered_x57, (iO_answered_x57, 1, p1, gO_goalNumber_1, gO_goalScale_1, fO_start_x57, fO_column_x57, fO_chosen_x57, fQ_inside_x57, fQ_outside_x57, fQ_shut_x57, iQ_rows_x57, iQ_allRows_x57, iQ_columns_x57, wl_x57, wb_x57, wG_x57), rfl, ⟨b_iO_answered_x57, (by (try dsimp only); exact (show 0 ≤ (1 : Int32).toInt ∧ (1 : Int32).toInt ≤ 1 from by decide)), b_p1, b_fO_column_x57, b_fO_chosen_x57, b_iQ_rows_x57, b_iQ_allRows_x57, b_iQ_columns_x57, b_wl_x57, b_wb_x57, (by (try dsimp only); exact (by first | with_reducible assumption | omega | assumption)), (b_iO_answered_x57)⟩, by rw [ht]; exact hP, hD⟩, hS.F ht⟩) hS.2.2 dX5_findAnswer_111
        · have t_59 : ¬ l3_x57.toInt ≥ k0_j3.toInt := toI_nge c_59 rfl rfl
          refine lv_iload_n hx hb dX5_findAnswer_62 rfl (lv_at hl 3 rfl) ?_
          refine lv_if_ne (tgt := 74) hx hb dX5_findAnswer_63 (by decide) (fun c_63 => ?_) (fun c_63 => ?_)
          · have t_63 : p1.toInt ≠ 0 := toI_ne c_63 rfl (by decide : (0 : Int32).toInt = 0)
            refine lv_aload_n hx hb dX5_findAnswer_74 rfl (lv_at hl 2 rfl) ?_
            refine lv_iload_n hx hb dX5_findAnswer_75 rfl (lv_at hl 3 rfl) ?_
            refine lv_aload_n hx hb dX5_findAnswer_76 rfl (lv_at hl 2 rfl) ?_
            refine va_get (D := (dC, dI)) (ci := 5) (v := .ref (hM 0)) (C := RX5) (T := TX5) (N := 19) hx hb hts iwsMX5_findAnswer_in5 hown hK hP 0 rfl rfl 0 (by decide) (hts _ hm_m_X5_findAnswer_3) (fun _ h9 => h9) rfl dX5_findAnswer_77 ?_
            refine va_get (D := (dC, dI)) (ci := 1) (v := .int iM_goals) (C := RX1) (T := TX1) (N := 17) hx hb hts iwsMX5_findAnswer_in1 hown hK hP 11 rfl rfl 3 (by decide) (hts _ hm_m_X5_findAnswer_5) (fun _ h9 => h9) rfl dX5_findAnswer_80 ?_
            have hFc := allFree hD hS hA
            refine va_calli (va_runV (As := [.int p1, .int iM_goals]) (rest := []) ⟨hx, hb, hml, hown, hts⟩ (m_X5_lay l dC dI hO aO kO hM hQ hw iO_answered_x57 1 p1 iO_counted fO_countedCase gO_goalNumber_1 gO_goalScale_1 fO_start_x57 fO_column_x57 fO_chosen_x57 aM kM iM_stands iM_variables iM_rows iM_goals iM_differents iM_cases fM_from fM_to fM_whole fM_ways iM_plainRows fM_plainRow fM_kept fM_goalOver fM_goalUnder fM_goalMax fM_different aQ kQ fQ_inside_x57 fQ_outside_x57 fQ_shut_x57 iQ_rows_x57 iQ_allRows_x57 iQ_columns_x57 nW lw kw wl_x57 wb_x57 wG_x57 p1 iM_goals (b_iO_answered_x57) (show 0 ≤ (1 : Int32).toInt ∧ (1 : Int32).toInt ≤ 1 from by decide) (b_p1) (b_iO_counted) b_fO_countedCase b_fO_column_x57 b_fO_chosen_x57 (b_iM_stands) (b_iM_variables) (b_iM_rows) (b_iM_goals) (b_iM_differents) (b_iM_cases) b_fM_ways (b_iM_plainRows) b_fM_plainRow (by first | with_reducible assumption | omega | assumption) (b_iQ_rows_x57) (b_iQ_allRows_x57) (b_iQ_columns_x57) (by first | with_reducible assumption | omega | assumption) b_wl_x57 b_wb_x57 (b_iM_goals) (by omega) H.size) (cwV 2 hts gwsMX5_findAnswer_1 rfl rfl rfl hd_yX5_lay_RX5 (by decide +kernel)) (fz_pre (va_recv hK hP (ci := 5) (q0 := 0) rfl rfl) hP hK hD) rfl rfl hl.1 rfl (lv_room (Nat.le_of_ble_eq_true rfl)) dX5_findAnswer_83 (by decide +kernel)) hS (fun q _ h => hFc q h) hFc (fun r37 u t9_ H locs ht hvm hw9 hB9 hz1 hk1 hS => ?_)
            revert u hw9 hB9
            refine fz_p11 ?_
            intro fO_start_37 fO_column_37 fQ_inside_37 fQ_outside_37 fQ_shut_37 iQ_rows_37 iQ_allRows_37 iQ_columns_37 wl_37 wb_37 wG_37 hw9 hB9
            try dsimp only at hw9 hB9
            revert hw9
            refine fz_a10 ?_
            intro b_fO_column_37 b_iQ_rows_37 b_iQ_allRows_37 b_iQ_columns_37 b_wl_37 b_wb_37 b_tb_37 b_r37 f37_0 f37_1
            have hP : va_P (dC, dI) vwCl (WO hO aO kO hM hQ hw iO_answered_x57 1 p1 iO_counted fO_countedCase gO_goalNumber_1 gO_goalScale_1 fO_start_37 fO_column_37 fO_chosen_x57 ++ (WM hM aM kM iM_stands iM_variables iM_rows iM_goals iM_differents iM_cases fM_from fM_to fM_whole fM_ways iM_plainRows fM_plainRow fM_kept fM_goalOver fM_goalUnder fM_goalMax fM_different ++ (WQ hQ aQ kQ hw fQ_inside_37 fQ_outside_37 fQ_shut_37 iQ_rows_37 iQ_allRows_37 iQ_columns_37 ++ (WW nW hw lw kw wl_37 wb_37 wG_37)))) H := fz_P ht hB9.1
            have hD := fz_sd hP (hB9.2.weaken (fun _ q _ h => hFc q.1 h)) rfl
            refine lv_if_eq (tgt := 101) hx hb dX5_findAnswer_86 (by decide) (fun c_86 => ?_) (fun c_86 => ?_)
            · have t_86 : r37.toInt = 0 := toI_eq c_86 rfl (by decide : (0 : Int32).toInt = 0)
              refine lv_iinc (v := (iI (l3_x57.toInt + 1))) hx hb dX5_findAnswer_101 hl (k := 0) rfl (iI_add2 (iI_of _) (by decide : (1 : Int32) = iI 1)) (by decide) rfl (fun ls (hl : lv_has ls _ ([(3, .int (iI (l3_x57.toInt + 1))), (2, .int k0_j3), (0, .ref (hO 0)), (1, .int p1)])) => ?_)
              refine lv_goto (tgt := 57) hx hb dX5_findAnswer_104 (by decide) ?_
              have hl : lv_has _ _ ([(3, .int (iI (l3_x57.toInt + 1))), (2, .int k0_j3), (0, .ref (hO 0)), (1, .int p1)]) := lv_sub hl [0, 1, 2, 3] rfl
              exact ihx57 iO_answered_x57 fO_start_37 fO_column_37 fO_chosen_x57 fQ_inside_37 fQ_outside_37 fQ_shut_37 iQ_rows_37 iQ_allRows_37 iQ_columns_37 wl_37 wb_37 wG_37 (iI (l3_x57.toInt + 1)) _ _ _ (b_iO_answered_x57) b_fO_column_37 b_fO_chosen_x57 (b_iQ_rows_37) (b_iQ_allRows_37) (b_iQ_columns_37) b_wl_37 b_wb_37 (iI_rng (Int.le_trans (by decide) (Int.add_le_add (b_l3_x57.1) (Int.le_refl _))) (by omega) (by decide) (by decide)) (by first | with_reducible assumption | omega | assumption) (by have e9 : ((iI (l3_x57.toInt + 1))).toInt = (l3_x57.toInt + 1) := (iI_t (Int.le_trans (by decide) (Int.add_le_add (b_l3_x57.1) (Int.le_refl _))) (Int.le_trans (Int.add_le_add (b_l3_x57.2) (Int.le_refl _)) (by decide))); omega) hP hD hS hl
            · have t_86 : ¬ r37.toInt = 0 := toI_neq c_86 rfl (by decide : (0 : Int32).toInt = 0)
              refine lv_aload_n hx hb dX5_findAnswer_89 rfl (lv_at hl 2 rfl) ?_
              refine lv_iload_n hx hb dX5_findAnswer_90 rfl (lv_at hl 3 rfl) ?_
              have hFc := allFree hD hS hA
              refine va_calli (va_runV (As := [.int p1]) (rest := []) ⟨hx, hb, hml, hown, hts⟩ (m_X5_settle l dC dI hO aO kO hM hQ hw iO_answered_x57 1 p1 iO_counted fO_countedCase gO_goalNumber_1 gO_goalScale_1 fO_start_37 fO_column_37 fO_chosen_x57 aM kM iM_stands iM_variables iM_rows iM_goals iM_differents iM_cases fM_from fM_to fM_whole fM_ways iM_plainRows fM_plainRow fM_kept fM_goalOver fM_goalUnder fM_goalMax fM_different aQ kQ fQ_inside_37 fQ_outside_37 fQ_shut_37 iQ_rows_37 iQ_allRows_37 iQ_columns_37 nW lw kw wl_37 wb_37 wG_37 p1 (b_iO_answered_x57) (show 0 ≤ (1 : Int32).toInt ∧ (1 : Int32).toInt ≤ 1 from by decide) (b_p1) (b_iO_counted) b_fO_countedCase b_fO_column_37 b_fO_chosen_x57 (b_iM_stands) (b_iM_variables) (b_iM_rows) (b_iM_goals) (b_iM_differents) (b_iM_cases) b_fM_ways (b_iM_plainRows) b_fM_plainRow (by first | with_reducible assumption | omega | assumption) (b_iQ_rows_37) (b_iQ_allRows_37) (b_iQ_columns_37) (by first | with_reducible assumption | omega | assumption) b_wl_37 b_wb_37 (by omega) (by omega) H.size) (cwV 1 hts gwsMX5_findAnswer_2 rfl rfl rfl hd_yX5_settle_RX5 (by decide +kernel)) (fz_pre (va_recv hK hP (ci := 5) (q0 := 0) rfl rfl) hP hK hD) rfl rfl hl.1 rfl (lv_room (Nat.le_of_ble_eq_true rfl)) dX5_findAnswer_91 (by decide +kernel)) hS (fun q _ h => hFc q h) hFc (fun r38 u t9_ H locs ht hvm hw9 hB9 hz1 hk1 hS => ?_)
              revert u hw9 hB9
              refine fz_p6 ?_
              intro fQ_inside_38 fQ_outside_38 fQ_shut_38 wl_38 wb_38 wG_38 hw9 hB9
              try dsimp only at hw9 hB9
              revert hw9
              refine fz_a3 ?_
              intro b_wl_38 b_wb_38 b_r38
              have hP : va_P (dC, dI) vwCl (WO hO aO kO hM hQ hw iO_answered_x57 1 p1 iO_counted fO_countedCase gO_goalNumber_1 gO_goalScale_1 fO_start_37 fO_column_37 fO_chosen_x57 ++ (WM hM aM kM iM_stands iM_variables iM_rows iM_goals iM_differents iM_cases fM_from fM_to fM_whole fM_ways iM_plainRows fM_plainRow fM_kept fM_goalOver fM_goalUnder fM_goalMax fM_different ++ (WQ hQ aQ kQ hw fQ_inside_38 fQ_outside_38 fQ_shut_38 iQ_rows_37 iQ_allRows_37 iQ_columns_37 ++ (WW nW hw lw kw wl_38 wb_38 wG_38)))) H := fz_P ht hB9.1
              have hD := fz_sd hP (hB9.2.weaken (fun _ q _ h => hFc q.1 h)) rfl
              refine lv_if_eq (tgt := 101) hx hb dX5_findAnswer_94 (by decide) (fun c_94 => ?_) (fun c_94 => ?_)
              · have t_94 : r38.toInt = 0 := toI_eq c_94 rfl (by decide : (0 : Int32).toInt = 0)
                refine lv_iinc (v := (iI (l3_x57.toInt + 1))) hx hb dX5_findAnswer_101 hl (k := 0) rfl (iI_add2 (iI_of _) (by decide : (1 : Int32) = iI 1)) (by decide) rfl (fun ls (hl : lv_has ls _ ([(3, .int (iI (l3_x57.toInt + 1))), (2, .int k0_j3), (0, .ref (hO 0)), (1, .int p1)])) => ?_)
                refine lv_goto (tgt := 57) hx hb dX5_findAnswer_104 (by decide) ?_
                have hl : lv_has _ _ ([(3, .int (iI (l3_x57.toInt + 1))), (2, .int k0_j3), (0, .ref (hO 0)), (1, .int p1)]) := lv_sub hl [0, 1, 2, 3] rfl
                exact ihx57 iO_answered_x57 fO_start_37 fO_column_37 fO_chosen_x57 fQ_inside_38 fQ_outside_38 fQ_shut_38 iQ_rows_37 iQ_allRows_37 iQ_columns_37 wl_38 wb_38 wG_38 (iI (l3_x57.toInt + 1)) _ _ _ (b_iO_answered_x57) b_fO_column_37 b_fO_chosen_x57 (b_iQ_rows_37) (b_iQ_allRows_37) (b_iQ_columns_37) b_wl_38 b_wb_38 (iI_rng (Int.le_trans (by decide) (Int.add_le_add (b_l3_x57.1) (Int.le_refl _))) (by omega) (by decide) (by decide)) (by first | with_reducible assumption | omega | assumption) (by have e9 : ((iI (l3_x57.toInt + 1))).toInt = (l3_x57.toInt + 1) := (iI_t (Int.le_trans (by decide) (Int.add_le_add (b_l3_x57.1) (Int.le_refl _))) (Int.le_trans (Int.add_le_add (b_l3_x57.2) (Int.le_refl _)) (by decide))); omega) hP hD hS hl
              · have t_94 : ¬ r38.toInt = 0 := toI_neq c_94 rfl (by decide : (0 : Int32).toInt = 0)
                refine lv_aload_n hx hb dX5_findAnswer_97 rfl (lv_at hl 2 rfl) ?_
                have hFc := allFree hD hS hA
                refine va_callv (va_runV (As := []) (rest := []) ⟨hx, hb, hml, hown, hts⟩ (m_X5_tryAnswer l dC dI hO aO kO hM hQ hw iO_answered_x57 1 p1 iO_counted fO_countedCase gO_goalNumber_1 gO_goalScale_1 fO_start_37 fO_column_37 fO_chosen_x57 aM kM iM_stands iM_variables iM_rows iM_goals iM_differents iM_cases fM_from fM_to fM_whole fM_ways iM_plainRows fM_plainRow fM_kept fM_goalOver fM_goalUnder fM_goalMax fM_different aQ kQ fQ_inside_38 fQ_outside_38 fQ_shut_38 iQ_rows_37 iQ_allRows_37 iQ_columns_37 nW lw kw wl_38 wb_38 wG_38 (b_iO_answered_x57) (show 0 ≤ (1 : Int32).toInt ∧ (1 : Int32).toInt ≤ 1 from by decide) (b_p1) (b_iO_counted) b_fO_countedCase b_fO_column_37 b_fO_chosen_x57 (b_iM_stands) (b_iM_variables) (b_iM_rows) (b_iM_goals) (b_iM_differents) (b_iM_cases) b_fM_ways (b_iM_plainRows) b_fM_plainRow (by first | with_reducible assumption | omega | assumption) (b_iQ_rows_37) (b_iQ_allRows_37) (b_iQ_columns_37) (by first | with_reducible assumption | omega | assumption) b_wl_38 b_wb_38 (by omega) (by omega) (by omega) H.size) (cwV 0 hts gwsMX5_findAnswer_3 rfl rfl rfl hd_yX5_tryAnswer_RX5 (by decide +kernel)) (fz_pre (va_recv hK hP (ci := 5) (q0 := 0) rfl rfl) hP hK hD) rfl rfl hl.1 rfl (lv_room (Nat.le_of_ble_eq_true rfl)) dX5_findAnswer_98 (by decide +kernel)) hS (fun q _ h => hFc q h) hFc (fun u t9_ H locs ht hvm hw9 hB9 hz1 hk1 hS => ?_)
                revert u hw9 hB9
                refine fz_p7 ?_
                intro iO_answered_39 fQ_inside_39 fQ_outside_39 fQ_shut_39 wl_39 wb_39 wG_39 hw9 hB9
                try dsimp only at hw9 hB9
                revert hw9
                refine fz_a3 ?_
                intro b_iO_answered_39 b_wl_39 b_wb_39
                have hP : va_P (dC, dI) vwCl (WO hO aO kO hM hQ hw iO_answered_39 1 p1 iO_counted fO_countedCase gO_goalNumber_1 gO_goalScale_1 fO_start_37 fO_column_37 fO_chosen_x57 ++ (WM hM aM kM iM_stands iM_variables iM_rows iM_goals iM_differents iM_cases fM_from fM_to fM_whole fM_ways iM_plainRows fM_plainRow fM_kept fM_goalOver fM_goalUnder fM_goalMax fM_different ++ (WQ hQ aQ kQ hw fQ_inside_39 fQ_outside_39 fQ_shut_39 iQ_rows_37 iQ_allRows_37 iQ_columns_37 ++ (WW nW hw lw kw wl_39 wb_39 wG_39)))) H := fz_P ht hB9.1
                have hD := fz_sd hP (hB9.2.weaken (fun _ q _ h => hFc q.1 h)) rfl
                refine lv_iinc (v := (iI (l3_x57.toInt + 1))) hx hb dX5_findAnswer_101 hl (k := 0) rfl (iI_add2 (iI_of _) (by decide : (1 : Int32) = iI 1)) (by decide) rfl (fun ls (hl : lv_has ls _ ([(3, .int (iI (l3_x57.toInt + 1))), (2, .int k0_j3), (0, .ref (hO 0)), (1, .int p1)])) => ?_)
                refine lv_goto (tgt := 57) hx hb dX5_findAnswer_104 (by decide) ?_
                have hl : lv_has _ _ ([(3, .int (iI (l3_x57.toInt + 1))), (2, .int k0_j3), (0, .ref (hO 0)), (1, .int p1)]) := lv_sub hl [0, 1, 2, 3] rfl
                exact ihx57 iO_answered_39 fO_start_37 fO_column_37 fO_chosen_x57 fQ_inside_39 fQ_outside_39 fQ_shut_39 iQ_rows_37 iQ_allRows_37 iQ_columns_37 wl_39 wb_39 wG_39 (iI (l3_x57.toInt + 1)) _ _ _ (b_iO_answered_39) b_fO_column_37 b_fO_chosen_x57 (b_iQ_rows_37) (b_iQ_allRows_37) (b_iQ_columns_37) b_wl_39 b_wb_39 (iI_rng (Int.le_trans (by decide) (Int.add_le_add (b_l3_x57.1) (Int.le_refl _))) (by omega) (by decide) (by decide)) (by first | with_reducible assumption | omega | assumption) (by have e9 : ((iI (l3_x57.toInt + 1))).toInt = (l3_x57.toInt + 1) := (iI_t (Int.le_trans (by decide) (Int.add_le_add (b_l3_x57.1) (Int.le_refl _))) (Int.le_trans (Int.add_le_add (b_l3_x57.2) (Int.le_refl _)) (by decide))); omega) hP hD hS hl
          · have t_63 : p1.toInt = 0 := toI_nne c_63 rfl (by decide : (0 : Int32).toInt = 0)
            refine lv_aload_n hx hb dX5_findAnswer_66 rfl (lv_at hl 2 rfl) ?_
            refine lv_iload_n hx hb dX5_findAnswer_67 rfl (lv_at hl 0 rfl) ?_
            have hFc := allFree hD hS hA
            refine va_calli (va_runV (As := [.int l3_x57]) (rest := []) ⟨hx, hb, hml, hown, hts⟩ (m_X5_choose l dC dI hO aO kO hM hQ hw iO_answered_x57 1 p1 iO_counted fO_countedCase gO_goalNumber_1 gO_goalScale_1 fO_start_x57 fO_column_x57 fO_chosen_x57 aM kM iM_stands iM_variables iM_rows iM_goals iM_differents iM_cases fM_from fM_to fM_whole fM_ways iM_plainRows fM_plainRow fM_kept fM_goalOver fM_goalUnder fM_goalMax fM_different aQ kQ fQ_inside_x57 fQ_outside_x57 fQ_shut_x57 iQ_rows_x57 iQ_allRows_x57 iQ_columns_x57 nW lw kw wl_x57 wb_x57 wG_x57 l3_x57 (b_iO_answered_x57) (show 0 ≤ (1 : Int32).toInt ∧ (1 : Int32).toInt ≤ 1 from by decide) (b_p1) (b_iO_counted) b_fO_countedCase b_fO_column_x57 b_fO_chosen_x57 (b_iM_stands) (b_iM_variables) (b_iM_rows) (b_iM_goals) (b_iM_differents) (b_iM_cases) b_fM_ways (b_iM_plainRows) b_fM_plainRow (by first | with_reducible assumption | omega | assumption) (b_iQ_rows_x57) (b_iQ_allRows_x57) (b_iQ_columns_x57) (by first | with_reducible assumption | omega | assumption) b_wl_x57 b_wb_x57 (b_l3_x57) (by omega) H.size) (cwV 1 hts gwsMX5_findAnswer_4 rfl rfl rfl hd_yX5_choose_RX5 (by decide +kernel)) (fz_pre (va_recv hK hP (ci := 5) (q0 := 0) rfl rfl) hP hK hD) rfl rfl hl.1 rfl (lv_room (Nat.le_of_ble_eq_true rfl)) dX5_findAnswer_68 (by decide +kernel)) hS (fun q _ h => hFc q h) hFc (fun r40 u t9_ H locs ht hvm hw9 hB9 hz1 hk1 hS => ?_)
            revert u hw9 hB9
            refine fz_p2 ?_
            intro fO_start_40 fO_chosen_40 hw9 hB9
            try dsimp only at hw9 hB9
            revert hw9
            refine fz_a2 ?_
            intro b_fO_chosen_40 b_r40
            have hP : va_P (dC, dI) vwCl (WO hO aO kO hM hQ hw iO_answered_x57 1 p1 iO_counted fO_countedCase gO_goalNumber_1 gO_goalScale_1 fO_start_40 fO_column_x57 fO_chosen_40 ++ (WM hM aM kM iM_stands iM_variables iM_rows iM_goals iM_differents iM_cases fM_from fM_to fM_whole fM_ways iM_plainRows fM_plainRow fM_kept fM_goalOver fM_goalUnder fM_goalMax fM_different ++ (WQ hQ aQ kQ hw fQ_inside_x57 fQ_outside_x57 fQ_shut_x57 iQ_rows_x57 iQ_allRows_x57 iQ_columns_x57 ++ (WW nW hw lw kw wl_x57 wb_x57 wG_x57)))) H := fz_P ht hB9.1
            have hD := fz_sd hP (hB9.2.weaken (fun _ q _ h => hFc q.1 h)) rfl
            refine lv_if_eq (tgt := 101) hx hb dX5_findAnswer_71 (by decide) (fun c_71 => ?_) (fun c_71 => ?_)
            · have t_71 : r40.toInt = 0 := toI_eq c_71 rfl (by decide : (0 : Int32).toInt = 0)
              refine lv_iinc (v := (iI (l3_x57.toInt + 1))) hx hb dX5_findAnswer_101 hl (k := 0) rfl (iI_add2 (iI_of _) (by decide : (1 : Int32) = iI 1)) (by decide) rfl (fun ls (hl : lv_has ls _ ([(3, .int (iI (l3_x57.toInt + 1))), (2, .int k0_j3), (0, .ref (hO 0)), (1, .int p1)])) => ?_)
              refine lv_goto (tgt := 57) hx hb dX5_findAnswer_104 (by decide) ?_
              have hl : lv_has _ _ ([(3, .int (iI (l3_x57.toInt + 1))), (2, .int k0_j3), (0, .ref (hO 0)), (1, .int p1)]) := lv_sub hl [0, 1, 2, 3] rfl
              exact ihx57 iO_answered_x57 fO_start_40 fO_column_x57 fO_chosen_40 fQ_inside_x57 fQ_outside_x57 fQ_shut_x57 iQ_rows_x57 iQ_allRows_x57 iQ_columns_x57 wl_x57 wb_x57 wG_x57 (iI (l3_x57.toInt + 1)) _ _ _ (b_iO_answered_x57) b_fO_column_x57 b_fO_chosen_40 (b_iQ_rows_x57) (b_iQ_allRows_x57) (b_iQ_columns_x57) b_wl_x57 b_wb_x57 (iI_rng (Int.le_trans (by decide) (Int.add_le_add (b_l3_x57.1) (Int.le_refl _))) (by omega) (by decide) (by decide)) (by first | with_reducible assumption | omega | assumption) (by have e9 : ((iI (l3_x57.toInt + 1))).toInt = (l3_x57.toInt + 1) := (iI_t (Int.le_trans (by decide) (Int.add_le_add (b_l3_x57.1) (Int.le_refl _))) (Int.le_trans (Int.add_le_add (b_l3_x57.2) (Int.le_refl _)) (by decide))); omega) hP hD hS hl
            · have t_71 : ¬ r40.toInt = 0 := toI_neq c_71 rfl (by decide : (0 : Int32).toInt = 0)
              refine lv_aload_n hx hb dX5_findAnswer_74 rfl (lv_at hl 2 rfl) ?_
              refine lv_iload_n hx hb dX5_findAnswer_75 rfl (lv_at hl 3 rfl) ?_
              refine lv_aload_n hx hb dX5_findAnswer_76 rfl (lv_at hl 2 rfl) ?_
              refine va_get (D := (dC, dI)) (ci := 5) (v := .ref (hM 0)) (C := RX5) (T := TX5) (N := 19) hx hb hts iwsMX5_findAnswer_in5 hown hK hP 0 rfl rfl 0 (by decide) (hts _ hm_m_X5_findAnswer_3) (fun _ h9 => h9) rfl dX5_findAnswer_77 ?_
              refine va_get (D := (dC, dI)) (ci := 1) (v := .int iM_goals) (C := RX1) (T := TX1) (N := 17) hx hb hts iwsMX5_findAnswer_in1 hown hK hP 11 rfl rfl 3 (by decide) (hts _ hm_m_X5_findAnswer_5) (fun _ h9 => h9) rfl dX5_findAnswer_80 ?_
              have hFc := allFree hD hS hA
              refine va_calli (va_runV (As := [.int p1, .int iM_goals]) (rest := []) ⟨hx, hb, hml, hown, hts⟩ (m_X5_lay l dC dI hO aO kO hM hQ hw iO_answered_x57 1 p1 iO_counted fO_countedCase gO_goalNumber_1 gO_goalScale_1 fO_start_40 fO_column_x57 fO_chosen_40 aM kM iM_stands iM_variables iM_rows iM_goals iM_differents iM_cases fM_from fM_to fM_whole fM_ways iM_plainRows fM_plainRow fM_kept fM_goalOver fM_goalUnder fM_goalMax fM_different aQ kQ fQ_inside_x57 fQ_outside_x57 fQ_shut_x57 iQ_rows_x57 iQ_allRows_x57 iQ_columns_x57 nW lw kw wl_x57 wb_x57 wG_x57 p1 iM_goals (b_iO_answered_x57) (show 0 ≤ (1 : Int32).toInt ∧ (1 : Int32).toInt ≤ 1 from by decide) (b_p1) (b_iO_counted) b_fO_countedCase b_fO_column_x57 b_fO_chosen_40 (b_iM_stands) (b_iM_variables) (b_iM_rows) (b_iM_goals) (b_iM_differents) (b_iM_cases) b_fM_ways (b_iM_plainRows) b_fM_plainRow (by first | with_reducible assumption | omega | assumption) (b_iQ_rows_x57) (b_iQ_allRows_x57) (b_iQ_columns_x57) (by first | with_reducible assumption | omega | assumption) b_wl_x57 b_wb_x57 (b_iM_goals) (by omega) H.size) (cwV 2 hts gwsMX5_findAnswer_1 rfl rfl rfl hd_yX5_lay_RX5 (by decide +kernel)) (fz_pre (va_recv hK hP (ci := 5) (q0 := 0) rfl rfl) hP hK hD) rfl rfl hl.1 rfl (lv_room (Nat.le_of_ble_eq_true rfl)) dX5_findAnswer_83 (by decide +kernel)) hS (fun q _ h => hFc q h) hFc (fun r41 u t9_ H locs ht hvm hw9 hB9 hz1 hk1 hS => ?_)
              revert u hw9 hB9
              refine fz_p11 ?_
              intro fO_start_41 fO_column_41 fQ_inside_41 fQ_outside_41 fQ_shut_41 iQ_rows_41 iQ_allRows_41 iQ_columns_41 wl_41 wb_41 wG_41 hw9 hB9
              try dsimp only at hw9 hB9
              revert hw9
              refine fz_a10 ?_
              intro b_fO_column_41 b_iQ_rows_41 b_iQ_allRows_41 b_iQ_columns_41 b_wl_41 b_wb_41 b_tb_41 b_r41 f41_0 f41_1
              have hP : va_P (dC, dI) vwCl (WO hO aO kO hM hQ hw iO_answered_x57 1 p1 iO_counted fO_countedCase gO_goalNumber_1 gO_goalScale_1 fO_start_41 fO_column_41 fO_chosen_40 ++ (WM hM aM kM iM_stands iM_variables iM_rows iM_goals iM_differents iM_cases fM_from fM_to fM_whole fM_ways iM_plainRows fM_plainRow fM_kept fM_goalOver fM_goalUnder fM_goalMax fM_different ++ (WQ hQ aQ kQ hw fQ_inside_41 fQ_outside_41 fQ_shut_41 iQ_rows_41 iQ_allRows_41 iQ_columns_41 ++ (WW nW hw lw kw wl_41 wb_41 wG_41)))) H := fz_P ht hB9.1
              have hD := fz_sd hP (hB9.2.weaken (fun _ q _ h => hFc q.1 h)) rfl
              refine lv_if_eq (tgt := 101) hx hb dX5_findAnswer_86 (by decide) (fun c_86 => ?_) (fun c_86 => ?_)
              · have t_86 : r41.toInt = 0 := toI_eq c_86 rfl (by decide : (0 : Int32).toInt = 0)
                refine lv_iinc (v := (iI (l3_x57.toInt + 1))) hx hb dX5_findAnswer_101 hl (k := 0) rfl (iI_add2 (iI_of _) (by decide : (1 : Int32) = iI 1)) (by decide) rfl (fun ls (hl : lv_has ls _ ([(3, .int (iI (l3_x57.toInt + 1))), (2, .int k0_j3), (0, .ref (hO 0)), (1, .int p1)])) => ?_)
                refine lv_goto (tgt := 57) hx hb dX5_findAnswer_104 (by decide) ?_
                have hl : lv_has _ _ ([(3, .int (iI (l3_x57.toInt + 1))), (2, .int k0_j3), (0, .ref (hO 0)), (1, .int p1)]) := lv_sub hl [0, 1, 2, 3] rfl
                exact ihx57 iO_answered_x57 fO_start_41 fO_column_41 fO_chosen_40 fQ_inside_41 fQ_outside_41 fQ_shut_41 iQ_rows_41 iQ_allRows_41 iQ_columns_41 wl_41 wb_41 wG_41 (iI (l3_x57.toInt + 1)) _ _ _ (b_iO_answered_x57) b_fO_column_41 b_fO_chosen_40 (b_iQ_rows_41) (b_iQ_allRows_41) (b_iQ_columns_41) b_wl_41 b_wb_41 (iI_rng (Int.le_trans (by decide) (Int.add_le_add (b_l3_x57.1) (Int.le_refl _))) (by omega) (by decide) (by decide)) (by first | with_reducible assumption | omega | assumption) (by have e9 : ((iI (l3_x57.toInt + 1))).toInt = (l3_x57.toInt + 1) := (iI_t (Int.le_trans (by decide) (Int.add_le_add (b_l3_x57.1) (Int.le_refl _))) (Int.le_trans (Int.add_le_add (b_l3_x57.2) (Int.le_refl _)) (by decide))); omega) hP hD hS hl
              · have t_86 : ¬ r41.toInt = 0 := toI_neq c_86 rfl (by decide : (0 : Int32).toInt = 0)
                refine lv_aload_n hx hb dX5_findAnswer_89 rfl (lv_at hl 2 rfl) ?_
                refine lv_iload_n hx hb dX5_findAnswer_90 rfl (lv_at hl 3 rfl) ?_
                have hFc := allFree hD hS hA
                refine va_calli (va_runV (As := [.int p1]) (rest := []) ⟨hx, hb, hml, hown, hts⟩ (m_X5_settle l dC dI hO aO kO hM hQ hw iO_answered_x57 1 p1 iO_counted fO_countedCase gO_goalNumber_1 gO_goalScale_1 fO_start_41 fO_column_41 fO_chosen_40 aM kM iM_stands iM_variables iM_rows iM_goals iM_differents iM_cases fM_from fM_to fM_whole fM_ways iM_plainRows fM_plainRow fM_kept fM_goalOver fM_goalUnder fM_goalMax fM_different aQ kQ fQ_inside_41 fQ_outside_41 fQ_shut_41 iQ_rows_41 iQ_allRows_41 iQ_columns_41 nW lw kw wl_41 wb_41 wG_41 p1 (b_iO_answered_x57) (show 0 ≤ (1 : Int32).toInt ∧ (1 : Int32).toInt ≤ 1 from by decide) (b_p1) (b_iO_counted) b_fO_countedCase b_fO_column_41 b_fO_chosen_40 (b_iM_stands) (b_iM_variables) (b_iM_rows) (b_iM_goals) (b_iM_differents) (b_iM_cases) b_fM_ways (b_iM_plainRows) b_fM_plainRow (by first | with_reducible assumption | omega | assumption) (b_iQ_rows_41) (b_iQ_allRows_41) (b_iQ_columns_41) (by first | with_reducible assumption | omega | assumption) b_wl_41 b_wb_41 (by omega) (by omega) H.size) (cwV 1 hts gwsMX5_findAnswer_2 rfl rfl rfl hd_yX5_settle_RX5 (by decide +kernel)) (fz_pre (va_recv hK hP (ci := 5) (q0 := 0) rfl rfl) hP hK hD) rfl rfl hl.1 rfl (lv_room (Nat.le_of_ble_eq_true rfl)) dX5_findAnswer_91 (by decide +kernel)) hS (fun q _ h => hFc q h) hFc (fun r42 u t9_ H locs ht hvm hw9 hB9 hz1 hk1 hS => ?_)
                revert u hw9 hB9
                refine fz_p6 ?_
                intro fQ_inside_42 fQ_outside_42 fQ_shut_42 wl_42 wb_42 wG_42 hw9 hB9
                try dsimp only at hw9 hB9
                revert hw9
                refine fz_a3 ?_
                intro b_wl_42 b_wb_42 b_r42
                have hP : va_P (dC, dI) vwCl (WO hO aO kO hM hQ hw iO_answered_x57 1 p1 iO_counted fO_countedCase gO_goalNumber_1 gO_goalScale_1 fO_start_41 fO_column_41 fO_chosen_40 ++ (WM hM aM kM iM_stands iM_variables iM_rows iM_goals iM_differents iM_cases fM_from fM_to fM_whole fM_ways iM_plainRows fM_plainRow fM_kept fM_goalOver fM_goalUnder fM_goalMax fM_different ++ (WQ hQ aQ kQ hw fQ_inside_42 fQ_outside_42 fQ_shut_42 iQ_rows_41 iQ_allRows_41 iQ_columns_41 ++ (WW nW hw lw kw wl_42 wb_42 wG_42)))) H := fz_P ht hB9.1
                have hD := fz_sd hP (hB9.2.weaken (fun _ q _ h => hFc q.1 h)) rfl
                refine lv_if_eq (tgt := 101) hx hb dX5_findAnswer_94 (by decide) (fun c_94 => ?_) (fun c_94 => ?_)
                · have t_94 : r42.toInt = 0 := toI_eq c_94 rfl (by decide : (0 : Int32).toInt = 0)
                  refine lv_iinc (v := (iI (l3_x57.toInt + 1))) hx hb dX5_findAnswer_101 hl (k := 0) rfl (iI_add2 (iI_of _) (by decide : (1 : Int32) = iI 1)) (by decide) rfl (fun ls (hl : lv_has ls _ ([(3, .int (iI (l3_x57.toInt + 1))), (2, .int k0_j3), (0, .ref (hO 0)), (1, .int p1)])) => ?_)
                  refine lv_goto (tgt := 57) hx hb dX5_findAnswer_104 (by decide) ?_
                  have hl : lv_has _ _ ([(3, .int (iI (l3_x57.toInt + 1))), (2, .int k0_j3), (0, .ref (hO 0)), (1, .int p1)]) := lv_sub hl [0, 1, 2, 3] rfl
                  exact ihx57 iO_answered_x57 fO_start_41 fO_column_41 fO_chosen_40 fQ_inside_42 fQ_outside_42 fQ_shut_42 iQ_rows_41 iQ_allRows_41 iQ_columns_41 wl_42 wb_42 wG_42 (iI (l3_x57.toInt + 1)) _ _ _ (b_iO_answered_x57) b_fO_column_41 b_fO_chosen_40 (b_iQ_rows_41) (b_iQ_allRows_41) (b_iQ_columns_41) b_wl_42 b_wb_42 (iI_rng (Int.le_trans (by decide) (Int.add_le_add (b_l3_x57.1) (Int.le_refl _))) (by omega) (by decide) (by decide)) (by first | with_reducible assumption | omega | assumption) (by have e9 : ((iI (l3_x57.toInt + 1))).toInt = (l3_x57.toInt + 1) := (iI_t (Int.le_trans (by decide) (Int.add_le_add (b_l3_x57.1) (Int.le_refl _))) (Int.le_trans (Int.add_le_add (b_l3_x57.2) (Int.le_refl _)) (by decide))); omega) hP hD hS hl
                · have t_94 : ¬ r42.toInt = 0 := toI_neq c_94 rfl (by decide : (0 : Int32).toInt = 0)
                  refine lv_aload_n hx hb dX5_findAnswer_97 rfl (lv_at hl 2 rfl) ?_
                  have hFc := allFree hD hS hA
                  refine va_callv (va_runV (As := []) (rest := []) ⟨hx, hb, hml, hown, hts⟩ (m_X5_tryAnswer l dC dI hO aO kO hM hQ hw iO_answered_x57 1 p1 iO_counted fO_countedCase gO_goalNumber_1 gO_goalScale_1 fO_start_41 fO_column_41 fO_chosen_40 aM kM iM_stands iM_variables iM_rows iM_goals iM_differents iM_cases fM_from fM_to fM_whole fM_ways iM_plainRows fM_plainRow fM_kept fM_goalOver fM_goalUnder fM_goalMax fM_different aQ kQ fQ_inside_42 fQ_outside_42 fQ_shut_42 iQ_rows_41 iQ_allRows_41 iQ_columns_41 nW lw kw wl_42 wb_42 wG_42 (b_iO_answered_x57) (show 0 ≤ (1 : Int32).toInt ∧ (1 : Int32).toInt ≤ 1 from by decide) (b_p1) (b_iO_counted) b_fO_countedCase b_fO_column_41 b_fO_chosen_40 (b_iM_stands) (b_iM_variables) (b_iM_rows) (b_iM_goals) (b_iM_differents) (b_iM_cases) b_fM_ways (b_iM_plainRows) b_fM_plainRow (by first | with_reducible assumption | omega | assumption) (b_iQ_rows_41) (b_iQ_allRows_41) (b_iQ_columns_41) (by first | with_reducible assumption | omega | assumption) b_wl_42 b_wb_42 (by omega) (by omega) (by omega) H.size) (cwV 0 hts gwsMX5_findAnswer_3 rfl rfl rfl hd_yX5_tryAnswer_RX5 (by decide +kernel)) (fz_pre (va_recv hK hP (ci := 5) (q0 := 0) rfl rfl) hP hK hD) rfl rfl hl.1 rfl (lv_room (Nat.le_of_ble_eq_true rfl)) dX5_findAnswer_98 (by decide +kernel)) hS (fun q _ h => hFc q h) hFc (fun u t9_ H locs ht hvm hw9 hB9 hz1 hk1 hS => ?_)
                  revert u hw9 hB9
                  refine fz_p7 ?_
                  intro iO_answered_43 fQ_inside_43 fQ_outside_43 fQ_shut_43 wl_43 wb_43 wG_43 hw9 hB9
                  try dsimp only at hw9 hB9
                  revert hw9
                  refine fz_a3 ?_
                  intro b_iO_answered_43 b_wl_43 b_wb_43
                  have hP : va_P (dC, dI) vwCl (WO hO aO kO hM hQ hw iO_answered_43 1 p1 iO_counted fO_countedCase gO_goalNumber_1 gO_goalScale_1 fO_start_41 fO_column_41 fO_chosen_40 ++ (WM hM aM kM iM_stands iM_variables iM_rows iM_goals iM_differents iM_cases fM_from fM_to fM_whole fM_ways iM_plainRows fM_plainRow fM_kept fM_goalOver fM_goalUnder fM_goalMax fM_different ++ (WQ hQ aQ kQ hw fQ_inside_43 fQ_outside_43 fQ_shut_43 iQ_rows_41 iQ_allRows_41 iQ_columns_41 ++ (WW nW hw lw kw wl_43 wb_43 wG_43)))) H := fz_P ht hB9.1
                  have hD := fz_sd hP (hB9.2.weaken (fun _ q _ h => hFc q.1 h)) rfl
                  refine lv_iinc (v := (iI (l3_x57.toInt + 1))) hx hb dX5_findAnswer_101 hl (k := 0) rfl (iI_add2 (iI_of _) (by decide : (1 : Int32) = iI 1)) (by decide) rfl (fun ls (hl : lv_has ls _ ([(3, .int (iI (l3_x57.toInt + 1))), (2, .int k0_j3), (0, .ref (hO 0)), (1, .int p1)])) => ?_)
                  refine lv_goto (tgt := 57) hx hb dX5_findAnswer_104 (by decide) ?_
                  have hl : lv_has _ _ ([(3, .int (iI (l3_x57.toInt + 1))), (2, .int k0_j3), (0, .ref (hO 0)), (1, .int p1)]) := lv_sub hl [0, 1, 2, 3] rfl
                  exact ihx57 iO_answered_43 fO_start_41 fO_column_41 fO_chosen_40 fQ_inside_43 fQ_outside_43 fQ_shut_43 iQ_rows_41 iQ_allRows_41 iQ_columns_41 wl_43 wb_43 wG_43 (iI (l3_x57.toInt + 1)) _ _ _ (b_iO_answered_43) b_fO_column_41 b_fO_chosen_40 (b_iQ_rows_41) (b_iQ_allRows_41) (b_iQ_columns_41) b_wl_43 b_wb_43 (iI_rng (Int.le_trans (by decide) (Int.add_le_add (b_l3_x57.1) (Int.le_refl _))) (by omega) (by decide) (by decide)) (by first | with_reducible assumption | omega | assumption) (by have e9 : ((iI (l3_x57.toInt + 1))).toInt = (l3_x57.toInt + 1) := (iI_t (Int.le_trans (by decide) (Int.add_le_add (b_l3_x57.1) (Int.le_refl _))) (Int.le_trans (Int.add_le_add (b_l3_x57.2) (Int.le_refl _)) (by decide))); omega) hP hD hS hl
  · have t_4 : ¬ iO_searched.toInt = 0 := toI_neq c_4 rfl (by decide : (0 : Int32).toInt = 0)
    refine lv_aload_n hx hb dX5_findAnswer_7 rfl (lv_at hl 0 rfl) ?_
    refine va_get (D := (dC, dI)) (ci := 5) (v := .int iO_searchedRelaxed) (C := RX5) (T := TX5) (N := 19) hx hb hts iwsMX5_findAnswer_in5 hown hK hP 0 rfl rfl 4 (by decide) (hts _ hm_m_X5_findAnswer_1) (fun _ h9 => h9) rfl dX5_findAnswer_8 ?_
    refine lv_iload_n hx hb dX5_findAnswer_11 rfl (lv_at hl 1 rfl) ?_
    refine lv_icmp_ne (tgt := 20) hx hb dX5_findAnswer_12 (by decide) (fun c_12 => ?_) (fun c_12 => ?_)
    · have t_12 : iO_searchedRelaxed.toInt ≠ p1.toInt := toI_ne c_12 rfl rfl
      refine lv_aload_n hx hb dX5_findAnswer_20 rfl (lv_at hl 0 rfl) ?_
      refine lv_iconst (v := 1) hx hb dX5_findAnswer_21 (by decide) ?_
      refine va_put (D := (dC, dI)) (ci := 5) (v := .int 1) (ty := .boolean) (C := RX5) (T := TX5) (N := 19) hx hb hts iwsMX5_findAnswer_in5 tyX5 tyX5_ok nmX5 hown hK hP hD hS 0 rfl rfl 3 (by decide) (hts _ hm_m_X5_findAnswer_0) (fun _ h9 => h9) rfl (by decide +kernel) rfl rfl (Nat.le_of_ble_eq_true rfl) dX5_findAnswer_22 (fun H locs hP hD hS => ?_)
      have hP : va_P (dC, dI) vwCl (WO hO aO kO hM hQ hw iO_answered 1 iO_searchedRelaxed iO_counted fO_countedCase gO_goalNumber gO_goalScale fO_start fO_column fO_chosen ++ (WM hM aM kM iM_stands iM_variables iM_rows iM_goals iM_differents iM_cases fM_from fM_to fM_whole fM_ways iM_plainRows fM_plainRow fM_kept fM_goalOver fM_goalUnder fM_goalMax fM_different ++ (WQ hQ aQ kQ hw fQ_inside fQ_outside fQ_shut iQ_rows iQ_allRows iQ_columns ++ (WW nW hw lw kw wl wb wG)))) H := hP
      have hD := fz_sd hP (hD) rfl
      refine lv_aload_n hx hb dX5_findAnswer_25 rfl (lv_at hl 0 rfl) ?_
      refine lv_iload_n hx hb dX5_findAnswer_26 rfl (lv_at hl 1 rfl) ?_
      refine va_put (D := (dC, dI)) (ci := 5) (v := .int p1) (ty := .boolean) (C := RX5) (T := TX5) (N := 19) hx hb hts iwsMX5_findAnswer_in5 tyX5 tyX5_ok nmX5 hown hK hP hD hS 0 rfl rfl 4 (by decide) (hts _ hm_m_X5_findAnswer_1) (fun _ h9 => h9) rfl (by decide +kernel) (by rcases z01 (x := p1) (b_p1) with h9 | h9 <;> rw [h9] <;> rfl) (by rcases z01 (x := p1) (b_p1) with h9 | h9 <;> rw [h9] <;> rfl) (Nat.le_of_ble_eq_true rfl) dX5_findAnswer_27 (fun H locs hP hD hS => ?_)
      have hP : va_P (dC, dI) vwCl (WO hO aO kO hM hQ hw iO_answered 1 p1 iO_counted fO_countedCase gO_goalNumber gO_goalScale fO_start fO_column fO_chosen ++ (WM hM aM kM iM_stands iM_variables iM_rows iM_goals iM_differents iM_cases fM_from fM_to fM_whole fM_ways iM_plainRows fM_plainRow fM_kept fM_goalOver fM_goalUnder fM_goalMax fM_different ++ (WQ hQ aQ kQ hw fQ_inside fQ_outside fQ_shut iQ_rows iQ_allRows iQ_columns ++ (WW nW hw lw kw wl wb wG)))) H := hP
      have hD := fz_sd hP (hD) rfl
      refine lv_aload_n hx hb dX5_findAnswer_30 rfl (lv_at hl 0 rfl) ?_
      refine lv_iconst (v := 0) hx hb dX5_findAnswer_31 (by decide) ?_
      refine va_put (D := (dC, dI)) (ci := 5) (v := .int 0) (ty := .boolean) (C := RX5) (T := TX5) (N := 19) hx hb hts iwsMX5_findAnswer_in5 tyX5 tyX5_ok nmX5 hown hK hP hD hS 0 rfl rfl 2 (by decide) (hts _ hm_m_X5_findAnswer_2) (fun _ h9 => h9) rfl (by decide +kernel) rfl rfl (Nat.le_of_ble_eq_true rfl) dX5_findAnswer_32 (fun H locs hP hD hS => ?_)
      have hP : va_P (dC, dI) vwCl (WO hO aO kO hM hQ hw 0 1 p1 iO_counted fO_countedCase gO_goalNumber gO_goalScale fO_start fO_column fO_chosen ++ (WM hM aM kM iM_stands iM_variables iM_rows iM_goals iM_differents iM_cases fM_from fM_to fM_whole fM_ways iM_plainRows fM_plainRow fM_kept fM_goalOver fM_goalUnder fM_goalMax fM_different ++ (WQ hQ aQ kQ hw fQ_inside fQ_outside fQ_shut iQ_rows iQ_allRows iQ_columns ++ (WW nW hw lw kw wl wb wG)))) H := hP
      have hD := fz_sd hP (hD) rfl
      refine lv_aload_n hx hb dX5_findAnswer_35 rfl (lv_at hl 0 rfl) ?_
      have hFc := allFree hD hS hA
      refine va_callv (va_runV (As := []) (rest := []) ⟨hx, hb, hml, hown, hts⟩ (m_X5_scaleGoals l dC dI hO aO kO hM hQ hw 0 1 p1 iO_counted fO_countedCase gO_goalNumber gO_goalScale fO_start fO_column fO_chosen aM kM iM_stands iM_variables iM_rows iM_goals iM_differents iM_cases fM_from fM_to fM_whole fM_ways iM_plainRows fM_plainRow fM_kept fM_goalOver fM_goalUnder fM_goalMax fM_different aQ kQ fQ_inside fQ_outside fQ_shut iQ_rows iQ_allRows iQ_columns nW lw kw wl wb wG (show 0 ≤ (0 : Int32).toInt ∧ (0 : Int32).toInt ≤ 1 from by decide) (show 0 ≤ (1 : Int32).toInt ∧ (1 : Int32).toInt ≤ 1 from by decide) (b_p1) (b_iO_counted) b_fO_countedCase b_fO_column b_fO_chosen (b_iM_stands) (b_iM_variables) (b_iM_rows) (b_iM_goals) (b_iM_differents) (b_iM_cases) b_fM_ways (b_iM_plainRows) b_fM_plainRow (by first | with_reducible assumption | omega | assumption) (b_iQ_rows) (b_iQ_allRows) (b_iQ_columns) (by first | with_reducible assumption | omega | assumption) b_wl b_wb (by omega) H.size) (cwV 0 hts gwsMX5_findAnswer_0 rfl rfl rfl hd_yX5_scaleGoals_RX5 (by decide +kernel)) (fz_pre (va_recv hK hP (ci := 5) (q0 := 0) rfl rfl) hP hK hD) rfl rfl hl.1 rfl (lv_room (Nat.le_of_ble_eq_true rfl)) dX5_findAnswer_36 (by decide +kernel)) hS (fun q _ h => hFc q h) hFc (fun u t9_ H locs ht hvm hw9 hB9 hz1 hk1 hS => ?_)
      revert u hw9 hB9
      refine fz_p2 ?_
      intro gO_goalNumber_44 gO_goalScale_44 hw9 hB9
      try dsimp only at hw9 hB9
      clear hw9
      have hP : va_P (dC, dI) vwCl (WO hO aO kO hM hQ hw 0 1 p1 iO_counted fO_countedCase gO_goalNumber_44 gO_goalScale_44 fO_start fO_column fO_chosen ++ (WM hM aM kM iM_stands iM_variables iM_rows iM_goals iM_differents iM_cases fM_from fM_to fM_whole fM_ways iM_plainRows fM_plainRow fM_kept fM_goalOver fM_goalUnder fM_goalMax fM_different ++ (WQ hQ aQ kQ hw fQ_inside fQ_outside fQ_shut iQ_rows iQ_allRows iQ_columns ++ (WW nW hw lw kw wl wb wG)))) H := fz_P ht hB9.1
      have hD := fz_sd hP (hB9.2.weaken (fun _ q _ h => hFc q.1 h)) rfl
      refine lv_iload_n hx hb dX5_findAnswer_39 rfl (lv_at hl 1 rfl) ?_
      refine W.cut (pc := 54) (fun H locs ls stk => ∃ (k0_j4 : Int32), (0 ≤ k0_j4.toInt ∧ k0_j4.toInt ≤ 200000) ∧  stk = [.int k0_j4] ∧ va_P (dC, dI) vwCl (WO hO aO kO hM hQ hw 0 1 p1 iO_counted fO_countedCase gO_goalNumber_44 gO_goalScale_44 fO_start fO_column fO_chosen ++ (WM hM aM kM iM_stands iM_variables iM_rows iM_goals iM_differents iM_cases fM_from fM_to fM_whole fM_ways iM_plainRows fM_plainRow fM_kept fM_goalOver fM_goalUnder fM_goalMax fM_different ++ (WQ hQ aQ kQ hw fQ_inside fQ_outside fQ_shut iQ_rows iQ_allRows iQ_columns ++ (WW nW hw lw kw wl wb wG)))) H ∧ va_D A (WO hO aO kO hM hQ hw 0 1 p1 iO_counted fO_countedCase gO_goalNumber_44 gO_goalScale_44 fO_start fO_column fO_chosen ++ (WM hM aM kM iM_stands iM_variables iM_rows iM_goals iM_differents iM_cases fM_from fM_to fM_whole fM_ways iM_plainRows fM_plainRow fM_kept fM_goalOver fM_goalUnder fM_goalMax fM_different ++ (WQ hQ aQ kQ hw fQ_inside fQ_outside fQ_shut iQ_rows iQ_allRows iQ_columns ++ (WW nW hw lw kw wl wb wG)))) ∧ va_S A s.heap H locs ∧ lv_has ls 4 [(0, .ref (hO 0)), (1, .int p1)]) (fun join4 => ?_) ?_
      · refine lv_if_eq (tgt := 47) hx hb dX5_findAnswer_40 (by decide) (fun c_40 => ?_) (fun c_40 => ?_)
        · have t_40 : p1.toInt = 0 := toI_eq c_40 rfl (by decide : (0 : Int32).toInt = 0)
          refine lv_aload_n hx hb dX5_findAnswer_47 rfl (lv_at hl 0 rfl) ?_
          refine va_get (D := (dC, dI)) (ci := 5) (v := .ref (hM 0)) (C := RX5) (T := TX5) (N := 19) hx hb hts iwsMX5_findAnswer_in5 hown hK hP 0 rfl rfl 0 (by decide) (hts _ hm_m_X5_findAnswer_3) (fun _ h9 => h9) rfl dX5_findAnswer_48 ?_
          refine va_get (D := (dC, dI)) (ci := 1) (v := .int iM_cases) (C := RX1) (T := TX1) (N := 17) hx hb hts iwsMX5_findAnswer_in1 hown hK hP 11 rfl rfl 5 (by decide) (hts _ hm_m_X5_findAnswer_4) (fun _ h9 => h9) rfl dX5_findAnswer_51 ?_
          have hl : lv_has _ _ ([(0, .ref (hO 0)), (1, .int p1)]) := lv_sub hl [0, 1] rfl
          exact join4 _ _ _ _ ⟨iM_cases, (b_iM_cases), rfl, hP, hD, hS, hl⟩
        · have t_40 : ¬ p1.toInt = 0 := toI_neq c_40 rfl (by decide : (0 : Int32).toInt = 0)
          refine lv_iconst (v := 1) hx hb dX5_findAnswer_43 (by decide) ?_
          refine lv_goto (tgt := 54) hx hb dX5_findAnswer_44 (by decide) ?_
          have hl : lv_has _ _ ([(0, .ref (hO 0)), (1, .int p1)]) := lv_sub hl [0, 1] rfl
          exact join4 _ _ _ _ ⟨1, (show 0 ≤ (1 : Int32).toInt ∧ (1 : Int32).toInt ≤ 200000 from by decide), rfl, hP, hD, hS, hl⟩
      · rintro H locs ls stk ⟨k0_j4, b_k0_j4, rfl, hP, hD, hS, hl⟩
        refine lv_istore_n hx hb dX5_findAnswer_54 rfl hl (by decide) rfl (fun ls (hl : lv_has ls _ ([(2, .int k0_j4), (0, .ref (hO 0)), (1, .int p1)])) => ?_)
        refine lv_iconst (v := 0) hx hb dX5_findAnswer_55 (by decide) ?_
        refine lv_istore_n hx hb dX5_findAnswer_56 rfl hl (by decide) rfl (fun ls (hl : lv_has ls _ ([(3, .int 0), (2, .int k0_j4), (0, .ref (hO 0)), (1, .int p1)])) => ?_)
        have hl : lv_has _ _ ([(3, .int 0), (2, .int k0_j4), (0, .ref (hO 0)), (1, .int p1)]) := lv_sub hl [0, 1, 2, 3] rfl
        refine (fun (loop : ∀ (n9 : Nat) (iO_answered_x57_1 : Int32) (fO_start_x57_1 : Nat → Int32) (fO_column_x57_1 : Nat → Int32) (fO_chosen_x57_1 : Nat → Int32) (fQ_inside_x57_1 : Nat → Int32) (fQ_outside_x57_1 : Nat → Int32) (fQ_shut_x57_1 : Nat → Int32) (iQ_rows_x57_1 : Int32) (iQ_allRows_x57_1 : Int32) (iQ_columns_x57_1 : Int32) (wl_x57_1 : Nat → Int32) (wb_x57_1 : Nat → Int32) (wG_x57_1 : Nat → Nat → Int64) (l3_x57_1 : Int32) (H : Heap) (locs : List Loc) (ls : Array Slot), (0 ≤ iO_answered_x57_1.toInt ∧ iO_answered_x57_1.toInt ≤ 1) → (∀ q : Nat, (-1) ≤ (fO_column_x57_1 q).toInt ∧ (fO_column_x57_1 q).toInt ≤ 8) → (∀ q : Nat, 0 ≤ (fO_chosen_x57_1 q).toInt ∧ (fO_chosen_x57_1 q).toInt ≤ 2) → (0 ≤ iQ_rows_x57_1.toInt ∧ iQ_rows_x57_1.toInt ≤ 40) → (0 ≤ iQ_allRows_x57_1.toInt ∧ iQ_allRows_x57_1.toInt ≤ 40) → (0 ≤ iQ_columns_x57_1.toInt ∧ iQ_columns_x57_1.toInt ≤ 40) → (∀ q : Nat, 0 ≤ (wl_x57_1 q).toInt ∧ (wl_x57_1 q).toInt ≤ 14) → (∀ q : Nat, 0 ≤ (wb_x57_1 q).toInt ∧ (wb_x57_1 q).toInt ≤ 1) → (0 ≤ l3_x57_1.toInt ∧ l3_x57_1.toInt ≤ 200000) → (TbO iQ_rows_x57_1 iQ_allRows_x57_1 iQ_columns_x57_1) → (200000 - l3_x57_1.toInt < ((n9 : Nat) : Int)) → va_P (dC, dI) vwCl (WO hO aO kO hM hQ hw iO_answered_x57_1 1 p1 iO_counted fO_countedCase gO_goalNumber_44 gO_goalScale_44 fO_start_x57_1 fO_column_x57_1 fO_chosen_x57_1 ++ (WM hM aM kM iM_stands iM_variables iM_rows iM_goals iM_differents iM_cases fM_from fM_to fM_whole fM_ways iM_plainRows fM_plainRow fM_kept fM_goalOver fM_goalUnder fM_goalMax fM_different ++ (WQ hQ aQ kQ hw fQ_inside_x57_1 fQ_outside_x57_1 fQ_shut_x57_1 iQ_rows_x57_1 iQ_allRows_x57_1 iQ_columns_x57_1 ++ (WW nW hw lw kw wl_x57_1 wb_x57_1 wG_x57_1)))) H → va_D A (WO hO aO kO hM hQ hw iO_answered_x57_1 1 p1 iO_counted fO_countedCase gO_goalNumber_44 gO_goalScale_44 fO_start_x57_1 fO_column_x57_1 fO_chosen_x57_1 ++ (WM hM aM kM iM_stands iM_variables iM_rows iM_goals iM_differents iM_cases fM_from fM_to fM_whole fM_ways iM_plainRows fM_plainRow fM_kept fM_goalOver fM_goalUnder fM_goalMax fM_different ++ (WQ hQ aQ kQ hw fQ_inside_x57_1 fQ_outside_x57_1 fQ_shut_x57_1 iQ_rows_x57_1 iQ_allRows_x57_1 iQ_columns_x57_1 ++ (WW nW hw lw kw wl_x57_1 wb_x57_1 wG_x57_1)))) → va_S A s.heap H locs → lv_has ls 4 [(3, .int l3_x57_1), (2, .int k0_j4), (0, .ref (hO 0)), (1, .int p1)] → W p l e _ s m _ below meth c H locs 0 0 _ (F0 m 57 ls [])) => loop (200001) 0 fO_start fO_column fO_chosen fQ_inside fQ_outside fQ_shut iQ_rows iQ_allRows iQ_columns wl wb wG 0 _ _ _ (show 0 ≤ (0 : Int32).toInt ∧ (0 : Int32).toInt ≤ 1 from by decide) b_fO_column b_fO_chosen (b_iQ_rows) (b_iQ_allRows) (b_iQ_columns) b_wl b_wb (show 0 ≤ (0 : Int32).toInt ∧ (0 : Int32).toInt ≤ 200000 from by decide) (by first | with_reducible assumption | omega | assumption) ((by have e9 : (0 : Int32).toInt = 0 := (by decide : (0 : Int32).toInt = 0); omega)) hP hD hS hl) ?_
        intro n9
        induction n9 with
        | zero => intro iO_answered_x57_1 fO_start_x57_1 fO_column_x57_1 fO_chosen_x57_1 fQ_inside_x57_1 fQ_outside_x57_1 fQ_shut_x57_1 iQ_rows_x57_1 iQ_allRows_x57_1 iQ_columns_x57_1 wl_x57_1 wb_x57_1 wG_x57_1 l3_x57_1 H locs ls b_iO_answered_x57_1 b_fO_column_x57_1 b_fO_chosen_x57_1 b_iQ_rows_x57_1 b_iQ_allRows_x57_1 b_iQ_columns_x57_1 b_wl_x57_1 b_wb_x57_1 b_l3_x57_1 b_tb_x57_1 hf9; exact False.elim (by omega)
        | succ n9 ihx57_1 =>
          intro iO_answered_x57_1 fO_start_x57_1 fO_column_x57_1 fO_chosen_x57_1 fQ_inside_x57_1 fQ_outside_x57_1 fQ_shut_x57_1 iQ_rows_x57_1 iQ_allRows_x57_1 iQ_columns_x57_1 wl_x57_1 wb_x57_1 wG_x57_1 l3_x57_1 H locs ls b_iO_answered_x57_1 b_fO_column_x57_1 b_fO_chosen_x57_1 b_iQ_rows_x57_1 b_iQ_allRows_x57_1 b_iQ_columns_x57_1 b_wl_x57_1 b_wb_x57_1 b_l3_x57_1 b_tb_x57_1 hfx57_1 hP hD hS hl
          refine lv_iload_n hx hb dX5_findAnswer_57 rfl (lv_at hl 0 rfl) ?_
          refine lv_iload_n hx hb dX5_findAnswer_58 rfl (lv_at hl 1 rfl) ?_
          refine lv_icmp_ge (tgt := 107) hx hb dX5_findAnswer_59 (by decide) (fun c_59 => ?_) (fun c_59 => ?_)
          · have t_59 : l3_x57_1.toInt ≥ k0_j4.toInt := toI_ge c_59 rfl rfl
            refine lv_aload_n hx hb dX5_findAnswer_107 rfl (lv_at hl 2 rfl) ?_
            refine va_get (D := (dC, dI)) (ci := 5) (v := .int iO_answered_x57_1) (C := RX5) (T := TX5) (N := 19) hx hb hts iwsMX5_findAnswer_in5 hown hK hP 0 rfl rfl 2 (by decide) (hts _ hm_m_X5_findAnswer_2) (fun _ h9 => h9) rfl dX5_findAnswer_108 ?_
            refine W.widen (k := 0) (n := 0) (by decide +kernel) (by decide +kernel) ?_
            exact W.zret (v := iO_answered_x57_1) hx hb hr (by rcases z01 (x := iO_answered_x57_1) (b_iO_answered_x57_1) with h9 | h9 <;> rw [h9] <;> rfl) (fun t9_ ht hW => ⟨⟨iO_answered_x57_1, (iO_answered_x57_1, 1, p1, gO_goalNumber_44, gO_goalScale_44, fO_start_x57_1, fO_column_x57_1, fO_chosen_x57_1, fQ_inside_x57_1, fQ_outside_x57_1, fQ_shut_x57_1, iQ_rows_x57_1, iQ_allRows_x57_1, iQ_columns_x57_1, wl_x57_1, wb_x57_1, wG_x57_1), rfl, ⟨b_iO_answered_x57_1, (by (try dsimp only); exact (show 0 ≤ (1 : Int32).toInt ∧ (1 : Int32).toInt ≤ 1 from by decide)), b_p1, b_fO_column_x57_1, b_fO_chosen_x57_1, b_iQ_rows_x57_1, b_iQ_allRows_x57_1, b_iQ_columns_x57_1, b_wl_x57_1, b_wb_x57_1, (by (try dsimp only); exact (by first | with_reducible assumption | omega | assumption)), (b_iO_answered_x57_1)⟩, by rw [ht]; exact hP, hD⟩, hS.F ht⟩) hS.2.2 dX5_findAnswer_111
          · have t_59 : ¬ l3_x57_1.toInt ≥ k0_j4.toInt := toI_nge c_59 rfl rfl
            refine lv_iload_n hx hb dX5_findAnswer_62 rfl (lv_at hl 3 rfl) ?_
            refine lv_if_ne (tgt := 74) hx hb dX5_findAnswer_63 (by decide) (fun c_63 => ?_) (fun c_63 => ?_)
            · have t_63 : p1.toInt ≠ 0 := toI_ne c_63 rfl (by decide : (0 : Int32).toInt = 0)
              refine lv_aload_n hx hb dX5_findAnswer_74 rfl (lv_at hl 2 rfl) ?_
              refine lv_iload_n hx hb dX5_findAnswer_75 rfl (lv_at hl 3 rfl) ?_
              refine lv_aload_n hx hb dX5_findAnswer_76 rfl (lv_at hl 2 rfl) ?_
              refine va_get (D := (dC, dI)) (ci := 5) (v := .ref (hM 0)) (C := RX5) (T := TX5) (N := 19) hx hb hts iwsMX5_findAnswer_in5 hown hK hP 0 rfl rfl 0 (by decide) (hts _ hm_m_X5_findAnswer_3) (fun _ h9 => h9) rfl dX5_findAnswer_77 ?_
              refine va_get (D := (dC, dI)) (ci := 1) (v := .int iM_goals) (C := RX1) (T := TX1) (N := 17) hx hb hts iwsMX5_findAnswer_in1 hown hK hP 11 rfl rfl 3 (by decide) (hts _ hm_m_X5_findAnswer_5) (fun _ h9 => h9) rfl dX5_findAnswer_80 ?_
              have hFc := allFree hD hS hA
              refine va_calli (va_runV (As := [.int p1, .int iM_goals]) (rest := []) ⟨hx, hb, hml, hown, hts⟩ (m_X5_lay l dC dI hO aO kO hM hQ hw iO_answered_x57_1 1 p1 iO_counted fO_countedCase gO_goalNumber_44 gO_goalScale_44 fO_start_x57_1 fO_column_x57_1 fO_chosen_x57_1 aM kM iM_stands iM_variables iM_rows iM_goals iM_differents iM_cases fM_from fM_to fM_whole fM_ways iM_plainRows fM_plainRow fM_kept fM_goalOver fM_goalUnder fM_goalMax fM_different aQ kQ fQ_inside_x57_1 fQ_outside_x57_1 fQ_shut_x57_1 iQ_rows_x57_1 iQ_allRows_x57_1 iQ_columns_x57_1 nW lw kw wl_x57_1 wb_x57_1 wG_x57_1 p1 iM_goals (b_iO_answered_x57_1) (show 0 ≤ (1 : Int32).toInt ∧ (1 : Int32).toInt ≤ 1 from by decide) (b_p1) (b_iO_counted) b_fO_countedCase b_fO_column_x57_1 b_fO_chosen_x57_1 (b_iM_stands) (b_iM_variables) (b_iM_rows) (b_iM_goals) (b_iM_differents) (b_iM_cases) b_fM_ways (b_iM_plainRows) b_fM_plainRow (by first | with_reducible assumption | omega | assumption) (b_iQ_rows_x57_1) (b_iQ_allRows_x57_1) (b_iQ_columns_x57_1) (by first | with_reducible assumption | omega | assumption) b_wl_x57_1 b_wb_x57_1 (b_iM_goals) (by omega) H.size) (cwV 2 hts gwsMX5_findAnswer_1 rfl rfl rfl hd_yX5_lay_RX5 (by decide +kernel)) (fz_pre (va_recv hK hP (ci := 5) (q0 := 0) rfl rfl) hP hK hD) rfl rfl hl.1 rfl (lv_room (Nat.le_of_ble_eq_true rfl)) dX5_findAnswer_83 (by decide +kernel)) hS (fun q _ h => hFc q h) hFc (fun r80 u t9_ H locs ht hvm hw9 hB9 hz1 hk1 hS => ?_)
              revert u hw9 hB9
              refine fz_p11 ?_
              intro fO_start_80 fO_column_80 fQ_inside_80 fQ_outside_80 fQ_shut_80 iQ_rows_80 iQ_allRows_80 iQ_columns_80 wl_80 wb_80 wG_80 hw9 hB9
              try dsimp only at hw9 hB9
              revert hw9
              refine fz_a10 ?_
              intro b_fO_column_80 b_iQ_rows_80 b_iQ_allRows_80 b_iQ_columns_80 b_wl_80 b_wb_80 b_tb_80 b_r80 f80_0 f80_1
              have hP : va_P (dC, dI) vwCl (WO hO aO kO hM hQ hw iO_answered_x57_1 1 p1 iO_counted fO_countedCase gO_goalNumber_44 gO_goalScale_44 fO_start_80 fO_column_80 fO_chosen_x57_1 ++ (WM hM aM kM iM_stands iM_variables iM_rows iM_goals iM_differents iM_cases fM_from fM_to fM_whole fM_ways iM_plainRows fM_plainRow fM_kept fM_goalOver fM_goalUnder fM_goalMax fM_different ++ (WQ hQ aQ kQ hw fQ_inside_80 fQ_outside_80 fQ_shut_80 iQ_rows_80 iQ_allRows_80 iQ_columns_80 ++ (WW nW hw lw kw wl_80 wb_80 wG_80)))) H := fz_P ht hB9.1
              have hD := fz_sd hP (hB9.2.weaken (fun _ q _ h => hFc q.1 h)) rfl
              refine lv_if_eq (tgt := 101) hx hb dX5_findAnswer_86 (by decide) (fun c_86 => ?_) (fun c_86 => ?_)
              · have t_86 : r80.toInt = 0 := toI_eq c_86 rfl (by decide : (0 : Int32).toInt = 0)
                refine lv_iinc (v := (iI (l3_x57_1.toInt + 1))) hx hb dX5_findAnswer_101 hl (k := 0) rfl (iI_add2 (iI_of _) (by decide : (1 : Int32) = iI 1)) (by decide) rfl (fun ls (hl : lv_has ls _ ([(3, .int (iI (l3_x57_1.toInt + 1))), (2, .int k0_j4), (0, .ref (hO 0)), (1, .int p1)])) => ?_)
                refine lv_goto (tgt := 57) hx hb dX5_findAnswer_104 (by decide) ?_
                have hl : lv_has _ _ ([(3, .int (iI (l3_x57_1.toInt + 1))), (2, .int k0_j4), (0, .ref (hO 0)), (1, .int p1)]) := lv_sub hl [0, 1, 2, 3] rfl
                exact ihx57_1 iO_answered_x57_1 fO_start_80 fO_column_80 fO_chosen_x57_1 fQ_inside_80 fQ_outside_80 fQ_shut_80 iQ_rows_80 iQ_allRows_80 iQ_columns_80 wl_80 wb_80 wG_80 (iI (l3_x57_1.toInt + 1)) _ _ _ (b_iO_answered_x57_1) b_fO_column_80 b_fO_chosen_x57_1 (b_iQ_rows_80) (b_iQ_allRows_80) (b_iQ_columns_80) b_wl_80 b_wb_80 (iI_rng (Int.le_trans (by decide) (Int.add_le_add (b_l3_x57_1.1) (Int.le_refl _))) (by omega) (by decide) (by decide)) (by first | with_reducible assumption | omega | assumption) (by have e9 : ((iI (l3_x57_1.toInt + 1))).toInt = (l3_x57_1.toInt + 1) := (iI_t (Int.le_trans (by decide) (Int.add_le_add (b_l3_x57_1.1) (Int.le_refl _))) (Int.le_trans (Int.add_le_add (b_l3_x57_1.2) (Int.le_refl _)) (by decide))); omega) hP hD hS hl
              · have t_86 : ¬ r80.toInt = 0 := toI_neq c_86 rfl (by decide : (0 : Int32).toInt = 0)
                refine lv_aload_n hx hb dX5_findAnswer_89 rfl (lv_at hl 2 rfl) ?_
                refine lv_iload_n hx hb dX5_findAnswer_90 rfl (lv_at hl 3 rfl) ?_
                have hFc := allFree hD hS hA
                refine va_calli (va_runV (As := [.int p1]) (rest := []) ⟨hx, hb, hml, hown, hts⟩ (m_X5_settle l dC dI hO aO kO hM hQ hw iO_answered_x57_1 1 p1 iO_counted fO_countedCase gO_goalNumber_44 gO_goalScale_44 fO_start_80 fO_column_80 fO_chosen_x57_1 aM kM iM_stands iM_variables iM_rows iM_goals iM_differents iM_cases fM_from fM_to fM_whole fM_ways iM_plainRows fM_plainRow fM_kept fM_goalOver fM_goalUnder fM_goalMax fM_different aQ kQ fQ_inside_80 fQ_outside_80 fQ_shut_80 iQ_rows_80 iQ_allRows_80 iQ_columns_80 nW lw kw wl_80 wb_80 wG_80 p1 (b_iO_answered_x57_1) (show 0 ≤ (1 : Int32).toInt ∧ (1 : Int32).toInt ≤ 1 from by decide) (b_p1) (b_iO_counted) b_fO_countedCase b_fO_column_80 b_fO_chosen_x57_1 (b_iM_stands) (b_iM_variables) (b_iM_rows) (b_iM_goals) (b_iM_differents) (b_iM_cases) b_fM_ways (b_iM_plainRows) b_fM_plainRow (by first | with_reducible assumption | omega | assumption) (b_iQ_rows_80) (b_iQ_allRows_80) (b_iQ_columns_80) (by first | with_reducible assumption | omega | assumption) b_wl_80 b_wb_80 (by omega) (by omega) H.size) (cwV 1 hts gwsMX5_findAnswer_2 rfl rfl rfl hd_yX5_settle_RX5 (by decide +kernel)) (fz_pre (va_recv hK hP (ci := 5) (q0 := 0) rfl rfl) hP hK hD) rfl rfl hl.1 rfl (lv_room (Nat.le_of_ble_eq_true rfl)) dX5_findAnswer_91 (by decide +kernel)) hS (fun q _ h => hFc q h) hFc (fun r81 u t9_ H locs ht hvm hw9 hB9 hz1 hk1 hS => ?_)
                revert u hw9 hB9
                refine fz_p6 ?_
                intro fQ_inside_81 fQ_outside_81 fQ_shut_81 wl_81 wb_81 wG_81 hw9 hB9
                try dsimp only at hw9 hB9
                revert hw9
                refine fz_a3 ?_
                intro b_wl_81 b_wb_81 b_r81
                have hP : va_P (dC, dI) vwCl (WO hO aO kO hM hQ hw iO_answered_x57_1 1 p1 iO_counted fO_countedCase gO_goalNumber_44 gO_goalScale_44 fO_start_80 fO_column_80 fO_chosen_x57_1 ++ (WM hM aM kM iM_stands iM_variables iM_rows iM_goals iM_differents iM_cases fM_from fM_to fM_whole fM_ways iM_plainRows fM_plainRow fM_kept fM_goalOver fM_goalUnder fM_goalMax fM_different ++ (WQ hQ aQ kQ hw fQ_inside_81 fQ_outside_81 fQ_shut_81 iQ_rows_80 iQ_allRows_80 iQ_columns_80 ++ (WW nW hw lw kw wl_81 wb_81 wG_81)))) H := fz_P ht hB9.1
                have hD := fz_sd hP (hB9.2.weaken (fun _ q _ h => hFc q.1 h)) rfl
                refine lv_if_eq (tgt := 101) hx hb dX5_findAnswer_94 (by decide) (fun c_94 => ?_) (fun c_94 => ?_)
                · have t_94 : r81.toInt = 0 := toI_eq c_94 rfl (by decide : (0 : Int32).toInt = 0)
                  refine lv_iinc (v := (iI (l3_x57_1.toInt + 1))) hx hb dX5_findAnswer_101 hl (k := 0) rfl (iI_add2 (iI_of _) (by decide : (1 : Int32) = iI 1)) (by decide) rfl (fun ls (hl : lv_has ls _ ([(3, .int (iI (l3_x57_1.toInt + 1))), (2, .int k0_j4), (0, .ref (hO 0)), (1, .int p1)])) => ?_)
                  refine lv_goto (tgt := 57) hx hb dX5_findAnswer_104 (by decide) ?_
                  have hl : lv_has _ _ ([(3, .int (iI (l3_x57_1.toInt + 1))), (2, .int k0_j4), (0, .ref (hO 0)), (1, .int p1)]) := lv_sub hl [0, 1, 2, 3] rfl
                  exact ihx57_1 iO_answered_x57_1 fO_start_80 fO_column_80 fO_chosen_x57_1 fQ_inside_81 fQ_outside_81 fQ_shut_81 iQ_rows_80 iQ_allRows_80 iQ_columns_80 wl_81 wb_81 wG_81 (iI (l3_x57_1.toInt + 1)) _ _ _ (b_iO_answered_x57_1) b_fO_column_80 b_fO_chosen_x57_1 (b_iQ_rows_80) (b_iQ_allRows_80) (b_iQ_columns_80) b_wl_81 b_wb_81 (iI_rng (Int.le_trans (by decide) (Int.add_le_add (b_l3_x57_1.1) (Int.le_refl _))) (by omega) (by decide) (by decide)) (by first | with_reducible assumption | omega | assumption) (by have e9 : ((iI (l3_x57_1.toInt + 1))).toInt = (l3_x57_1.toInt + 1) := (iI_t (Int.le_trans (by decide) (Int.add_le_add (b_l3_x57_1.1) (Int.le_refl _))) (Int.le_trans (Int.add_le_add (b_l3_x57_1.2) (Int.le_refl _)) (by decide))); omega) hP hD hS hl
                · have t_94 : ¬ r81.toInt = 0 := toI_neq c_94 rfl (by decide : (0 : Int32).toInt = 0)
                  refine lv_aload_n hx hb dX5_findAnswer_97 rfl (lv_at hl 2 rfl) ?_
                  have hFc := allFree hD hS hA
                  refine va_callv (va_runV (As := []) (rest := []) ⟨hx, hb, hml, hown, hts⟩ (m_X5_tryAnswer l dC dI hO aO kO hM hQ hw iO_answered_x57_1 1 p1 iO_counted fO_countedCase gO_goalNumber_44 gO_goalScale_44 fO_start_80 fO_column_80 fO_chosen_x57_1 aM kM iM_stands iM_variables iM_rows iM_goals iM_differents iM_cases fM_from fM_to fM_whole fM_ways iM_plainRows fM_plainRow fM_kept fM_goalOver fM_goalUnder fM_goalMax fM_different aQ kQ fQ_inside_81 fQ_outside_81 fQ_shut_81 iQ_rows_80 iQ_allRows_80 iQ_columns_80 nW lw kw wl_81 wb_81 wG_81 (b_iO_answered_x57_1) (show 0 ≤ (1 : Int32).toInt ∧ (1 : Int32).toInt ≤ 1 from by decide) (b_p1) (b_iO_counted) b_fO_countedCase b_fO_column_80 b_fO_chosen_x57_1 (b_iM_stands) (b_iM_variables) (b_iM_rows) (b_iM_goals) (b_iM_differents) (b_iM_cases) b_fM_ways (b_iM_plainRows) b_fM_plainRow (by first | with_reducible assumption | omega | assumption) (b_iQ_rows_80) (b_iQ_allRows_80) (b_iQ_columns_80) (by first | with_reducible assumption | omega | assumption) b_wl_81 b_wb_81 (by omega) (by omega) (by omega) H.size) (cwV 0 hts gwsMX5_findAnswer_3 rfl rfl rfl hd_yX5_tryAnswer_RX5 (by decide +kernel)) (fz_pre (va_recv hK hP (ci := 5) (q0 := 0) rfl rfl) hP hK hD) rfl rfl hl.1 rfl (lv_room (Nat.le_of_ble_eq_true rfl)) dX5_findAnswer_98 (by decide +kernel)) hS (fun q _ h => hFc q h) hFc (fun u t9_ H locs ht hvm hw9 hB9 hz1 hk1 hS => ?_)
                  revert u hw9 hB9
                  refine fz_p7 ?_
                  intro iO_answered_82 fQ_inside_82 fQ_outside_82 fQ_shut_82 wl_82 wb_82 wG_82 hw9 hB9
                  try dsimp only at hw9 hB9
                  revert hw9
                  refine fz_a3 ?_
                  intro b_iO_answered_82 b_wl_82 b_wb_82
                  have hP : va_P (dC, dI) vwCl (WO hO aO kO hM hQ hw iO_answered_82 1 p1 iO_counted fO_countedCase gO_goalNumber_44 gO_goalScale_44 fO_start_80 fO_column_80 fO_chosen_x57_1 ++ (WM hM aM kM iM_stands iM_variables iM_rows iM_goals iM_differents iM_cases fM_from fM_to fM_whole fM_ways iM_plainRows fM_plainRow fM_kept fM_goalOver fM_goalUnder fM_goalMax fM_different ++ (WQ hQ aQ kQ hw fQ_inside_82 fQ_outside_82 fQ_shut_82 iQ_rows_80 iQ_allRows_80 iQ_columns_80 ++ (WW nW hw lw kw wl_82 wb_82 wG_82)))) H := fz_P ht hB9.1
                  have hD := fz_sd hP (hB9.2.weaken (fun _ q _ h => hFc q.1 h)) rfl
                  refine lv_iinc (v := (iI (l3_x57_1.toInt + 1))) hx hb dX5_findAnswer_101 hl (k := 0) rfl (iI_add2 (iI_of _) (by decide : (1 : Int32) = iI 1)) (by decide) rfl (fun ls (hl : lv_has ls _ ([(3, .int (iI (l3_x57_1.toInt + 1))), (2, .int k0_j4), (0, .ref (hO 0)), (1, .int p1)])) => ?_)
                  refine lv_goto (tgt := 57) hx hb dX5_findAnswer_104 (by decide) ?_
                  have hl : lv_has _ _ ([(3, .int (iI (l3_x57_1.toInt + 1))), (2, .int k0_j4), (0, .ref (hO 0)), (1, .int p1)]) := lv_sub hl [0, 1, 2, 3] rfl
                  exact ihx57_1 iO_answered_82 fO_start_80 fO_column_80 fO_chosen_x57_1 fQ_inside_82 fQ_outside_82 fQ_shut_82 iQ_rows_80 iQ_allRows_80 iQ_columns_80 wl_82 wb_82 wG_82 (iI (l3_x57_1.toInt + 1)) _ _ _ (b_iO_answered_82) b_fO_column_80 b_fO_chosen_x57_1 (b_iQ_rows_80) (b_iQ_allRows_80) (b_iQ_columns_80) b_wl_82 b_wb_82 (iI_rng (Int.le_trans (by decide) (Int.add_le_add (b_l3_x57_1.1) (Int.le_refl _))) (by omega) (by decide) (by decide)) (by first | with_reducible assumption | omega | assumption) (by have e9 : ((iI (l3_x57_1.toInt + 1))).toInt = (l3_x57_1.toInt + 1) := (iI_t (Int.le_trans (by decide) (Int.add_le_add (b_l3_x57_1.1) (Int.le_refl _))) (Int.le_trans (Int.add_le_add (b_l3_x57_1.2) (Int.le_refl _)) (by decide))); omega) hP hD hS hl
            · have t_63 : p1.toInt = 0 := toI_nne c_63 rfl (by decide : (0 : Int32).toInt = 0)
              refine lv_aload_n hx hb dX5_findAnswer_66 rfl (lv_at hl 2 rfl) ?_
              refine lv_iload_n hx hb dX5_findAnswer_67 rfl (lv_at hl 0 rfl) ?_
              have hFc := allFree hD hS hA
              refine va_calli (va_runV (As := [.int l3_x57_1]) (rest := []) ⟨hx, hb, hml, hown, hts⟩ (m_X5_choose l dC dI hO aO kO hM hQ hw iO_answered_x57_1 1 p1 iO_counted fO_countedCase gO_goalNumber_44 gO_goalScale_44 fO_start_x57_1 fO_column_x57_1 fO_chosen_x57_1 aM kM iM_stands iM_variables iM_rows iM_goals iM_differents iM_cases fM_from fM_to fM_whole fM_ways iM_plainRows fM_plainRow fM_kept fM_goalOver fM_goalUnder fM_goalMax fM_different aQ kQ fQ_inside_x57_1 fQ_outside_x57_1 fQ_shut_x57_1 iQ_rows_x57_1 iQ_allRows_x57_1 iQ_columns_x57_1 nW lw kw wl_x57_1 wb_x57_1 wG_x57_1 l3_x57_1 (b_iO_answered_x57_1) (show 0 ≤ (1 : Int32).toInt ∧ (1 : Int32).toInt ≤ 1 from by decide) (b_p1) (b_iO_counted) b_fO_countedCase b_fO_column_x57_1 b_fO_chosen_x57_1 (b_iM_stands) (b_iM_variables) (b_iM_rows) (b_iM_goals) (b_iM_differents) (b_iM_cases) b_fM_ways (b_iM_plainRows) b_fM_plainRow (by first | with_reducible assumption | omega | assumption) (b_iQ_rows_x57_1) (b_iQ_allRows_x57_1) (b_iQ_columns_x57_1) (by first | with_reducible assumption | omega | assumption) b_wl_x57_1 b_wb_x57_1 (b_l3_x57_1) (by omega) H.size) (cwV 1 hts gwsMX5_findAnswer_4 rfl rfl rfl hd_yX5_choose_RX5 (by decide +kernel)) (fz_pre (va_recv hK hP (ci := 5) (q0 := 0) rfl rfl) hP hK hD) rfl rfl hl.1 rfl (lv_room (Nat.le_of_ble_eq_true rfl)) dX5_findAnswer_68 (by decide +kernel)) hS (fun q _ h => hFc q h) hFc (fun r83 u t9_ H locs ht hvm hw9 hB9 hz1 hk1 hS => ?_)
              revert u hw9 hB9
              refine fz_p2 ?_
              intro fO_start_83 fO_chosen_83 hw9 hB9
              try dsimp only at hw9 hB9
              revert hw9
              refine fz_a2 ?_
              intro b_fO_chosen_83 b_r83
              have hP : va_P (dC, dI) vwCl (WO hO aO kO hM hQ hw iO_answered_x57_1 1 p1 iO_counted fO_countedCase gO_goalNumber_44 gO_goalScale_44 fO_start_83 fO_column_x57_1 fO_chosen_83 ++ (WM hM aM kM iM_stands iM_variables iM_rows iM_goals iM_differents iM_cases fM_from fM_to fM_whole fM_ways iM_plainRows fM_plainRow fM_kept fM_goalOver fM_goalUnder fM_goalMax fM_different ++ (WQ hQ aQ kQ hw fQ_inside_x57_1 fQ_outside_x57_1 fQ_shut_x57_1 iQ_rows_x57_1 iQ_allRows_x57_1 iQ_columns_x57_1 ++ (WW nW hw lw kw wl_x57_1 wb_x57_1 wG_x57_1)))) H := fz_P ht hB9.1
              have hD := fz_sd hP (hB9.2.weaken (fun _ q _ h => hFc q.1 h)) rfl
              refine lv_if_eq (tgt := 101) hx hb dX5_findAnswer_71 (by decide) (fun c_71 => ?_) (fun c_71 => ?_)
              · have t_71 : r83.toInt = 0 := toI_eq c_71 rfl (by decide : (0 : Int32).toInt = 0)
                refine lv_iinc (v := (iI (l3_x57_1.toInt + 1))) hx hb dX5_findAnswer_101 hl (k := 0) rfl (iI_add2 (iI_of _) (by decide : (1 : Int32) = iI 1)) (by decide) rfl (fun ls (hl : lv_has ls _ ([(3, .int (iI (l3_x57_1.toInt + 1))), (2, .int k0_j4), (0, .ref (hO 0)), (1, .int p1)])) => ?_)
                refine lv_goto (tgt := 57) hx hb dX5_findAnswer_104 (by decide) ?_
                have hl : lv_has _ _ ([(3, .int (iI (l3_x57_1.toInt + 1))), (2, .int k0_j4), (0, .ref (hO 0)), (1, .int p1)]) := lv_sub hl [0, 1, 2, 3] rfl
                exact ihx57_1 iO_answered_x57_1 fO_start_83 fO_column_x57_1 fO_chosen_83 fQ_inside_x57_1 fQ_outside_x57_1 fQ_shut_x57_1 iQ_rows_x57_1 iQ_allRows_x57_1 iQ_columns_x57_1 wl_x57_1 wb_x57_1 wG_x57_1 (iI (l3_x57_1.toInt + 1)) _ _ _ (b_iO_answered_x57_1) b_fO_column_x57_1 b_fO_chosen_83 (b_iQ_rows_x57_1) (b_iQ_allRows_x57_1) (b_iQ_columns_x57_1) b_wl_x57_1 b_wb_x57_1 (iI_rng (Int.le_trans (by decide) (Int.add_le_add (b_l3_x57_1.1) (Int.le_refl _))) (by omega) (by decide) (by decide)) (by first | with_reducible assumption | omega | assumption) (by have e9 : ((iI (l3_x57_1.toInt + 1))).toInt = (l3_x57_1.toInt + 1) := (iI_t (Int.le_trans (by decide) (Int.add_le_add (b_l3_x57_1.1) (Int.le_refl _))) (Int.le_trans (Int.add_le_add (b_l3_x57_1.2) (Int.le_refl _)) (by decide))); omega) hP hD hS hl
              · have t_71 : ¬ r83.toInt = 0 := toI_neq c_71 rfl (by decide : (0 : Int32).toInt = 0)
                refine lv_aload_n hx hb dX5_findAnswer_74 rfl (lv_at hl 2 rfl) ?_
                refine lv_iload_n hx hb dX5_findAnswer_75 rfl (lv_at hl 3 rfl) ?_
                refine lv_aload_n hx hb dX5_findAnswer_76 rfl (lv_at hl 2 rfl) ?_
                refine va_get (D := (dC, dI)) (ci := 5) (v := .ref (hM 0)) (C := RX5) (T := TX5) (N := 19) hx hb hts iwsMX5_findAnswer_in5 hown hK hP 0 rfl rfl 0 (by decide) (hts _ hm_m_X5_findAnswer_3) (fun _ h9 => h9) rfl dX5_findAnswer_77 ?_
                refine va_get (D := (dC, dI)) (ci := 1) (v := .int iM_goals) (C := RX1) (T := TX1) (N := 17) hx hb hts iwsMX5_findAnswer_in1 hown hK hP 11 rfl rfl 3 (by decide) (hts _ hm_m_X5_findAnswer_5) (fun _ h9 => h9) rfl dX5_findAnswer_80 ?_
                have hFc := allFree hD hS hA
                refine va_calli (va_runV (As := [.int p1, .int iM_goals]) (rest := []) ⟨hx, hb, hml, hown, hts⟩ (m_X5_lay l dC dI hO aO kO hM hQ hw iO_answered_x57_1 1 p1 iO_counted fO_countedCase gO_goalNumber_44 gO_goalScale_44 fO_start_83 fO_column_x57_1 fO_chosen_83 aM kM iM_stands iM_variables iM_rows iM_goals iM_differents iM_cases fM_from fM_to fM_whole fM_ways iM_plainRows fM_plainRow fM_kept fM_goalOver fM_goalUnder fM_goalMax fM_different aQ kQ fQ_inside_x57_1 fQ_outside_x57_1 fQ_shut_x57_1 iQ_rows_x57_1 iQ_allRows_x57_1 iQ_columns_x57_1 nW lw kw wl_x57_1 wb_x57_1 wG_x57_1 p1 iM_goals (b_iO_answered_x57_1) (show 0 ≤ (1 : Int32).toInt ∧ (1 : Int32).toInt ≤ 1 from by decide) (b_p1) (b_iO_counted) b_fO_countedCase b_fO_column_x57_1 b_fO_chosen_83 (b_iM_stands) (b_iM_variables) (b_iM_rows) (b_iM_goals) (b_iM_differents) (b_iM_cases) b_fM_ways (b_iM_plainRows) b_fM_plainRow (by first | with_reducible assumption | omega | assumption) (b_iQ_rows_x57_1) (b_iQ_allRows_x57_1) (b_iQ_columns_x57_1) (by first | with_reducible assumption | omega | assumption) b_wl_x57_1 b_wb_x57_1 (b_iM_goals) (by omega) H.size) (cwV 2 hts gwsMX5_findAnswer_1 rfl rfl rfl hd_yX5_lay_RX5 (by decide +kernel)) (fz_pre (va_recv hK hP (ci := 5) (q0 := 0) rfl rfl) hP hK hD) rfl rfl hl.1 rfl (lv_room (Nat.le_of_ble_eq_true rfl)) dX5_findAnswer_83 (by decide +kernel)) hS (fun q _ h => hFc q h) hFc (fun r84 u t9_ H locs ht hvm hw9 hB9 hz1 hk1 hS => ?_)
                revert u hw9 hB9
                refine fz_p11 ?_
                intro fO_start_84 fO_column_84 fQ_inside_84 fQ_outside_84 fQ_shut_84 iQ_rows_84 iQ_allRows_84 iQ_columns_84 wl_84 wb_84 wG_84 hw9 hB9
                try dsimp only at hw9 hB9
                revert hw9
                refine fz_a10 ?_
                intro b_fO_column_84 b_iQ_rows_84 b_iQ_allRows_84 b_iQ_columns_84 b_wl_84 b_wb_84 b_tb_84 b_r84 f84_0 f84_1
                have hP : va_P (dC, dI) vwCl (WO hO aO kO hM hQ hw iO_answered_x57_1 1 p1 iO_counted fO_countedCase gO_goalNumber_44 gO_goalScale_44 fO_start_84 fO_column_84 fO_chosen_83 ++ (WM hM aM kM iM_stands iM_variables iM_rows iM_goals iM_differents iM_cases fM_from fM_to fM_whole fM_ways iM_plainRows fM_plainRow fM_kept fM_goalOver fM_goalUnder fM_goalMax fM_different ++ (WQ hQ aQ kQ hw fQ_inside_84 fQ_outside_84 fQ_shut_84 iQ_rows_84 iQ_allRows_84 iQ_columns_84 ++ (WW nW hw lw kw wl_84 wb_84 wG_84)))) H := fz_P ht hB9.1
                have hD := fz_sd hP (hB9.2.weaken (fun _ q _ h => hFc q.1 h)) rfl
                refine lv_if_eq (tgt := 101) hx hb dX5_findAnswer_86 (by decide) (fun c_86 => ?_) (fun c_86 => ?_)
                · have t_86 : r84.toInt = 0 := toI_eq c_86 rfl (by decide : (0 : Int32).toInt = 0)
                  refine lv_iinc (v := (iI (l3_x57_1.toInt + 1))) hx hb dX5_findAnswer_101 hl (k := 0) rfl (iI_add2 (iI_of _) (by decide : (1 : Int32) = iI 1)) (by decide) rfl (fun ls (hl : lv_has ls _ ([(3, .int (iI (l3_x57_1.toInt + 1))), (2, .int k0_j4), (0, .ref (hO 0)), (1, .int p1)])) => ?_)
                  refine lv_goto (tgt := 57) hx hb dX5_findAnswer_104 (by decide) ?_
                  have hl : lv_has _ _ ([(3, .int (iI (l3_x57_1.toInt + 1))), (2, .int k0_j4), (0, .ref (hO 0)), (1, .int p1)]) := lv_sub hl [0, 1, 2, 3] rfl
                  exact ihx57_1 iO_answered_x57_1 fO_start_84 fO_column_84 fO_chosen_83 fQ_inside_84 fQ_outside_84 fQ_shut_84 iQ_rows_84 iQ_allRows_84 iQ_columns_84 wl_84 wb_84 wG_84 (iI (l3_x57_1.toInt + 1)) _ _ _ (b_iO_answered_x57_1) b_fO_column_84 b_fO_chosen_83 (b_iQ_rows_84) (b_iQ_allRows_84) (b_iQ_columns_84) b_wl_84 b_wb_84 (iI_rng (Int.le_trans (by decide) (Int.add_le_add (b_l3_x57_1.1) (Int.le_refl _))) (by omega) (by decide) (by decide)) (by first | with_reducible assumption | omega | assumption) (by have e9 : ((iI (l3_x57_1.toInt + 1))).toInt = (l3_x57_1.toInt + 1) := (iI_t (Int.le_trans (by decide) (Int.add_le_add (b_l3_x57_1.1) (Int.le_refl _))) (Int.le_trans (Int.add_le_add (b_l3_x57_1.2) (Int.le_refl _)) (by decide))); omega) hP hD hS hl
                · have t_86 : ¬ r84.toInt = 0 := toI_neq c_86 rfl (by decide : (0 : Int32).toInt = 0)
                  refine lv_aload_n hx hb dX5_findAnswer_89 rfl (lv_at hl 2 rfl) ?_
                  refine lv_iload_n hx hb dX5_findAnswer_90 rfl (lv_at hl 3 rfl) ?_
                  have hFc := allFree hD hS hA
                  refine va_calli (va_runV (As := [.int p1]) (rest := []) ⟨hx, hb, hml, hown, hts⟩ (m_X5_settle l dC dI hO aO kO hM hQ hw iO_answered_x57_1 1 p1 iO_counted fO_countedCase gO_goalNumber_44 gO_goalScale_44 fO_start_84 fO_column_84 fO_chosen_83 aM kM iM_stands iM_variables iM_rows iM_goals iM_differents iM_cases fM_from fM_to fM_whole fM_ways iM_plainRows fM_plainRow fM_kept fM_goalOver fM_goalUnder fM_goalMax fM_different aQ kQ fQ_inside_84 fQ_outside_84 fQ_shut_84 iQ_rows_84 iQ_allRows_84 iQ_columns_84 nW lw kw wl_84 wb_84 wG_84 p1 (b_iO_answered_x57_1) (show 0 ≤ (1 : Int32).toInt ∧ (1 : Int32).toInt ≤ 1 from by decide) (b_p1) (b_iO_counted) b_fO_countedCase b_fO_column_84 b_fO_chosen_83 (b_iM_stands) (b_iM_variables) (b_iM_rows) (b_iM_goals) (b_iM_differents) (b_iM_cases) b_fM_ways (b_iM_plainRows) b_fM_plainRow (by first | with_reducible assumption | omega | assumption) (b_iQ_rows_84) (b_iQ_allRows_84) (b_iQ_columns_84) (by first | with_reducible assumption | omega | assumption) b_wl_84 b_wb_84 (by omega) (by omega) H.size) (cwV 1 hts gwsMX5_findAnswer_2 rfl rfl rfl hd_yX5_settle_RX5 (by decide +kernel)) (fz_pre (va_recv hK hP (ci := 5) (q0 := 0) rfl rfl) hP hK hD) rfl rfl hl.1 rfl (lv_room (Nat.le_of_ble_eq_true rfl)) dX5_findAnswer_91 (by decide +kernel)) hS (fun q _ h => hFc q h) hFc (fun r85 u t9_ H locs ht hvm hw9 hB9 hz1 hk1 hS => ?_)
                  revert u hw9 hB9
                  refine fz_p6 ?_
                  intro fQ_inside_85 fQ_outside_85 fQ_shut_85 wl_85 wb_85 wG_85 hw9 hB9
                  try dsimp only at hw9 hB9
                  revert hw9
                  refine fz_a3 ?_
                  intro b_wl_85 b_wb_85 b_r85
                  have hP : va_P (dC, dI) vwCl (WO hO aO kO hM hQ hw iO_answered_x57_1 1 p1 iO_counted fO_countedCase gO_goalNumber_44 gO_goalScale_44 fO_start_84 fO_column_84 fO_chosen_83 ++ (WM hM aM kM iM_stands iM_variables iM_rows iM_goals iM_differents iM_cases fM_from fM_to fM_whole fM_ways iM_plainRows fM_plainRow fM_kept fM_goalOver fM_goalUnder fM_goalMax fM_different ++ (WQ hQ aQ kQ hw fQ_inside_85 fQ_outside_85 fQ_shut_85 iQ_rows_84 iQ_allRows_84 iQ_columns_84 ++ (WW nW hw lw kw wl_85 wb_85 wG_85)))) H := fz_P ht hB9.1
                  have hD := fz_sd hP (hB9.2.weaken (fun _ q _ h => hFc q.1 h)) rfl
                  refine lv_if_eq (tgt := 101) hx hb dX5_findAnswer_94 (by decide) (fun c_94 => ?_) (fun c_94 => ?_)
                  · have t_94 : r85.toInt = 0 := toI_eq c_94 rfl (by decide : (0 : Int32).toInt = 0)
                    refine lv_iinc (v := (iI (l3_x57_1.toInt + 1))) hx hb dX5_findAnswer_101 hl (k := 0) rfl (iI_add2 (iI_of _) (by decide : (1 : Int32) = iI 1)) (by decide) rfl (fun ls (hl : lv_has ls _ ([(3, .int (iI (l3_x57_1.toInt + 1))), (2, .int k0_j4), (0, .ref (hO 0)), (1, .int p1)])) => ?_)
                    refine lv_goto (tgt := 57) hx hb dX5_findAnswer_104 (by decide) ?_
                    have hl : lv_has _ _ ([(3, .int (iI (l3_x57_1.toInt + 1))), (2, .int k0_j4), (0, .ref (hO 0)), (1, .int p1)]) := lv_sub hl [0, 1, 2, 3] rfl
                    exact ihx57_1 iO_answered_x57_1 fO_start_84 fO_column_84 fO_chosen_83 fQ_inside_85 fQ_outside_85 fQ_shut_85 iQ_rows_84 iQ_allRows_84 iQ_columns_84 wl_85 wb_85 wG_85 (iI (l3_x57_1.toInt + 1)) _ _ _ (b_iO_answered_x57_1) b_fO_column_84 b_fO_chosen_83 (b_iQ_rows_84) (b_iQ_allRows_84) (b_iQ_columns_84) b_wl_85 b_wb_85 (iI_rng (Int.le_trans (by decide) (Int.add_le_add (b_l3_x57_1.1) (Int.le_refl _))) (by omega) (by decide) (by decide)) (by first | with_reducible assumption | omega | assumption) (by have e9 : ((iI (l3_x57_1.toInt + 1))).toInt = (l3_x57_1.toInt + 1) := (iI_t (Int.le_trans (by decide) (Int.add_le_add (b_l3_x57_1.1) (Int.le_refl _))) (Int.le_trans (Int.add_le_add (b_l3_x57_1.2) (Int.le_refl _)) (by decide))); omega) hP hD hS hl
                  · have t_94 : ¬ r85.toInt = 0 := toI_neq c_94 rfl (by decide : (0 : Int32).toInt = 0)
                    refine lv_aload_n hx hb dX5_findAnswer_97 rfl (lv_at hl 2 rfl) ?_
                    have hFc := allFree hD hS hA
                    refine va_callv (va_runV (As := []) (rest := []) ⟨hx, hb, hml, hown, hts⟩ (m_X5_tryAnswer l dC dI hO aO kO hM hQ hw iO_answered_x57_1 1 p1 iO_counted fO_countedCase gO_goalNumber_44 gO_goalScale_44 fO_start_84 fO_column_84 fO_chosen_83 aM kM iM_stands iM_variables iM_rows iM_goals iM_differents iM_cases fM_from fM_to fM_whole fM_ways iM_plainRows fM_plainRow fM_kept fM_goalOver fM_goalUnder fM_goalMax fM_different aQ kQ fQ_inside_85 fQ_outside_85 fQ_shut_85 iQ_rows_84 iQ_allRows_84 iQ_columns_84 nW lw kw wl_85 wb_85 wG_85 (b_iO_answered_x57_1) (show 0 ≤ (1 : Int32).toInt ∧ (1 : Int32).toInt ≤ 1 from by decide) (b_p1) (b_iO_counted) b_fO_countedCase b_fO_column_84 b_fO_chosen_83 (b_iM_stands) (b_iM_variables) (b_iM_rows) (b_iM_goals) (b_iM_differents) (b_iM_cases) b_fM_ways (b_iM_plainRows) b_fM_plainRow (by first | with_reducible assumption | omega | assumption) (b_iQ_rows_84) (b_iQ_allRows_84) (b_iQ_columns_84) (by first | with_reducible assumption | omega | assumption) b_wl_85 b_wb_85 (by omega) (by omega) (by omega) H.size) (cwV 0 hts gwsMX5_findAnswer_3 rfl rfl rfl hd_yX5_tryAnswer_RX5 (by decide +kernel)) (fz_pre (va_recv hK hP (ci := 5) (q0 := 0) rfl rfl) hP hK hD) rfl rfl hl.1 rfl (lv_room (Nat.le_of_ble_eq_true rfl)) dX5_findAnswer_98 (by decide +kernel)) hS (fun q _ h => hFc q h) hFc (fun u t9_ H locs ht hvm hw9 hB9 hz1 hk1 hS => ?_)
                    revert u hw9 hB9
                    refine fz_p7 ?_
                    intro iO_answered_86 fQ_inside_86 fQ_outside_86 fQ_shut_86 wl_86 wb_86 wG_86 hw9 hB9
                    try dsimp only at hw9 hB9
                    revert hw9
                    refine fz_a3 ?_
                    intro b_iO_answered_86 b_wl_86 b_wb_86
                    have hP : va_P (dC, dI) vwCl (WO hO aO kO hM hQ hw iO_answered_86 1 p1 iO_counted fO_countedCase gO_goalNumber_44 gO_goalScale_44 fO_start_84 fO_column_84 fO_chosen_83 ++ (WM hM aM kM iM_stands iM_variables iM_rows iM_goals iM_differents iM_cases fM_from fM_to fM_whole fM_ways iM_plainRows fM_plainRow fM_kept fM_goalOver fM_goalUnder fM_goalMax fM_different ++ (WQ hQ aQ kQ hw fQ_inside_86 fQ_outside_86 fQ_shut_86 iQ_rows_84 iQ_allRows_84 iQ_columns_84 ++ (WW nW hw lw kw wl_86 wb_86 wG_86)))) H := fz_P ht hB9.1
                    have hD := fz_sd hP (hB9.2.weaken (fun _ q _ h => hFc q.1 h)) rfl
                    refine lv_iinc (v := (iI (l3_x57_1.toInt + 1))) hx hb dX5_findAnswer_101 hl (k := 0) rfl (iI_add2 (iI_of _) (by decide : (1 : Int32) = iI 1)) (by decide) rfl (fun ls (hl : lv_has ls _ ([(3, .int (iI (l3_x57_1.toInt + 1))), (2, .int k0_j4), (0, .ref (hO 0)), (1, .int p1)])) => ?_)
                    refine lv_goto (tgt := 57) hx hb dX5_findAnswer_104 (by decide) ?_
                    have hl : lv_has _ _ ([(3, .int (iI (l3_x57_1.toInt + 1))), (2, .int k0_j4), (0, .ref (hO 0)), (1, .int p1)]) := lv_sub hl [0, 1, 2, 3] rfl
                    exact ihx57_1 iO_answered_86 fO_start_84 fO_column_84 fO_chosen_83 fQ_inside_86 fQ_outside_86 fQ_shut_86 iQ_rows_84 iQ_allRows_84 iQ_columns_84 wl_86 wb_86 wG_86 (iI (l3_x57_1.toInt + 1)) _ _ _ (b_iO_answered_86) b_fO_column_84 b_fO_chosen_83 (b_iQ_rows_84) (b_iQ_allRows_84) (b_iQ_columns_84) b_wl_86 b_wb_86 (iI_rng (Int.le_trans (by decide) (Int.add_le_add (b_l3_x57_1.1) (Int.le_refl _))) (by omega) (by decide) (by decide)) (by first | with_reducible assumption | omega | assumption) (by have e9 : ((iI (l3_x57_1.toInt + 1))).toInt = (l3_x57_1.toInt + 1) := (iI_t (Int.le_trans (by decide) (Int.add_le_add (b_l3_x57_1.1) (Int.le_refl _))) (Int.le_trans (Int.add_le_add (b_l3_x57_1.2) (Int.le_refl _)) (by decide))); omega) hP hD hS hl
    · have t_12 : iO_searchedRelaxed.toInt = p1.toInt := toI_nne c_12 rfl rfl
      refine lv_aload_n hx hb dX5_findAnswer_15 rfl (lv_at hl 0 rfl) ?_
      refine va_get (D := (dC, dI)) (ci := 5) (v := .int iO_answered) (C := RX5) (T := TX5) (N := 19) hx hb hts iwsMX5_findAnswer_in5 hown hK hP 0 rfl rfl 2 (by decide) (hts _ hm_m_X5_findAnswer_2) (fun _ h9 => h9) rfl dX5_findAnswer_16 ?_
      refine W.widen (k := 0) (n := 0) (by decide +kernel) (by decide +kernel) ?_
      exact W.zret (v := iO_answered) hx hb hr (by rcases z01 (x := iO_answered) (b_iO_answered) with h9 | h9 <;> rw [h9] <;> rfl) (fun t9_ ht hW => ⟨⟨iO_answered, (iO_answered, iO_searched, iO_searchedRelaxed, gO_goalNumber, gO_goalScale, fO_start, fO_column, fO_chosen, fQ_inside, fQ_outside, fQ_shut, iQ_rows, iQ_allRows, iQ_columns, wl, wb, wG), rfl, ⟨b_iO_answered, b_iO_searched, b_iO_searchedRelaxed, b_fO_column, b_fO_chosen, b_iQ_rows, b_iQ_allRows, b_iQ_columns, b_wl, b_wb, (by (try dsimp only); exact (by first | with_reducible assumption | omega | assumption)), (b_iO_answered)⟩, by rw [ht]; exact hP, hD⟩, hS.F ht⟩) hS.2.2 dX5_findAnswer_19
theorem dX5_firstWay_0 : decode cX5_firstWay 0 = .ok (.iconst 0, 1) := dk_3 (by decide +kernel)
theorem dX5_firstWay_1 : decode cX5_firstWay 1 = .ok (.istore_n 2, 1) := dk_61 (by decide +kernel)
theorem dX5_firstWay_2 : decode cX5_firstWay 2 = .ok (.iload_n 2, 1) := dk_28 (by decide +kernel)
theorem dX5_firstWay_3 : decode cX5_firstWay 3 = .ok (.aload_n 0, 1) := dk_42 (by decide +kernel)
theorem dX5_firstWay_4 : decode cX5_firstWay 4 = .ok (.getfield 74, 3) := dk_180 (by decide +kernel)
theorem dX5_firstWay_7 : decode cX5_firstWay 7 = .ok (.getfield 134, 3) := dk_180 (by decide +kernel)
theorem dX5_firstWay_10 : decode cX5_firstWay 10 = .ok (.iload_n 1, 1) := dk_27 (by decide +kernel)
theorem dX5_firstWay_11 : decode cX5_firstWay 11 = .ok (.iaload, 1) := dk_46 (by decide +kernel)
theorem dX5_firstWay_12 : decode cX5_firstWay 12 = .ok (.if_icmp .ge 131, 3) := dk_162 (by decide +kernel)
theorem dX5_firstWay_15 : decode cX5_firstWay 15 = .ok (.aload_n 0, 1) := dk_42 (by decide +kernel)
theorem dX5_firstWay_16 : decode cX5_firstWay 16 = .ok (.getfield 71, 3) := dk_180 (by decide +kernel)
theorem dX5_firstWay_19 : decode cX5_firstWay 19 = .ok (.iconst 1, 1) := dk_4 (by decide +kernel)
theorem dX5_firstWay_20 : decode cX5_firstWay 20 = .ok (.aaload, 1) := dk_50 (by decide +kernel)
theorem dX5_firstWay_21 : decode cX5_firstWay 21 = .ok (.astore_n 3, 1) := dk_78 (by decide +kernel)
theorem dX5_firstWay_22 : decode cX5_firstWay 22 = .ok (.aload_n 3, 1) := dk_45 (by decide +kernel)
theorem dX5_firstWay_23 : decode cX5_firstWay 23 = .ok (.lconst 0, 1) := dk_9 (by decide +kernel)
theorem dX5_firstWay_24 : decode cX5_firstWay 24 = .ok (.invokevirtual 184, 3) := dk_182 (by decide +kernel)
theorem dX5_firstWay_27 : decode cX5_firstWay 27 = .ok (.aload_n 0, 1) := dk_42 (by decide +kernel)
theorem dX5_firstWay_28 : decode cX5_firstWay 28 = .ok (.aload_n 3, 1) := dk_45 (by decide +kernel)
theorem dX5_firstWay_29 : decode cX5_firstWay 29 = .ok (.aload_n 0, 1) := dk_42 (by decide +kernel)
theorem dX5_firstWay_30 : decode cX5_firstWay 30 = .ok (.getfield 58, 3) := dk_180 (by decide +kernel)
theorem dX5_firstWay_33 : decode cX5_firstWay 33 = .ok (.aload_n 0, 1) := dk_42 (by decide +kernel)
theorem dX5_firstWay_34 : decode cX5_firstWay 34 = .ok (.getfield 74, 3) := dk_180 (by decide +kernel)
theorem dX5_firstWay_37 : decode cX5_firstWay 37 = .ok (.iload_n 1, 1) := dk_27 (by decide +kernel)
theorem dX5_firstWay_38 : decode cX5_firstWay 38 = .ok (.iload_n 2, 1) := dk_28 (by decide +kernel)
theorem dX5_firstWay_39 : decode cX5_firstWay 39 = .ok (.invokevirtual 197, 3) := dk_182 (by decide +kernel)
theorem dX5_firstWay_42 : decode cX5_firstWay 42 = .ok (.ineg, 1) := dk_116 (by decide +kernel)
theorem dX5_firstWay_43 : decode cX5_firstWay 43 = .ok (.i2l, 1) := dk_133 (by decide +kernel)
theorem dX5_firstWay_44 : decode cX5_firstWay 44 = .ok (.invokevirtual 211, 3) := dk_182 (by decide +kernel)
theorem dX5_firstWay_47 : decode cX5_firstWay 47 = .ok (.iconst 0, 1) := dk_3 (by decide +kernel)
theorem dX5_firstWay_48 : decode cX5_firstWay 48 = .ok (.istore 4, 2) := dk_54 (by decide +kernel)
theorem dX5_firstWay_50 : decode cX5_firstWay 50 = .ok (.iload 4, 2) := dk_21 (by decide +kernel)
theorem dX5_firstWay_52 : decode cX5_firstWay 52 = .ok (.aload_n 0, 1) := dk_42 (by decide +kernel)
theorem dX5_firstWay_53 : decode cX5_firstWay 53 = .ok (.getfield 74, 3) := dk_180 (by decide +kernel)
theorem dX5_firstWay_56 : decode cX5_firstWay 56 = .ok (.getfield 112, 3) := dk_180 (by decide +kernel)
theorem dX5_firstWay_59 : decode cX5_firstWay 59 = .ok (.if_icmp .ge 33, 3) := dk_162 (by decide +kernel)
theorem dX5_firstWay_62 : decode cX5_firstWay 62 = .ok (.aload_n 0, 1) := dk_42 (by decide +kernel)
theorem dX5_firstWay_63 : decode cX5_firstWay 63 = .ok (.aload_n 3, 1) := dk_45 (by decide +kernel)
theorem dX5_firstWay_64 : decode cX5_firstWay 64 = .ok (.aload_n 0, 1) := dk_42 (by decide +kernel)
theorem dX5_firstWay_65 : decode cX5_firstWay 65 = .ok (.getfield 48, 3) := dk_180 (by decide +kernel)
theorem dX5_firstWay_68 : decode cX5_firstWay 68 = .ok (.iload 4, 2) := dk_21 (by decide +kernel)
theorem dX5_firstWay_70 : decode cX5_firstWay 70 = .ok (.aaload, 1) := dk_50 (by decide +kernel)
theorem dX5_firstWay_71 : decode cX5_firstWay 71 = .ok (.aload_n 0, 1) := dk_42 (by decide +kernel)
theorem dX5_firstWay_72 : decode cX5_firstWay 72 = .ok (.getfield 74, 3) := dk_180 (by decide +kernel)
theorem dX5_firstWay_75 : decode cX5_firstWay 75 = .ok (.iload_n 1, 1) := dk_27 (by decide +kernel)
theorem dX5_firstWay_76 : decode cX5_firstWay 76 = .ok (.iload_n 2, 1) := dk_28 (by decide +kernel)
theorem dX5_firstWay_77 : decode cX5_firstWay 77 = .ok (.iload 4, 2) := dk_21 (by decide +kernel)
theorem dX5_firstWay_79 : decode cX5_firstWay 79 = .ok (.invokevirtual 200, 3) := dk_182 (by decide +kernel)
theorem dX5_firstWay_82 : decode cX5_firstWay 82 = .ok (.i2l, 1) := dk_133 (by decide +kernel)
theorem dX5_firstWay_83 : decode cX5_firstWay 83 = .ok (.invokevirtual 211, 3) := dk_182 (by decide +kernel)
theorem dX5_firstWay_86 : decode cX5_firstWay 86 = .ok (.iinc 4 1, 3) := dk_132 (by decide +kernel)
theorem dX5_firstWay_89 : decode cX5_firstWay 89 = .ok (.goto (-39), 3) := dk_167 (by decide +kernel)
theorem dX5_firstWay_92 : decode cX5_firstWay 92 = .ok (.aload_n 0, 1) := dk_42 (by decide +kernel)
theorem dX5_firstWay_93 : decode cX5_firstWay 93 = .ok (.getfield 74, 3) := dk_180 (by decide +kernel)
theorem dX5_firstWay_96 : decode cX5_firstWay 96 = .ok (.iload_n 1, 1) := dk_27 (by decide +kernel)
theorem dX5_firstWay_97 : decode cX5_firstWay 97 = .ok (.iload_n 2, 1) := dk_28 (by decide +kernel)
theorem dX5_firstWay_98 : decode cX5_firstWay 98 = .ok (.invokevirtual 194, 3) := dk_182 (by decide +kernel)
theorem dX5_firstWay_101 : decode cX5_firstWay 101 = .ok (.istore 4, 2) := dk_54 (by decide +kernel)
theorem dX5_firstWay_103 : decode cX5_firstWay 103 = .ok (.aload_n 3, 1) := dk_45 (by decide +kernel)
theorem dX5_firstWay_104 : decode cX5_firstWay 104 = .ok (.invokevirtual 263, 3) := dk_182 (by decide +kernel)
theorem dX5_firstWay_107 : decode cX5_firstWay 107 = .ok (.istore 5, 2) := dk_54 (by decide +kernel)
theorem dX5_firstWay_109 : decode cX5_firstWay 109 = .ok (.iload 5, 2) := dk_21 (by decide +kernel)
theorem dX5_firstWay_111 : decode cX5_firstWay 111 = .ok (.ifCond .eq 24, 3) := dk_153 (by decide +kernel)
theorem dX5_firstWay_114 : decode cX5_firstWay 114 = .ok (.iload 5, 2) := dk_21 (by decide +kernel)
theorem dX5_firstWay_116 : decode cX5_firstWay 116 = .ok (.ifCond .ge 8, 3) := dk_156 (by decide +kernel)
theorem dX5_firstWay_119 : decode cX5_firstWay 119 = .ok (.iload 4, 2) := dk_21 (by decide +kernel)
theorem dX5_firstWay_121 : decode cX5_firstWay 121 = .ok (.ifCond .eq 14, 3) := dk_153 (by decide +kernel)
theorem dX5_firstWay_124 : decode cX5_firstWay 124 = .ok (.iload 5, 2) := dk_21 (by decide +kernel)
theorem dX5_firstWay_126 : decode cX5_firstWay 126 = .ok (.ifCond .le 11, 3) := dk_158 (by decide +kernel)
theorem dX5_firstWay_129 : decode cX5_firstWay 129 = .ok (.iload 4, 2) := dk_21 (by decide +kernel)
theorem dX5_firstWay_131 : decode cX5_firstWay 131 = .ok (.iconst 1, 1) := dk_4 (by decide +kernel)
theorem dX5_firstWay_132 : decode cX5_firstWay 132 = .ok (.if_icmp .ne 5, 3) := dk_160 (by decide +kernel)
theorem dX5_firstWay_135 : decode cX5_firstWay 135 = .ok (.iload_n 2, 1) := dk_28 (by decide +kernel)
theorem dX5_firstWay_136 : decode cX5_firstWay 136 = .ok (.ireturn, 1) := dk_172 (by decide +kernel)
theorem dX5_firstWay_137 : decode cX5_firstWay 137 = .ok (.iinc 2 1, 3) := dk_132 (by decide +kernel)
theorem dX5_firstWay_140 : decode cX5_firstWay 140 = .ok (.goto (-138), 3) := dk_167 (by decide +kernel)
theorem dX5_firstWay_143 : decode cX5_firstWay 143 = .ok (.iconst (-1), 1) := dk_2 (by decide +kernel)
theorem dX5_firstWay_144 : decode cX5_firstWay 144 = .ok (.ireturn, 1) := dk_172 (by decide +kernel)
def wsMX5_firstWay : List Cond := .code yX5_firstWay cX5_firstWay 6 (some .int) :: ([.fieldLink RX5 74 "OptimaWorks$Solver" "model" "LOptimaWorks$Model;", .fieldLink RX5 134 "OptimaWorks$Model" "ways" "[I", .fieldLink RX5 71 "OptimaWorks$Solver" "spare" "[LOptimaWorks$Whole;", .fieldLink RX5 58 "OptimaWorks$Solver" "answerUnder" "LOptimaWorks$Whole;", .fieldLink RX5 112 "OptimaWorks$Model" "variables" "I", .fieldLink RX5 48 "OptimaWorks$Solver" "answer" "[LOptimaWorks$Whole;"] ++ wsX10 ++ wsX50 ++ (wsV RX5 184 RX8 yX8_setLong wsMX8_setLong) ++ (wsV RX5 197 RX1 yX1_rightSide wsMX1_rightSide) ++ (wsV RX5 211 RX5 yX5_addTimes wsMX5_addTimes) ++ (wsV RX5 200 RX1 yX1_number wsMX1_number) ++ (wsV RX5 194 RX1 yX1_sign wsMX1_sign) ++ (wsV RX5 263 RX8 yX8_sign wsMX8_sign))
theorem iwsMX5_firstWay_in1 : ∀ w ∈ wsX10, w ∈ wsMX5_firstWay := fun _ h => List.mem_cons_of_mem _ (List.mem_append_left _ (List.mem_append_left _ (List.mem_append_left _ (List.mem_append_left _ (List.mem_append_left _ (List.mem_append_left _ (List.mem_append_left _ (List.mem_append_right _ h))))))))
theorem iwsMX5_firstWay_in5 : ∀ w ∈ wsX50, w ∈ wsMX5_firstWay := fun _ h => List.mem_cons_of_mem _ (List.mem_append_left _ (List.mem_append_left _ (List.mem_append_left _ (List.mem_append_left _ (List.mem_append_left _ (List.mem_append_left _ (List.mem_append_right _ h)))))))
theorem gwsMX5_firstWay_0 : GoodIn wsMX5_firstWay (wsV RX5 184 RX8 yX8_setLong wsMX8_setLong) := goodIn_sub (fun _ h => List.mem_cons_of_mem _ (List.mem_append_left _ (List.mem_append_left _ (List.mem_append_left _ (List.mem_append_left _ (List.mem_append_left _ (List.mem_append_right _ h))))))) (gdV (by decide +kernel) gdwsMX8_setLong)
theorem gwsMX5_firstWay_1 : GoodIn wsMX5_firstWay (wsV RX5 197 RX1 yX1_rightSide wsMX1_rightSide) := goodIn_sub (fun _ h => List.mem_cons_of_mem _ (List.mem_append_left _ (List.mem_append_left _ (List.mem_append_left _ (List.mem_append_left _ (List.mem_append_right _ h)))))) (gdV (by decide +kernel) gdwsMX1_rightSide)
theorem gwsMX5_firstWay_2 : GoodIn wsMX5_firstWay (wsV RX5 211 RX5 yX5_addTimes wsMX5_addTimes) := goodIn_sub (fun _ h => List.mem_cons_of_mem _ (List.mem_append_left _ (List.mem_append_left _ (List.mem_append_left _ (List.mem_append_right _ h))))) (gdV (by decide +kernel) gdwsMX5_addTimes)
theorem gwsMX5_firstWay_3 : GoodIn wsMX5_firstWay (wsV RX5 200 RX1 yX1_number wsMX1_number) := goodIn_sub (fun _ h => List.mem_cons_of_mem _ (List.mem_append_left _ (List.mem_append_left _ (List.mem_append_right _ h)))) (gdV (by decide +kernel) gdwsMX1_number)
theorem gwsMX5_firstWay_4 : GoodIn wsMX5_firstWay (wsV RX5 194 RX1 yX1_sign wsMX1_sign) := goodIn_sub (fun _ h => List.mem_cons_of_mem _ (List.mem_append_left _ (List.mem_append_right _ h))) (gdV (by decide +kernel) gdwsMX1_sign)
theorem gwsMX5_firstWay_5 : GoodIn wsMX5_firstWay (wsV RX5 263 RX8 yX8_sign wsMX8_sign) := goodIn_sub (fun _ h => List.mem_cons_of_mem _ (List.mem_append_right _ h)) (gdV (by decide +kernel) gdwsMX8_sign)
theorem gdwsMX5_firstWay : wsMX5_firstWay.all goodWord = true := gdC rfl (gdA (gdA (gdA (gdA (gdA (gdA (gdA (gdA (by decide +kernel : ([.fieldLink RX5 74 "OptimaWorks$Solver" "model" "LOptimaWorks$Model;", .fieldLink RX5 134 "OptimaWorks$Model" "ways" "[I", .fieldLink RX5 71 "OptimaWorks$Solver" "spare" "[LOptimaWorks$Whole;", .fieldLink RX5 58 "OptimaWorks$Solver" "answerUnder" "LOptimaWorks$Whole;", .fieldLink RX5 112 "OptimaWorks$Model" "variables" "I", .fieldLink RX5 48 "OptimaWorks$Solver" "answer" "[LOptimaWorks$Whole;"] : List Cond).all goodWord = true) gdwsX10) gdwsX50) (gdV (by decide +kernel) gdwsMX8_setLong)) (gdV (by decide +kernel) gdwsMX1_rightSide)) (gdV (by decide +kernel) gdwsMX5_addTimes)) (gdV (by decide +kernel) gdwsMX1_number)) (gdV (by decide +kernel) gdwsMX1_sign)) (gdV (by decide +kernel) gdwsMX8_sign))
theorem hm_m_X5_firstWay_0 : (.fieldLink RX5 74 "OptimaWorks$Solver" "model" "LOptimaWorks$Model;" : Cond) ∈ wsMX5_firstWay := by decide +kernel
set_option maxHeartbeats 4000000 in
set_option maxRecDepth 100000 in
/-- the first way that holds -/
theorem m_X5_firstWay (l : Launch) (dC : Nat → ClassId) (dI : Nat → Nat → Nat) (hO : Nat → Nat) (aO : Nat → Nat) (kO : Nat → ClassId) (hM : Nat → Nat) (hQ : Nat → Nat) (hw : Nat → Nat) (iO_answered : Int32) (iO_searched : Int32) (iO_searchedRelaxed : Int32) (iO_counted : Int32) (fO_countedCase : Nat → Int32) (gO_goalNumber : Nat → Int64) (gO_goalScale : Nat → Int64) (fO_start : Nat → Int32) (fO_column : Nat → Int32) (fO_chosen : Nat → Int32) (aM : Nat → Nat) (kM : Nat → ClassId) (iM_stands : Int32) (iM_variables : Int32) (iM_rows : Int32) (iM_goals : Int32) (iM_differents : Int32) (iM_cases : Int32) (fM_from : Nat → Int32) (fM_to : Nat → Int32) (fM_whole : Nat → Int32) (fM_ways : Nat → Int32) (iM_plainRows : Int32) (fM_plainRow : Nat → Int32) (fM_kept : Nat → Int32) (fM_goalOver : Nat → Int32) (fM_goalUnder : Nat → Int32) (fM_goalMax : Nat → Int32) (fM_different : Nat → Int32) (aQ : Nat → Nat) (kQ : Nat → ClassId) (fQ_inside : Nat → Int32) (fQ_outside : Nat → Int32) (fQ_shut : Nat → Int32) (iQ_rows : Int32) (iQ_allRows : Int32) (iQ_columns : Int32) (nW : Nat) (lw : Nat → Nat) (kw : ClassId) (wl : Nat → Int32) (wb : Nat → Int32) (wG : Nat → Nat → Int64) (p1 : Int32) (b_iO_answered : 0 ≤ iO_answered.toInt ∧ iO_answered.toInt ≤ 1) (b_iO_searched : 0 ≤ iO_searched.toInt ∧ iO_searched.toInt ≤ 1) (b_iO_searchedRelaxed : 0 ≤ iO_searchedRelaxed.toInt ∧ iO_searchedRelaxed.toInt ≤ 1) (b_iO_counted : (-1) ≤ iO_counted.toInt ∧ iO_counted.toInt ≤ 64) (b_fO_countedCase : ∀ q : Nat, 0 ≤ (fO_countedCase q).toInt ∧ (fO_countedCase q).toInt ≤ 200000) (b_fO_column : ∀ q : Nat, (-1) ≤ (fO_column q).toInt ∧ (fO_column q).toInt ≤ 8) (b_fO_chosen : ∀ q : Nat, 0 ≤ (fO_chosen q).toInt ∧ (fO_chosen q).toInt ≤ 2) (b_iM_stands : 0 ≤ iM_stands.toInt ∧ iM_stands.toInt ≤ 1) (b_iM_variables : 0 ≤ iM_variables.toInt ∧ iM_variables.toInt ≤ 8) (b_iM_rows : 0 ≤ iM_rows.toInt ∧ iM_rows.toInt ≤ 12) (b_iM_goals : 0 ≤ iM_goals.toInt ∧ iM_goals.toInt ≤ 3) (b_iM_differents : 0 ≤ iM_differents.toInt ∧ iM_differents.toInt ≤ 8) (b_iM_cases : 0 ≤ iM_cases.toInt ∧ iM_cases.toInt ≤ 200000) (b_fM_ways : ∀ q : Nat, 0 ≤ (fM_ways q).toInt ∧ (fM_ways q).toInt ≤ 3) (b_iM_plainRows : 0 ≤ iM_plainRows.toInt ∧ iM_plainRows.toInt ≤ 12) (b_fM_plainRow : ∀ q : Nat, 0 ≤ (fM_plainRow q).toInt ∧ (fM_plainRow q).toInt ≤ 11) (b_pr : iM_plainRows.toInt ≤ iM_rows.toInt) (b_iQ_rows : 0 ≤ iQ_rows.toInt ∧ iQ_rows.toInt ≤ 40) (b_iQ_allRows : 0 ≤ iQ_allRows.toInt ∧ iQ_allRows.toInt ≤ 40) (b_iQ_columns : 0 ≤ iQ_columns.toInt ∧ iQ_columns.toInt ≤ 40) (b_tb : TbO iQ_rows iQ_allRows iQ_columns) (b_wl : ∀ q : Nat, 0 ≤ (wl q).toInt ∧ (wl q).toInt ≤ 14) (b_wb : ∀ q : Nat, 0 ≤ (wb q).toInt ∧ (wb q).toInt ≤ 1) (b_p1 : 0 ≤ p1.toInt ∧ p1.toInt ≤ 11) (hnW : 432 ≤ nW) (sz : Nat) : Met l yX5_firstWay wsMX5_firstWay ({ frames := 4, cells := 0, slots := 0, locals := 85 }) (va_Pc [.ref (hO 0), .int p1] (fun U => U.heap.size = sz ∧ va_P (dC, dI) vwCl (WO hO aO kO hM hQ hw iO_answered iO_searched iO_searchedRelaxed iO_counted fO_countedCase gO_goalNumber gO_goalScale fO_start fO_column fO_chosen ++ (WM hM aM kM iM_stands iM_variables iM_rows iM_goals iM_differents iM_cases fM_from fM_to fM_whole fM_ways iM_plainRows fM_plainRow fM_kept fM_goalOver fM_goalUnder fM_goalMax fM_different ++ (WQ hQ aQ kQ hw fQ_inside fQ_outside fQ_shut iQ_rows iQ_allRows iQ_columns ++ (WW nW hw lw kw wl wb wG)))) U.heap ∧ va_K (dC, dI) vwCl (tO kO ++ (tM kM ++ (tQ kQ ++ (tW kw)))) U ∧ va_D (fun _ => True) (WO hO aO kO hM hQ hw iO_answered iO_searched iO_searchedRelaxed iO_counted fO_countedCase gO_goalNumber gO_goalScale fO_start fO_column fO_chosen ++ (WM hM aM kM iM_stands iM_variables iM_rows iM_goals iM_differents iM_cases fM_from fM_to fM_whole fM_ways iM_plainRows fM_plainRow fM_kept fM_goalOver fM_goalUnder fM_goalMax fM_different ++ (WQ hQ aQ kQ hw fQ_inside fQ_outside fQ_shut iQ_rows iQ_allRows iQ_columns ++ (WW nW hw lw kw wl wb wG)))))) (va_Qi (fun (r : Int32) (u : (Nat → Int32) × (Nat → Int32) × (Nat → Nat → Int64)) => (∀ q : Nat, 0 ≤ ((u.1) q).toInt ∧ ((u.1) q).toInt ≤ 14) ∧ (∀ q : Nat, 0 ≤ ((u.2.1) q).toInt ∧ ((u.2.1) q).toInt ≤ 1) ∧ ((-1) ≤ r.toInt ∧ r.toInt ≤ 2)) (fun (u : (Nat → Int32) × (Nat → Int32) × (Nat → Nat → Int64)) t => va_P (dC, dI) vwCl (WO hO aO kO hM hQ hw iO_answered iO_searched iO_searchedRelaxed iO_counted fO_countedCase gO_goalNumber gO_goalScale fO_start fO_column fO_chosen ++ (WM hM aM kM iM_stands iM_variables iM_rows iM_goals iM_differents iM_cases fM_from fM_to fM_whole fM_ways iM_plainRows fM_plainRow fM_kept fM_goalOver fM_goalUnder fM_goalMax fM_different ++ (WQ hQ aQ kQ hw fQ_inside fQ_outside fQ_shut iQ_rows iQ_allRows iQ_columns ++ (WW nW hw lw kw (u.1) (u.2.1) (u.2.2))))) t.heap ∧ va_D (va_A (WO hO aO kO hM hQ hw iO_answered iO_searched iO_searchedRelaxed iO_counted fO_countedCase gO_goalNumber gO_goalScale fO_start fO_column fO_chosen ++ (WM hM aM kM iM_stands iM_variables iM_rows iM_goals iM_differents iM_cases fM_from fM_to fM_whole fM_ways iM_plainRows fM_plainRow fM_kept fM_goalOver fM_goalUnder fM_goalMax fM_different ++ (WQ hQ aQ kQ hw fQ_inside fQ_outside fQ_shut iQ_rows iQ_allRows iQ_columns ++ (WW nW hw lw kw wl wb wG)))) sz) (WO hO aO kO hM hQ hw iO_answered iO_searched iO_searchedRelaxed iO_counted fO_countedCase gO_goalNumber gO_goalScale fO_start fO_column fO_chosen ++ (WM hM aM kM iM_stands iM_variables iM_rows iM_goals iM_differents iM_cases fM_from fM_to fM_whole fM_ways iM_plainRows fM_plainRow fM_kept fM_goalOver fM_goalUnder fM_goalMax fM_different ++ (WQ hQ aQ kQ hw fQ_inside fQ_outside fQ_shut iQ_rows iQ_allRows iQ_columns ++ (WW nW hw lw kw (u.1) (u.2.1) (u.2.2)))))) (va_A (WO hO aO kO hM hQ hw iO_answered iO_searched iO_searchedRelaxed iO_counted fO_countedCase gO_goalNumber gO_goalScale fO_start fO_column fO_chosen ++ (WM hM aM kM iM_stands iM_variables iM_rows iM_goals iM_differents iM_cases fM_from fM_to fM_whole fM_ways iM_plainRows fM_plainRow fM_kept fM_goalOver fM_goalUnder fM_goalMax fM_different ++ (WQ hQ aQ kQ hw fQ_inside fQ_outside fQ_shut iQ_rows iQ_allRows iQ_columns ++ (WW nW hw lw kw wl wb wG)))) sz)) 0 0 (va_A (WO hO aO kO hM hQ hw iO_answered iO_searched iO_searchedRelaxed iO_counted fO_countedCase gO_goalNumber gO_goalScale fO_start fO_column fO_chosen ++ (WM hM aM kM iM_stands iM_variables iM_rows iM_goals iM_differents iM_cases fM_from fM_to fM_whole fM_ways iM_plainRows fM_plainRow fM_kept fM_goalOver fM_goalUnder fM_goalMax fM_different ++ (WQ hQ aQ kQ hw fQ_inside fQ_outside fQ_shut iQ_rows iQ_allRows iQ_columns ++ (WW nW hw lw kw wl wb wG)))) sz) := by
  refine Met.ofW (cc := cX5_firstWay) (maxL := 6) (ret := (some .int)) (by decide) rfl ?_
  intro p e s m args below meth c s₁ B hml hv
  obtain ⟨rfl, hsz, hP, hK, hD0⟩ := hv
  have hx := B.exec
  have hb := B.bytes
  have hr := B.returns
  have hts := atoms_spec (ws := wsMX5_firstWay) B.pre
  have hown : s.vm.findClass RX5 = some m.cls := findClass_of_methodNamed B.named
  have hlocks := B.notSynchronized
  subst hsz
  have hD := hD0.self (sz := s.heap.size)
  generalize hAe : va_A (WO hO aO kO hM hQ hw iO_answered iO_searched iO_searchedRelaxed iO_counted fO_countedCase gO_goalNumber gO_goalScale fO_start fO_column fO_chosen ++ (WM hM aM kM iM_stands iM_variables iM_rows iM_goals iM_differents iM_cases fM_from fM_to fM_whole fM_ways iM_plainRows fM_plainRow fM_kept fM_goalOver fM_goalUnder fM_goalMax fM_different ++ (WQ hQ aQ kQ hw fQ_inside fQ_outside fQ_shut iQ_rows iQ_allRows iQ_columns ++ (WW nW hw lw kw wl wb wG)))) s.heap.size = A at hD ⊢
  have hA : ∀ q : Nat, s.heap.size ≤ q → A q := fun q h => by rw [← hAe]; exact Or.inr h
  have hS : va_S A s.heap s.heap [] := va_S.rf
  have hl := lv_entry ([.ref (hO 0), .int p1]) (n := 6) (Nat.le_of_ble_eq_true rfl)
  rw [lg_entry_eq]
  generalize (lg_sl ([.ref (hO 0), .int p1]) ++ List.replicate (6 - (lg_sl ([.ref (hO 0), .int p1])).length) Slot.unset).toArray = ls at hl ⊢
  have hl : lv_has ls 6 [(0, .ref (hO 0)), (1, .int p1)] := hl
  refine lv_iconst (v := 0) hx hb dX5_firstWay_0 (by decide) ?_
  refine lv_istore_n hx hb dX5_firstWay_1 rfl hl (by decide) rfl (fun ls (hl : lv_has ls _ ([(2, .int 0), (0, .ref (hO 0)), (1, .int p1)])) => ?_)
  have hl : lv_has _ _ ([(2, .int 0), (0, .ref (hO 0)), (1, .int p1)]) := lv_sub hl [0, 1, 2] rfl
  refine (fun (loop : ∀ (n9 : Nat) (wl_x2 : Nat → Int32) (wb_x2 : Nat → Int32) (wG_x2 : Nat → Nat → Int64) (l2_x2 : Int32) (H : Heap) (locs : List Loc) (ls : Array Slot), (∀ q : Nat, 0 ≤ (wl_x2 q).toInt ∧ (wl_x2 q).toInt ≤ 14) → (∀ q : Nat, 0 ≤ (wb_x2 q).toInt ∧ (wb_x2 q).toInt ≤ 1) → (0 ≤ l2_x2.toInt ∧ l2_x2.toInt ≤ 3) → (3 - l2_x2.toInt < ((n9 : Nat) : Int)) → va_P (dC, dI) vwCl (WO hO aO kO hM hQ hw iO_answered iO_searched iO_searchedRelaxed iO_counted fO_countedCase gO_goalNumber gO_goalScale fO_start fO_column fO_chosen ++ (WM hM aM kM iM_stands iM_variables iM_rows iM_goals iM_differents iM_cases fM_from fM_to fM_whole fM_ways iM_plainRows fM_plainRow fM_kept fM_goalOver fM_goalUnder fM_goalMax fM_different ++ (WQ hQ aQ kQ hw fQ_inside fQ_outside fQ_shut iQ_rows iQ_allRows iQ_columns ++ (WW nW hw lw kw wl_x2 wb_x2 wG_x2)))) H → va_D A (WO hO aO kO hM hQ hw iO_answered iO_searched iO_searchedRelaxed iO_counted fO_countedCase gO_goalNumber gO_goalScale fO_start fO_column fO_chosen ++ (WM hM aM kM iM_stands iM_variables iM_rows iM_goals iM_differents iM_cases fM_from fM_to fM_whole fM_ways iM_plainRows fM_plainRow fM_kept fM_goalOver fM_goalUnder fM_goalMax fM_different ++ (WQ hQ aQ kQ hw fQ_inside fQ_outside fQ_shut iQ_rows iQ_allRows iQ_columns ++ (WW nW hw lw kw wl_x2 wb_x2 wG_x2)))) → va_S A s.heap H locs → lv_has ls 6 [(2, .int l2_x2), (0, .ref (hO 0)), (1, .int p1)] → W p l e _ s m _ below meth c H locs 0 0 _ (F0 m 2 ls [])) => loop (4) wl wb wG 0 _ _ _ b_wl b_wb (show 0 ≤ (0 : Int32).toInt ∧ (0 : Int32).toInt ≤ 3 from by decide) ((by have e9 : (0 : Int32).toInt = 0 := (by decide : (0 : Int32).toInt = 0); omega)) hP hD hS hl) ?_
  intro n9
  induction n9 with
  | zero => intro wl_x2 wb_x2 wG_x2 l2_x2 H locs ls b_wl_x2 b_wb_x2 b_l2_x2 hf9; exact False.elim (by omega)
  | succ n9 ihx2 =>
    intro wl_x2 wb_x2 wG_x2 l2_x2 H locs ls b_wl_x2 b_wb_x2 b_l2_x2 hfx2 hP hD hS hl
    refine lv_iload_n hx hb dX5_firstWay_2 rfl (lv_at hl 0 rfl) ?_
    refine lv_aload_n hx hb dX5_firstWay_3 rfl (lv_at hl 1 rfl) ?_
    refine va_get (D := (dC, dI)) (ci := 5) (v := .ref (hM 0)) (C := RX5) (T := TX5) (N := 19) hx hb hts iwsMX5_firstWay_in5 hown hK hP 0 rfl rfl 0 (by decide) (hts _ hm_m_X5_firstWay_0) (fun _ h9 => h9) rfl dX5_firstWay_4 ?_
    refine va_get (D := (dC, dI)) (ci := 1) (v := .ref (aM 3)) (C := RX1) (T := TX1) (N := 17) hx hb hts iwsMX5_firstWay_in1 hown hK hP 11 rfl rfl 9 (by decide) (hts (.fieldLink RX5 134 "OptimaWorks$Model" "ways" "[I") (by decide +kernel)) (fun _ h9 => h9) rfl dX5_firstWay_7 ?_
    refine lv_iload_n hx hb dX5_firstWay_10 rfl (lv_at hl 2 rfl) ?_
    refine va_iald (cA := kM 3) (n := 12) (f := fM_ways) hx hb hK hP 15 13 rfl rfl (vp_in_iff.mpr ⟨b_p1.1, (Int.lt_of_le_of_lt (b_p1.2) (by decide))⟩) dX5_firstWay_11 ?_
    refine lv_topi (fun v75 hv75 => ?_)
    have b_v75 : 0 ≤ v75.toInt ∧ v75.toInt ≤ 3 := by rw [hv75]; exact b_fM_ways _
    clear hv75
    refine lv_icmp_ge (tgt := 143) hx hb dX5_firstWay_12 (by decide) (fun c_12 => ?_) (fun c_12 => ?_)
    · have t_12 : l2_x2.toInt ≥ v75.toInt := toI_ge c_12 rfl rfl
      refine lv_iconst (v := (-1)) hx hb dX5_firstWay_143 (by decide) ?_
      refine W.widen (k := 0) (n := 0) (by decide +kernel) (by decide +kernel) ?_
      exact W.iret (v := (-1)) hx hb hr (fun t9_ ht hW => ⟨⟨((-1) : Int32), (wl_x2, wb_x2, wG_x2), rfl, ⟨b_wl_x2, b_wb_x2, (show (-1) ≤ ((-1) : Int32).toInt ∧ ((-1) : Int32).toInt ≤ 2 from by decide)⟩, by rw [ht]; exact hP, hD⟩, hS.F ht⟩) hS.2.2 dX5_firstWay_144
    · have t_12 : ¬ l2_x2.toInt ≥ v75.toInt := toI_nge c_12 rfl rfl
      refine lv_aload_n hx hb dX5_firstWay_15 rfl (lv_at hl 1 rfl) ?_
      refine va_get (D := (dC, dI)) (ci := 5) (v := .ref (aO 9)) (C := RX5) (T := TX5) (N := 19) hx hb hts iwsMX5_firstWay_in5 hown hK hP 0 rfl rfl 18 (by decide) (hts (.fieldLink RX5 71 "OptimaWorks$Solver" "spare" "[LOptimaWorks$Whole;") (by decide +kernel)) (fun _ h9 => h9) rfl dX5_firstWay_16 ?_
      refine lv_iconst (v := 1) hx hb dX5_firstWay_19 (by decide) ?_
      refine va_aldq (cA := kO 9) (n := 4) (f := fun q => some (hw (428 + q))) hx hb hK hP 10 9 rfl rfl (show ¬ ((1 : Int32) < 0 ∨ 4 ≤ (1 : Int32).toNatClampNeg) by decide) dX5_firstWay_20 ?_
      obtain ⟨k76, hk76, b_k76⟩ : ∃ k9 : Nat, k9 = 428 + (1 : Int32).toNatClampNeg ∧ (428 ≤ k9 ∧ k9 < 432 ∧ (k9 : Int) = 428 + 1) := ⟨_, rfl, ald_k (x := (1 : Int32)) (o := 428) (n := 4) (by decide : (1 : Int32).toInt = 1) (by omega) (by omega)⟩
      refine W.eq (g2 := F0 m 21 ls [.ref (hw k76)]) (by rw [hk76]; rfl) ?_
      clear hk76
      refine lv_astore_n hx hb dX5_firstWay_21 rfl hl (by decide) rfl (fun ls (hl : lv_has ls _ ([(3, .ref (hw k76)), (2, .int l2_x2), (0, .ref (hO 0)), (1, .int p1)])) => ?_)
      refine lv_aload_n hx hb dX5_firstWay_22 rfl (lv_at hl 0 rfl) ?_
      refine lv_lconst (v := 0) hx hb dX5_firstWay_23 (by decide) ?_
      have p9 := cj_4_3 (WO hO aO kO hM hQ hw iO_answered iO_searched iO_searchedRelaxed iO_counted fO_countedCase gO_goalNumber gO_goalScale fO_start fO_column fO_chosen) (WM hM aM kM iM_stands iM_variables iM_rows iM_goals iM_differents iM_cases fM_from fM_to fM_whole fM_ways iM_plainRows fM_plainRow fM_kept fM_goalOver fM_goalUnder fM_goalMax fM_different) (WQ hQ aQ kQ hw fQ_inside fQ_outside fQ_shut iQ_rows iQ_allRows iQ_columns) (WW nW hw lw kw wl_x2 wb_x2 wG_x2)
      have hPc := hP.mem (fun q h => p9.mem_iff.mpr (List.mem_append_left _ h))
      have hDc := (hD.perm p9).left
      have hKc : va_K (dC, dI) vwCl (tW kw) _ := hK.sub [24] rfl
      have hFc := freeG p9 hD hS hA
      refine va_callv (va_runV (As := [.long 0]) (rest := []) ⟨hx, hb, hml, hown, hts⟩ (m_X8_setLong l dC dI nW hw lw kw wl_x2 wb_x2 wG_x2 k76 0 b_wl_x2 b_wb_x2 (by first | with_reducible assumption | omega | (rw [iI_t (by omega) (by omega)]; omega) | decide | assumption) H.size) (cwV 1 hts gwsMX5_firstWay_0 rfl rfl rfl hd_yX8_setLong_RX8 (by decide +kernel)) (fz_pre (va_recv hK hP (ci := 8) (q0 := 11 + (11 + (5 + (k76)))) rfl (apR rfl (apR rfl (apR rfl (WW_o (by omega)))))) hPc hKc hDc) rfl rfl hl.1 rfl (lv_room (Nat.le_of_ble_eq_true rfl)) dX5_firstWay_24 (by decide +kernel)) hS (fun q _ h => hFc q h) hFc (fun u t9_ H locs ht hvm hw9 hB9 hz1 hk1 hS => ?_)
      revert u hw9 hB9
      refine fz_p3 ?_
      intro wl_77 wb_77 wG_77 hw9 hB9
      try dsimp only at hw9 hB9
      revert hw9
      refine fz_a2 ?_
      intro b_wl_77 b_wb_77
      have p8 := cj_4_3 (WO hO aO kO hM hQ hw iO_answered iO_searched iO_searchedRelaxed iO_counted fO_countedCase gO_goalNumber gO_goalScale fO_start fO_column fO_chosen) (WM hM aM kM iM_stands iM_variables iM_rows iM_goals iM_differents iM_cases fM_from fM_to fM_whole fM_ways iM_plainRows fM_plainRow fM_kept fM_goalOver fM_goalUnder fM_goalMax fM_different) (WQ hQ aQ kQ hw fQ_inside fQ_outside fQ_shut iQ_rows iQ_allRows iQ_columns) (WW nW hw lw kw wl_77 wb_77 wG_77)
      obtain ⟨hP, hD⟩ := frameG p9 p8 hP hD hk1 hFc (fz_P ht hB9.1) hB9.2
      refine lv_aload_n hx hb dX5_firstWay_27 rfl (lv_at hl 2 rfl) ?_
      refine lv_aload_n hx hb dX5_firstWay_28 rfl (lv_at hl 0 rfl) ?_
      refine lv_aload_n hx hb dX5_firstWay_29 rfl (lv_at hl 2 rfl) ?_
      refine va_get (D := (dC, dI)) (ci := 5) (v := .ref (hw 417)) (C := RX5) (T := TX5) (N := 19) hx hb hts iwsMX5_firstWay_in5 hown hK hP 0 rfl rfl 14 (by decide) (hts (.fieldLink RX5 58 "OptimaWorks$Solver" "answerUnder" "LOptimaWorks$Whole;") (by decide +kernel)) (fun _ h9 => h9) rfl dX5_firstWay_30 ?_
      refine lv_aload_n hx hb dX5_firstWay_33 rfl (lv_at hl 2 rfl) ?_
      refine va_get (D := (dC, dI)) (ci := 5) (v := .ref (hM 0)) (C := RX5) (T := TX5) (N := 19) hx hb hts iwsMX5_firstWay_in5 hown hK hP 0 rfl rfl 0 (by decide) (hts _ hm_m_X5_firstWay_0) (fun _ h9 => h9) rfl dX5_firstWay_34 ?_
      refine lv_iload_n hx hb dX5_firstWay_37 rfl (lv_at hl 3 rfl) ?_
      refine lv_iload_n hx hb dX5_firstWay_38 rfl (lv_at hl 1 rfl) ?_
      have p9 := cj_4_1 (WO hO aO kO hM hQ hw iO_answered iO_searched iO_searchedRelaxed iO_counted fO_countedCase gO_goalNumber gO_goalScale fO_start fO_column fO_chosen) (WM hM aM kM iM_stands iM_variables iM_rows iM_goals iM_differents iM_cases fM_from fM_to fM_whole fM_ways iM_plainRows fM_plainRow fM_kept fM_goalOver fM_goalUnder fM_goalMax fM_different) (WQ hQ aQ kQ hw fQ_inside fQ_outside fQ_shut iQ_rows iQ_allRows iQ_columns) (WW nW hw lw kw wl_77 wb_77 wG_77)
      have hPc := hP.mem (fun q h => p9.mem_iff.mpr (List.mem_append_left _ h))
      have hDc := (hD.perm p9).left
      have hKc : va_K (dC, dI) vwCl (tM kM) _ := hK.sub [10, 11, 12, 13, 14, 15, 16, 17, 18, 19] rfl
      have hFc := freeG p9 hD hS hA
      refine va_calli (va_runV (As := [.int p1, .int l2_x2]) (rest := [.ref (hw 417), .ref (hw k76), .ref (hO 0)]) ⟨hx, hb, hml, hown, hts⟩ (m_X1_rightSide l dC dI hM aM kM iM_stands iM_variables iM_rows iM_goals iM_differents iM_cases fM_from fM_to fM_whole fM_ways iM_plainRows fM_plainRow fM_kept fM_goalOver fM_goalUnder fM_goalMax fM_different p1 l2_x2 (b_iM_stands) (b_iM_variables) (b_iM_rows) (b_iM_goals) (b_iM_differents) (b_iM_cases) b_fM_ways (b_iM_plainRows) b_fM_plainRow (by first | with_reducible assumption | omega | assumption) (b_p1) (by first | exact b_l2_x2 | with_reducible assumption | exact ⟨by omega, by omega⟩ | assumption) H.size) (cwV 2 hts gwsMX5_firstWay_1 rfl rfl rfl hd_yX1_rightSide_RX1 (by decide +kernel)) (fz_pre (va_recv hK hP (ci := 1) (q0 := 11) rfl rfl) hPc hKc hDc) rfl rfl hl.1 rfl (lv_room (Nat.le_of_ble_eq_true rfl)) dX5_firstWay_39 (by decide +kernel)) hS (fun q _ h => hFc q h) hFc (fun r78 u t9_ H locs ht hvm hw9 hB9 hz1 hk1 hS => ?_)
      clear hw9
      have p8 := p9
      obtain ⟨hP, hD⟩ := frameG p9 p8 hP hD hk1 hFc (fz_P ht hB9.1) hB9.2
      refine lv_ineg hx hb dX5_firstWay_42 ?_
      refine lv_topi (fun y79 hy79 => ?_)
      obtain rfl : (iI (-r78.toInt)) = y79 := (hy79.trans (iI_neg2 (iI_of _))).symm
      refine lv_i2l hx hb dX5_firstWay_43 rfl ?_
      refine lv_topl (fun v80 hv80 => ?_)
      clear hv80
      have hFc := allFree hD hS hA
      refine va_callv (va_runV (As := [.ref (hw k76), .ref (hw 417), .long v80]) (rest := []) ⟨hx, hb, hml, hown, hts⟩ (m_X5_addTimes l dC dI hO aO kO hM hQ hw iO_answered iO_searched iO_searchedRelaxed iO_counted fO_countedCase gO_goalNumber gO_goalScale fO_start fO_column fO_chosen aM kM iM_stands iM_variables iM_rows iM_goals iM_differents iM_cases fM_from fM_to fM_whole fM_ways iM_plainRows fM_plainRow fM_kept fM_goalOver fM_goalUnder fM_goalMax fM_different aQ kQ fQ_inside fQ_outside fQ_shut iQ_rows iQ_allRows iQ_columns nW lw kw wl_77 wb_77 wG_77 k76 417 v80 (b_iO_answered) (b_iO_searched) (b_iO_searchedRelaxed) (b_iO_counted) b_fO_countedCase b_fO_column b_fO_chosen (b_iM_stands) (b_iM_variables) (b_iM_rows) (b_iM_goals) (b_iM_differents) (b_iM_cases) b_fM_ways (b_iM_plainRows) b_fM_plainRow (by first | with_reducible assumption | omega | assumption) (b_iQ_rows) (b_iQ_allRows) (b_iQ_columns) (by first | with_reducible assumption | omega | assumption) b_wl_77 b_wb_77 (by omega) (by first | with_reducible assumption | omega | (rw [iI_t (by omega) (by omega)]; omega) | decide | assumption) (by first | with_reducible assumption | omega | (rw [iI_t (by omega) (by omega)]; omega) | decide | assumption) H.size) (cwV 3 hts gwsMX5_firstWay_2 rfl rfl rfl hd_yX5_addTimes_RX5 (by decide +kernel)) (fz_pre (va_recv hK hP (ci := 5) (q0 := 0) rfl rfl) hP hK hD) rfl rfl hl.1 rfl (lv_room (Nat.le_of_ble_eq_true rfl)) dX5_firstWay_44 (by decide +kernel)) hS (fun q _ h => hFc q h) hFc (fun u t9_ H locs ht hvm hw9 hB9 hz1 hk1 hS => ?_)
      revert u hw9 hB9
      refine fz_p3 ?_
      intro wl_81 wb_81 wG_81 hw9 hB9
      try dsimp only at hw9 hB9
      revert hw9
      refine fz_a2 ?_
      intro b_wl_81 b_wb_81
      have hP : va_P (dC, dI) vwCl (WO hO aO kO hM hQ hw iO_answered iO_searched iO_searchedRelaxed iO_counted fO_countedCase gO_goalNumber gO_goalScale fO_start fO_column fO_chosen ++ (WM hM aM kM iM_stands iM_variables iM_rows iM_goals iM_differents iM_cases fM_from fM_to fM_whole fM_ways iM_plainRows fM_plainRow fM_kept fM_goalOver fM_goalUnder fM_goalMax fM_different ++ (WQ hQ aQ kQ hw fQ_inside fQ_outside fQ_shut iQ_rows iQ_allRows iQ_columns ++ (WW nW hw lw kw wl_81 wb_81 wG_81)))) H := fz_P ht hB9.1
      have hD := fz_sd hP (hB9.2.weaken (fun _ q _ h => hFc q.1 h)) rfl
      refine lv_iconst (v := 0) hx hb dX5_firstWay_47 (by decide) ?_
      refine lv_istore hx hb dX5_firstWay_48 hl (by decide) rfl (fun ls (hl : lv_has ls _ ([(4, .int 0), (3, .ref (hw k76)), (2, .int l2_x2), (0, .ref (hO 0)), (1, .int p1)])) => ?_)
      have hl : lv_has _ _ ([(4, .int 0), (3, .ref (hw k76)), (2, .int l2_x2), (0, .ref (hO 0)), (1, .int p1)]) := lv_sub hl [0, 1, 2, 3, 4] rfl
      refine (fun (loop : ∀ (n9 : Nat) (wl_x50 : Nat → Int32) (wb_x50 : Nat → Int32) (wG_x50 : Nat → Nat → Int64) (l4_x50 : Int32) (H : Heap) (locs : List Loc) (ls : Array Slot), (∀ q : Nat, 0 ≤ (wl_x50 q).toInt ∧ (wl_x50 q).toInt ≤ 14) → (∀ q : Nat, 0 ≤ (wb_x50 q).toInt ∧ (wb_x50 q).toInt ≤ 1) → (0 ≤ l4_x50.toInt ∧ l4_x50.toInt ≤ 8) → (8 - l4_x50.toInt < ((n9 : Nat) : Int)) → va_P (dC, dI) vwCl (WO hO aO kO hM hQ hw iO_answered iO_searched iO_searchedRelaxed iO_counted fO_countedCase gO_goalNumber gO_goalScale fO_start fO_column fO_chosen ++ (WM hM aM kM iM_stands iM_variables iM_rows iM_goals iM_differents iM_cases fM_from fM_to fM_whole fM_ways iM_plainRows fM_plainRow fM_kept fM_goalOver fM_goalUnder fM_goalMax fM_different ++ (WQ hQ aQ kQ hw fQ_inside fQ_outside fQ_shut iQ_rows iQ_allRows iQ_columns ++ (WW nW hw lw kw wl_x50 wb_x50 wG_x50)))) H → va_D A (WO hO aO kO hM hQ hw iO_answered iO_searched iO_searchedRelaxed iO_counted fO_countedCase gO_goalNumber gO_goalScale fO_start fO_column fO_chosen ++ (WM hM aM kM iM_stands iM_variables iM_rows iM_goals iM_differents iM_cases fM_from fM_to fM_whole fM_ways iM_plainRows fM_plainRow fM_kept fM_goalOver fM_goalUnder fM_goalMax fM_different ++ (WQ hQ aQ kQ hw fQ_inside fQ_outside fQ_shut iQ_rows iQ_allRows iQ_columns ++ (WW nW hw lw kw wl_x50 wb_x50 wG_x50)))) → va_S A s.heap H locs → lv_has ls 6 [(4, .int l4_x50), (3, .ref (hw k76)), (2, .int l2_x2), (0, .ref (hO 0)), (1, .int p1)] → W p l e _ s m _ below meth c H locs 0 0 _ (F0 m 50 ls [])) => loop (9) wl_81 wb_81 wG_81 0 _ _ _ b_wl_81 b_wb_81 (show 0 ≤ (0 : Int32).toInt ∧ (0 : Int32).toInt ≤ 8 from by decide) ((by have e9 : (0 : Int32).toInt = 0 := (by decide : (0 : Int32).toInt = 0); omega)) hP hD hS hl) ?_
      intro n9
      induction n9 with
      | zero => intro wl_x50 wb_x50 wG_x50 l4_x50 H locs ls b_wl_x50 b_wb_x50 b_l4_x50 hf9; exact False.elim (by omega)
      | succ n9 ihx50 =>
        intro wl_x50 wb_x50 wG_x50 l4_x50 H locs ls b_wl_x50 b_wb_x50 b_l4_x50 hfx50 hP hD hS hl
        refine lv_iload hx hb dX5_firstWay_50 (lv_at hl 0 rfl) ?_
        refine lv_aload_n hx hb dX5_firstWay_52 rfl (lv_at hl 3 rfl) ?_
        refine va_get (D := (dC, dI)) (ci := 5) (v := .ref (hM 0)) (C := RX5) (T := TX5) (N := 19) hx hb hts iwsMX5_firstWay_in5 hown hK hP 0 rfl rfl 0 (by decide) (hts _ hm_m_X5_firstWay_0) (fun _ h9 => h9) rfl dX5_firstWay_53 ?_
        refine va_get (D := (dC, dI)) (ci := 1) (v := .int iM_variables) (C := RX1) (T := TX1) (N := 17) hx hb hts iwsMX5_firstWay_in1 hown hK hP 11 rfl rfl 1 (by decide) (hts (.fieldLink RX5 112 "OptimaWorks$Model" "variables" "I") (by decide +kernel)) (fun _ h9 => h9) rfl dX5_firstWay_56 ?_
        refine lv_icmp_ge (tgt := 92) hx hb dX5_firstWay_59 (by decide) (fun c_59 => ?_) (fun c_59 => ?_)
        · have t_59 : l4_x50.toInt ≥ iM_variables.toInt := toI_ge c_59 rfl rfl
          refine lv_aload_n hx hb dX5_firstWay_92 rfl (lv_at hl 3 rfl) ?_
          refine va_get (D := (dC, dI)) (ci := 5) (v := .ref (hM 0)) (C := RX5) (T := TX5) (N := 19) hx hb hts iwsMX5_firstWay_in5 hown hK hP 0 rfl rfl 0 (by decide) (hts _ hm_m_X5_firstWay_0) (fun _ h9 => h9) rfl dX5_firstWay_93 ?_
          refine lv_iload_n hx hb dX5_firstWay_96 rfl (lv_at hl 4 rfl) ?_
          refine lv_iload_n hx hb dX5_firstWay_97 rfl (lv_at hl 2 rfl) ?_
          have p9 := cj_4_1 (WO hO aO kO hM hQ hw iO_answered iO_searched iO_searchedRelaxed iO_counted fO_countedCase gO_goalNumber gO_goalScale fO_start fO_column fO_chosen) (WM hM aM kM iM_stands iM_variables iM_rows iM_goals iM_differents iM_cases fM_from fM_to fM_whole fM_ways iM_plainRows fM_plainRow fM_kept fM_goalOver fM_goalUnder fM_goalMax fM_different) (WQ hQ aQ kQ hw fQ_inside fQ_outside fQ_shut iQ_rows iQ_allRows iQ_columns) (WW nW hw lw kw wl_x50 wb_x50 wG_x50)
          have hPc := hP.mem (fun q h => p9.mem_iff.mpr (List.mem_append_left _ h))
          have hDc := (hD.perm p9).left
          have hKc : va_K (dC, dI) vwCl (tM kM) _ := hK.sub [10, 11, 12, 13, 14, 15, 16, 17, 18, 19] rfl
          have hFc := freeG p9 hD hS hA
          refine va_calli (va_runV (As := [.int p1, .int l2_x2]) (rest := []) ⟨hx, hb, hml, hown, hts⟩ (m_X1_sign l dC dI hM aM kM iM_stands iM_variables iM_rows iM_goals iM_differents iM_cases fM_from fM_to fM_whole fM_ways iM_plainRows fM_plainRow fM_kept fM_goalOver fM_goalUnder fM_goalMax fM_different p1 l2_x2 (b_iM_stands) (b_iM_variables) (b_iM_rows) (b_iM_goals) (b_iM_differents) (b_iM_cases) b_fM_ways (b_iM_plainRows) b_fM_plainRow (by first | with_reducible assumption | omega | assumption) (b_p1) (by first | exact b_l2_x2 | with_reducible assumption | exact ⟨by omega, by omega⟩ | assumption) H.size) (cwV 2 hts gwsMX5_firstWay_4 rfl rfl rfl hd_yX1_sign_RX1 (by decide +kernel)) (fz_pre (va_recv hK hP (ci := 1) (q0 := 11) rfl rfl) hPc hKc hDc) rfl rfl hl.1 rfl (lv_room (Nat.le_of_ble_eq_true rfl)) dX5_firstWay_98 (by decide +kernel)) hS (fun q _ h => hFc q h) hFc (fun r106 u t9_ H locs ht hvm hw9 hB9 hz1 hk1 hS => ?_)
          clear hw9
          have p8 := p9
          obtain ⟨hP, hD⟩ := frameG p9 p8 hP hD hk1 hFc (fz_P ht hB9.1) hB9.2
          refine lv_istore hx hb dX5_firstWay_101 hl (by decide) rfl (fun ls (hl : lv_has ls _ ([(4, .int r106), (3, .ref (hw k76)), (2, .int l2_x2), (0, .ref (hO 0)), (1, .int p1)])) => ?_)
          refine lv_aload_n hx hb dX5_firstWay_103 rfl (lv_at hl 1 rfl) ?_
          have p9 := cj_4_3 (WO hO aO kO hM hQ hw iO_answered iO_searched iO_searchedRelaxed iO_counted fO_countedCase gO_goalNumber gO_goalScale fO_start fO_column fO_chosen) (WM hM aM kM iM_stands iM_variables iM_rows iM_goals iM_differents iM_cases fM_from fM_to fM_whole fM_ways iM_plainRows fM_plainRow fM_kept fM_goalOver fM_goalUnder fM_goalMax fM_different) (WQ hQ aQ kQ hw fQ_inside fQ_outside fQ_shut iQ_rows iQ_allRows iQ_columns) (WW nW hw lw kw wl_x50 wb_x50 wG_x50)
          have hPc := hP.mem (fun q h => p9.mem_iff.mpr (List.mem_append_left _ h))
          have hDc := (hD.perm p9).left
          have hKc : va_K (dC, dI) vwCl (tW kw) _ := hK.sub [24] rfl
          have hFc := freeG p9 hD hS hA
          refine va_calli (va_runV (As := []) (rest := []) ⟨hx, hb, hml, hown, hts⟩ (m_X8_sign l dC dI nW hw lw kw wl_x50 wb_x50 wG_x50 k76 b_wl_x50 b_wb_x50 (by first | with_reducible assumption | omega | (rw [iI_t (by omega) (by omega)]; omega) | decide | assumption) H.size) (cwV 0 hts gwsMX5_firstWay_5 rfl rfl rfl hd_yX8_sign_RX8 (by decide +kernel)) (fz_pre (va_recv hK hP (ci := 8) (q0 := 11 + (11 + (5 + (k76)))) rfl (apR rfl (apR rfl (apR rfl (WW_o (by omega)))))) hPc hKc hDc) rfl rfl hl.1 rfl (lv_room (Nat.le_of_ble_eq_true rfl)) dX5_firstWay_104 (by decide +kernel)) hS (fun q _ h => hFc q h) hFc (fun r107 u t9_ H locs ht hvm hw9 hB9 hz1 hk1 hS => ?_)
          have b_r107 := hw9
          try dsimp only at b_r107
          have p8 := p9
          obtain ⟨hP, hD⟩ := frameG p9 p8 hP hD hk1 hFc (fz_P ht hB9.1) hB9.2
          refine lv_istore hx hb dX5_firstWay_107 hl (by decide) rfl (fun ls (hl : lv_has ls _ ([(5, .int r107), (4, .int r106), (3, .ref (hw k76)), (2, .int l2_x2), (0, .ref (hO 0)), (1, .int p1)])) => ?_)
          refine lv_iload hx hb dX5_firstWay_109 (lv_at hl 0 rfl) ?_
          refine lv_if_eq (tgt := 135) hx hb dX5_firstWay_111 (by decide) (fun c_111 => ?_) (fun c_111 => ?_)
          · have t_111 : r107.toInt = 0 := toI_eq c_111 rfl (by decide : (0 : Int32).toInt = 0)
            refine lv_iload_n hx hb dX5_firstWay_135 rfl (lv_at hl 3 rfl) ?_
            refine W.widen (k := 0) (n := 0) (by decide +kernel) (by decide +kernel) ?_
            exact W.iret (v := l2_x2) hx hb hr (fun t9_ ht hW => ⟨⟨l2_x2, (wl_x50, wb_x50, wG_x50), rfl, ⟨b_wl_x50, b_wb_x50, (by first | exact b_l2_x2 | with_reducible assumption | exact ⟨by omega, by omega⟩ | assumption)⟩, by rw [ht]; exact hP, hD⟩, hS.F ht⟩) hS.2.2 dX5_firstWay_136
          · have t_111 : ¬ r107.toInt = 0 := toI_neq c_111 rfl (by decide : (0 : Int32).toInt = 0)
            refine lv_iload hx hb dX5_firstWay_114 (lv_at hl 0 rfl) ?_
            refine lv_if_ge (tgt := 124) hx hb dX5_firstWay_116 (by decide) (fun c_116 => ?_) (fun c_116 => ?_)
            · have t_116 : r107.toInt ≥ 0 := toI_ge c_116 rfl (by decide : (0 : Int32).toInt = 0)
              refine lv_iload hx hb dX5_firstWay_124 (lv_at hl 0 rfl) ?_
              refine lv_if_le (tgt := 137) hx hb dX5_firstWay_126 (by decide) (fun c_126 => ?_) (fun c_126 => ?_)
              · have t_126 : r107.toInt ≤ 0 := toI_le c_126 rfl (by decide : (0 : Int32).toInt = 0)
                refine lv_iinc (v := (iI (l2_x2.toInt + 1))) hx hb dX5_firstWay_137 hl (k := 3) rfl (iI_add2 (iI_of _) (by decide : (1 : Int32) = iI 1)) (by decide) rfl (fun ls (hl : lv_has ls _ ([(2, .int (iI (l2_x2.toInt + 1))), (5, .int r107), (4, .int r106), (3, .ref (hw k76)), (0, .ref (hO 0)), (1, .int p1)])) => ?_)
                refine lv_goto (tgt := 2) hx hb dX5_firstWay_140 (by decide) ?_
                have hl : lv_has _ _ ([(2, .int (iI (l2_x2.toInt + 1))), (0, .ref (hO 0)), (1, .int p1)]) := lv_sub hl [0, 4, 5] rfl
                exact ihx2 wl_x50 wb_x50 wG_x50 (iI (l2_x2.toInt + 1)) _ _ _ b_wl_x50 b_wb_x50 (iI_rng (Int.le_trans (by decide) (Int.add_le_add (b_l2_x2.1) (Int.le_refl _))) (by omega) (by decide) (by decide)) (by have e9 : ((iI (l2_x2.toInt + 1))).toInt = (l2_x2.toInt + 1) := (iI_t (Int.le_trans (by decide) (Int.add_le_add (b_l2_x2.1) (Int.le_refl _))) (Int.le_trans (Int.add_le_add (b_l2_x2.2) (Int.le_refl _)) (by decide))); omega) hP hD hS hl
              · have t_126 : ¬ r107.toInt ≤ 0 := toI_nle c_126 rfl (by decide : (0 : Int32).toInt = 0)
                refine lv_iload hx hb dX5_firstWay_129 (lv_at hl 1 rfl) ?_
                refine lv_iconst (v := 1) hx hb dX5_firstWay_131 (by decide) ?_
                refine lv_icmp_ne (tgt := 137) hx hb dX5_firstWay_132 (by decide) (fun c_132 => ?_) (fun c_132 => ?_)
                · have t_132 : r106.toInt ≠ 1 := toI_ne c_132 rfl (by decide : (1 : Int32).toInt = 1)
                  refine lv_iinc (v := (iI (l2_x2.toInt + 1))) hx hb dX5_firstWay_137 hl (k := 3) rfl (iI_add2 (iI_of _) (by decide : (1 : Int32) = iI 1)) (by decide) rfl (fun ls (hl : lv_has ls _ ([(2, .int (iI (l2_x2.toInt + 1))), (5, .int r107), (4, .int r106), (3, .ref (hw k76)), (0, .ref (hO 0)), (1, .int p1)])) => ?_)
                  refine lv_goto (tgt := 2) hx hb dX5_firstWay_140 (by decide) ?_
                  have hl : lv_has _ _ ([(2, .int (iI (l2_x2.toInt + 1))), (0, .ref (hO 0)), (1, .int p1)]) := lv_sub hl [0, 4, 5] rfl
                  exact ihx2 wl_x50 wb_x50 wG_x50 (iI (l2_x2.toInt + 1)) _ _ _ b_wl_x50 b_wb_x50 (iI_rng (Int.le_trans (by decide) (Int.add_le_add (b_l2_x2.1) (Int.le_refl _))) (by omega) (by decide) (by decide)) (by have e9 : ((iI (l2_x2.toInt + 1))).toInt = (l2_x2.toInt + 1) := (iI_t (Int.le_trans (by decide) (Int.add_le_add (b_l2_x2.1) (Int.le_refl _))) (Int.le_trans (Int.add_le_add (b_l2_x2.2) (Int.le_refl _)) (by decide))); omega) hP hD hS hl
                · have t_132 : r106.toInt = 1 := toI_nne c_132 rfl (by decide : (1 : Int32).toInt = 1)
                  refine lv_iload_n hx hb dX5_firstWay_135 rfl (lv_at hl 3 rfl) ?_
                  refine W.widen (k := 0) (n := 0) (by decide +kernel) (by decide +kernel) ?_
                  exact W.iret (v := l2_x2) hx hb hr (fun t9_ ht hW => ⟨⟨l2_x2, (wl_x50, wb_x50, wG_x50), rfl, ⟨b_wl_x50, b_wb_x50, (by first | exact b_l2_x2 | with_reducible assumption | exact ⟨by omega, by omega⟩ | assumption)⟩, by rw [ht]; exact hP, hD⟩, hS.F ht⟩) hS.2.2 dX5_firstWay_136
            · have t_116 : ¬ r107.toInt ≥ 0 := toI_nge c_116 rfl (by decide : (0 : Int32).toInt = 0)
              refine lv_iload hx hb dX5_firstWay_119 (lv_at hl 1 rfl) ?_
              refine lv_if_eq (tgt := 135) hx hb dX5_firstWay_121 (by decide) (fun c_121 => ?_) (fun c_121 => ?_)
              · have t_121 : r106.toInt = 0 := toI_eq c_121 rfl (by decide : (0 : Int32).toInt = 0)
                refine lv_iload_n hx hb dX5_firstWay_135 rfl (lv_at hl 3 rfl) ?_
                refine W.widen (k := 0) (n := 0) (by decide +kernel) (by decide +kernel) ?_
                exact W.iret (v := l2_x2) hx hb hr (fun t9_ ht hW => ⟨⟨l2_x2, (wl_x50, wb_x50, wG_x50), rfl, ⟨b_wl_x50, b_wb_x50, (by first | exact b_l2_x2 | with_reducible assumption | exact ⟨by omega, by omega⟩ | assumption)⟩, by rw [ht]; exact hP, hD⟩, hS.F ht⟩) hS.2.2 dX5_firstWay_136
              · have t_121 : ¬ r106.toInt = 0 := toI_neq c_121 rfl (by decide : (0 : Int32).toInt = 0)
                refine lv_iload hx hb dX5_firstWay_124 (lv_at hl 0 rfl) ?_
                refine lv_if_le (tgt := 137) hx hb dX5_firstWay_126 (by decide) (fun c_126 => ?_) (fun c_126 => ?_)
                · have t_126 : r107.toInt ≤ 0 := toI_le c_126 rfl (by decide : (0 : Int32).toInt = 0)
                  refine lv_iinc (v := (iI (l2_x2.toInt + 1))) hx hb dX5_firstWay_137 hl (k := 3) rfl (iI_add2 (iI_of _) (by decide : (1 : Int32) = iI 1)) (by decide) rfl (fun ls (hl : lv_has ls _ ([(2, .int (iI (l2_x2.toInt + 1))), (5, .int r107), (4, .int r106), (3, .ref (hw k76)), (0, .ref (hO 0)), (1, .int p1)])) => ?_)
                  refine lv_goto (tgt := 2) hx hb dX5_firstWay_140 (by decide) ?_
                  have hl : lv_has _ _ ([(2, .int (iI (l2_x2.toInt + 1))), (0, .ref (hO 0)), (1, .int p1)]) := lv_sub hl [0, 4, 5] rfl
                  exact ihx2 wl_x50 wb_x50 wG_x50 (iI (l2_x2.toInt + 1)) _ _ _ b_wl_x50 b_wb_x50 (iI_rng (Int.le_trans (by decide) (Int.add_le_add (b_l2_x2.1) (Int.le_refl _))) (by omega) (by decide) (by decide)) (by have e9 : ((iI (l2_x2.toInt + 1))).toInt = (l2_x2.toInt + 1) := (iI_t (Int.le_trans (by decide) (Int.add_le_add (b_l2_x2.1) (Int.le_refl _))) (Int.le_trans (Int.add_le_add (b_l2_x2.2) (Int.le_refl _)) (by decide))); omega) hP hD hS hl
                · have t_126 : ¬ r107.toInt ≤ 0 := toI_nle c_126 rfl (by decide : (0 : Int32).toInt = 0)
                  refine lv_iload hx hb dX5_firstWay_129 (lv_at hl 1 rfl) ?_
                  refine lv_iconst (v := 1) hx hb dX5_firstWay_131 (by decide) ?_
                  refine lv_icmp_ne (tgt := 137) hx hb dX5_firstWay_132 (by decide) (fun c_132 => ?_) (fun c_132 => ?_)
                  · have t_132 : r106.toInt ≠ 1 := toI_ne c_132 rfl (by decide : (1 : Int32).toInt = 1)
                    refine lv_iinc (v := (iI (l2_x2.toInt + 1))) hx hb dX5_firstWay_137 hl (k := 3) rfl (iI_add2 (iI_of _) (by decide : (1 : Int32) = iI 1)) (by decide) rfl (fun ls (hl : lv_has ls _ ([(2, .int (iI (l2_x2.toInt + 1))), (5, .int r107), (4, .int r106), (3, .ref (hw k76)), (0, .ref (hO 0)), (1, .int p1)])) => ?_)
                    refine lv_goto (tgt := 2) hx hb dX5_firstWay_140 (by decide) ?_
                    have hl : lv_has _ _ ([(2, .int (iI (l2_x2.toInt + 1))), (0, .ref (hO 0)), (1, .int p1)]) := lv_sub hl [0, 4, 5] rfl
                    exact ihx2 wl_x50 wb_x50 wG_x50 (iI (l2_x2.toInt + 1)) _ _ _ b_wl_x50 b_wb_x50 (iI_rng (Int.le_trans (by decide) (Int.add_le_add (b_l2_x2.1) (Int.le_refl _))) (by omega) (by decide) (by decide)) (by have e9 : ((iI (l2_x2.toInt + 1))).toInt = (l2_x2.toInt + 1) := (iI_t (Int.le_trans (by decide) (Int.add_le_add (b_l2_x2.1) (Int.le_refl _))) (Int.le_trans (Int.add_le_add (b_l2_x2.2) (Int.le_refl _)) (by decide))); omega) hP hD hS hl
                  · have t_132 : r106.toInt = 1 := toI_nne c_132 rfl (by decide : (1 : Int32).toInt = 1)
                    refine lv_iload_n hx hb dX5_firstWay_135 rfl (lv_at hl 3 rfl) ?_
                    refine W.widen (k := 0) (n := 0) (by decide +kernel) (by decide +kernel) ?_
                    exact W.iret (v := l2_x2) hx hb hr (fun t9_ ht hW => ⟨⟨l2_x2, (wl_x50, wb_x50, wG_x50), rfl, ⟨b_wl_x50, b_wb_x50, (by first | exact b_l2_x2 | with_reducible assumption | exact ⟨by omega, by omega⟩ | assumption)⟩, by rw [ht]; exact hP, hD⟩, hS.F ht⟩) hS.2.2 dX5_firstWay_136
        · have t_59 : ¬ l4_x50.toInt ≥ iM_variables.toInt := toI_nge c_59 rfl rfl
          refine lv_aload_n hx hb dX5_firstWay_62 rfl (lv_at hl 3 rfl) ?_
          refine lv_aload_n hx hb dX5_firstWay_63 rfl (lv_at hl 1 rfl) ?_
          refine lv_aload_n hx hb dX5_firstWay_64 rfl (lv_at hl 3 rfl) ?_
          refine va_get (D := (dC, dI)) (ci := 5) (v := .ref (aO 6)) (C := RX5) (T := TX5) (N := 19) hx hb hts iwsMX5_firstWay_in5 hown hK hP 0 rfl rfl 12 (by decide) (hts (.fieldLink RX5 48 "OptimaWorks$Solver" "answer" "[LOptimaWorks$Whole;") (by decide +kernel)) (fun _ h9 => h9) rfl dX5_firstWay_65 ?_
          refine lv_iload hx hb dX5_firstWay_68 (lv_at hl 0 rfl) ?_
          refine va_aldq (cA := kO 6) (n := 8) (f := fun q => some (hw (406 + q))) hx hb hK hP 7 6 rfl rfl (vp_in_iff.mpr ⟨b_l4_x50.1, (Int.lt_of_lt_of_le (Int.not_le.mp t_59) (Int.le_trans b_iM_variables.2 (by decide)))⟩) dX5_firstWay_70 ?_
          obtain ⟨k108, hk108, b_k108⟩ : ∃ k9 : Nat, k9 = 406 + (l4_x50).toNatClampNeg ∧ (406 ≤ k9 ∧ k9 < 414 ∧ (k9 : Int) = 406 + l4_x50.toInt) := ⟨_, rfl, ald_k (x := (l4_x50)) (o := 406) (n := 8) rfl (by omega) (by omega)⟩
          refine W.eq (g2 := F0 m 71 ls [.ref (hw k108), .ref (hw k76), .ref (hO 0)]) (by rw [hk108]; rfl) ?_
          clear hk108
          refine lv_aload_n hx hb dX5_firstWay_71 rfl (lv_at hl 3 rfl) ?_
          refine va_get (D := (dC, dI)) (ci := 5) (v := .ref (hM 0)) (C := RX5) (T := TX5) (N := 19) hx hb hts iwsMX5_firstWay_in5 hown hK hP 0 rfl rfl 0 (by decide) (hts _ hm_m_X5_firstWay_0) (fun _ h9 => h9) rfl dX5_firstWay_72 ?_
          refine lv_iload_n hx hb dX5_firstWay_75 rfl (lv_at hl 4 rfl) ?_
          refine lv_iload_n hx hb dX5_firstWay_76 rfl (lv_at hl 2 rfl) ?_
          refine lv_iload hx hb dX5_firstWay_77 (lv_at hl 0 rfl) ?_
          have p9 := cj_4_1 (WO hO aO kO hM hQ hw iO_answered iO_searched iO_searchedRelaxed iO_counted fO_countedCase gO_goalNumber gO_goalScale fO_start fO_column fO_chosen) (WM hM aM kM iM_stands iM_variables iM_rows iM_goals iM_differents iM_cases fM_from fM_to fM_whole fM_ways iM_plainRows fM_plainRow fM_kept fM_goalOver fM_goalUnder fM_goalMax fM_different) (WQ hQ aQ kQ hw fQ_inside fQ_outside fQ_shut iQ_rows iQ_allRows iQ_columns) (WW nW hw lw kw wl_x50 wb_x50 wG_x50)
          have hPc := hP.mem (fun q h => p9.mem_iff.mpr (List.mem_append_left _ h))
          have hDc := (hD.perm p9).left
          have hKc : va_K (dC, dI) vwCl (tM kM) _ := hK.sub [10, 11, 12, 13, 14, 15, 16, 17, 18, 19] rfl
          have hFc := freeG p9 hD hS hA
          refine va_calli (va_runV (As := [.int p1, .int l2_x2, .int l4_x50]) (rest := [.ref (hw k108), .ref (hw k76), .ref (hO 0)]) ⟨hx, hb, hml, hown, hts⟩ (m_X1_number l dC dI hM aM kM iM_stands iM_variables iM_rows iM_goals iM_differents iM_cases fM_from fM_to fM_whole fM_ways iM_plainRows fM_plainRow fM_kept fM_goalOver fM_goalUnder fM_goalMax fM_different p1 l2_x2 l4_x50 (b_iM_stands) (b_iM_variables) (b_iM_rows) (b_iM_goals) (b_iM_differents) (b_iM_cases) b_fM_ways (b_iM_plainRows) b_fM_plainRow (by first | with_reducible assumption | omega | assumption) (b_p1) (by first | exact b_l2_x2 | with_reducible assumption | exact ⟨by omega, by omega⟩ | assumption) (b_l4_x50) H.size) (cwV 3 hts gwsMX5_firstWay_3 rfl rfl rfl hd_yX1_number_RX1 (by decide +kernel)) (fz_pre (va_recv hK hP (ci := 1) (q0 := 11) rfl rfl) hPc hKc hDc) rfl rfl hl.1 rfl (lv_room (Nat.le_of_ble_eq_true rfl)) dX5_firstWay_79 (by decide +kernel)) hS (fun q _ h => hFc q h) hFc (fun r109 u t9_ H locs ht hvm hw9 hB9 hz1 hk1 hS => ?_)
          clear hw9
          have p8 := p9
          obtain ⟨hP, hD⟩ := frameG p9 p8 hP hD hk1 hFc (fz_P ht hB9.1) hB9.2
          refine lv_i2l hx hb dX5_firstWay_82 rfl ?_
          refine lv_topl (fun v110 hv110 => ?_)
          clear hv110
          have hFc := allFree hD hS hA
          refine va_callv (va_runV (As := [.ref (hw k76), .ref (hw k108), .long v110]) (rest := []) ⟨hx, hb, hml, hown, hts⟩ (m_X5_addTimes l dC dI hO aO kO hM hQ hw iO_answered iO_searched iO_searchedRelaxed iO_counted fO_countedCase gO_goalNumber gO_goalScale fO_start fO_column fO_chosen aM kM iM_stands iM_variables iM_rows iM_goals iM_differents iM_cases fM_from fM_to fM_whole fM_ways iM_plainRows fM_plainRow fM_kept fM_goalOver fM_goalUnder fM_goalMax fM_different aQ kQ fQ_inside fQ_outside fQ_shut iQ_rows iQ_allRows iQ_columns nW lw kw wl_x50 wb_x50 wG_x50 k76 k108 v110 (b_iO_answered) (b_iO_searched) (b_iO_searchedRelaxed) (b_iO_counted) b_fO_countedCase b_fO_column b_fO_chosen (b_iM_stands) (b_iM_variables) (b_iM_rows) (b_iM_goals) (b_iM_differents) (b_iM_cases) b_fM_ways (b_iM_plainRows) b_fM_plainRow (by first | with_reducible assumption | omega | assumption) (b_iQ_rows) (b_iQ_allRows) (b_iQ_columns) (by first | with_reducible assumption | omega | assumption) b_wl_x50 b_wb_x50 (by omega) (by first | with_reducible assumption | omega | (rw [iI_t (by omega) (by omega)]; omega) | decide | assumption) (by first | with_reducible assumption | omega | (rw [iI_t (by omega) (by omega)]; omega) | decide | assumption) H.size) (cwV 3 hts gwsMX5_firstWay_2 rfl rfl rfl hd_yX5_addTimes_RX5 (by decide +kernel)) (fz_pre (va_recv hK hP (ci := 5) (q0 := 0) rfl rfl) hP hK hD) rfl rfl hl.1 rfl (lv_room (Nat.le_of_ble_eq_true rfl)) dX5_firstWay_83 (by decide +kernel)) hS (fun q _ h => hFc q h) hFc (fun u t9_ H locs ht hvm hw9 hB9 hz1 hk1 hS => ?_)
          revert u hw9 hB9
          refine fz_p3 ?_
          intro wl_111 wb_111 wG_111 hw9 hB9
          try dsimp only at hw9 hB9
          revert hw9
          refine fz_a2 ?_
          intro b_wl_111 b_wb_111
          have hP : va_P (dC, dI) vwCl (WO hO aO kO hM hQ hw iO_answered iO_searched iO_searchedRelaxed iO_counted fO_countedCase gO_goalNumber gO_goalScale fO_start fO_column fO_chosen ++ (WM hM aM kM iM_stands iM_variables iM_rows iM_goals iM_differents iM_cases fM_from fM_to fM_whole fM_ways iM_plainRows fM_plainRow fM_kept fM_goalOver fM_goalUnder fM_goalMax fM_different ++ (WQ hQ aQ kQ hw fQ_inside fQ_outside fQ_shut iQ_rows iQ_allRows iQ_columns ++ (WW nW hw lw kw wl_111 wb_111 wG_111)))) H := fz_P ht hB9.1
          have hD := fz_sd hP (hB9.2.weaken (fun _ q _ h => hFc q.1 h)) rfl
          refine lv_iinc (v := (iI (l4_x50.toInt + 1))) hx hb dX5_firstWay_86 hl (k := 0) rfl (iI_add2 (iI_of _) (by decide : (1 : Int32) = iI 1)) (by decide) rfl (fun ls (hl : lv_has ls _ ([(4, .int (iI (l4_x50.toInt + 1))), (3, .ref (hw k76)), (2, .int l2_x2), (0, .ref (hO 0)), (1, .int p1)])) => ?_)
          refine lv_goto (tgt := 50) hx hb dX5_firstWay_89 (by decide) ?_
          have hl : lv_has _ _ ([(4, .int (iI (l4_x50.toInt + 1))), (3, .ref (hw k76)), (2, .int l2_x2), (0, .ref (hO 0)), (1, .int p1)]) := lv_sub hl [0, 1, 2, 3, 4] rfl
          exact ihx50 wl_111 wb_111 wG_111 (iI (l4_x50.toInt + 1)) _ _ _ b_wl_111 b_wb_111 (iI_rng (Int.le_trans (by decide) (Int.add_le_add (b_l4_x50.1) (Int.le_refl _))) (by omega) (by decide) (by decide)) (by have e9 : ((iI (l4_x50.toInt + 1))).toInt = (l4_x50.toInt + 1) := (iI_t (Int.le_trans (by decide) (Int.add_le_add (b_l4_x50.1) (Int.le_refl _))) (Int.le_trans (Int.add_le_add (b_l4_x50.2) (Int.le_refl _)) (by decide))); omega) hP hD hS hl
theorem dX5_tellNumber_0 : decode cX5_tellNumber 0 = .ok (.aload_n 0, 1) := dk_42 (by decide +kernel)
theorem dX5_tellNumber_1 : decode cX5_tellNumber 1 = .ok (.getfield 65, 3) := dk_180 (by decide +kernel)
theorem dX5_tellNumber_4 : decode cX5_tellNumber 4 = .ok (.aload_n 0, 1) := dk_42 (by decide +kernel)
theorem dX5_tellNumber_5 : decode cX5_tellNumber 5 = .ok (.getfield 48, 3) := dk_180 (by decide +kernel)
theorem dX5_tellNumber_8 : decode cX5_tellNumber 8 = .ok (.iload_n 1, 1) := dk_27 (by decide +kernel)
theorem dX5_tellNumber_9 : decode cX5_tellNumber 9 = .ok (.aaload, 1) := dk_50 (by decide +kernel)
theorem dX5_tellNumber_10 : decode cX5_tellNumber 10 = .ok (.invokevirtual 268, 3) := dk_182 (by decide +kernel)
theorem dX5_tellNumber_13 : decode cX5_tellNumber 13 = .ok (.aload_n 0, 1) := dk_42 (by decide +kernel)
theorem dX5_tellNumber_14 : decode cX5_tellNumber 14 = .ok (.getfield 68, 3) := dk_180 (by decide +kernel)
theorem dX5_tellNumber_17 : decode cX5_tellNumber 17 = .ok (.aload_n 0, 1) := dk_42 (by decide +kernel)
theorem dX5_tellNumber_18 : decode cX5_tellNumber 18 = .ok (.getfield 58, 3) := dk_180 (by decide +kernel)
theorem dX5_tellNumber_21 : decode cX5_tellNumber 21 = .ok (.invokevirtual 268, 3) := dk_182 (by decide +kernel)
theorem dX5_tellNumber_24 : decode cX5_tellNumber 24 = .ok (.return_, 1) := dk_177 (by decide +kernel)
def wsMX5_tellNumber : List Cond := .code yX5_tellNumber cX5_tellNumber 2 none :: ([.fieldLink RX5 65 "OptimaWorks$Solver" "top" "LOptimaWorks$Whole;", .fieldLink RX5 48 "OptimaWorks$Solver" "answer" "[LOptimaWorks$Whole;", .fieldLink RX5 68 "OptimaWorks$Solver" "bottom" "LOptimaWorks$Whole;", .fieldLink RX5 58 "OptimaWorks$Solver" "answerUnder" "LOptimaWorks$Whole;"] ++ wsX50 ++ (wsV RX5 268 RX8 yX8_copy wsMX8_copy))
theorem iwsMX5_tellNumber_in5 : ∀ w ∈ wsX50, w ∈ wsMX5_tellNumber := fun _ h => List.mem_cons_of_mem _ (List.mem_append_left _ (List.mem_append_right _ h))
theorem gwsMX5_tellNumber_0 : GoodIn wsMX5_tellNumber (wsV RX5 268 RX8 yX8_copy wsMX8_copy) := goodIn_sub (fun _ h => List.mem_cons_of_mem _ (List.mem_append_right _ h)) (gdV (by decide +kernel) gdwsMX8_copy)
theorem gdwsMX5_tellNumber : wsMX5_tellNumber.all goodWord = true := gdC rfl (gdA (gdA (by decide +kernel : ([.fieldLink RX5 65 "OptimaWorks$Solver" "top" "LOptimaWorks$Whole;", .fieldLink RX5 48 "OptimaWorks$Solver" "answer" "[LOptimaWorks$Whole;", .fieldLink RX5 68 "OptimaWorks$Solver" "bottom" "LOptimaWorks$Whole;", .fieldLink RX5 58 "OptimaWorks$Solver" "answerUnder" "LOptimaWorks$Whole;"] : List Cond).all goodWord = true) gdwsX50) (gdV (by decide +kernel) gdwsMX8_copy))
set_option maxHeartbeats 4000000 in
set_option maxRecDepth 100000 in
/-- a number is told -/
theorem m_X5_tellNumber (l : Launch) (dC : Nat → ClassId) (dI : Nat → Nat → Nat) (hO : Nat → Nat) (aO : Nat → Nat) (kO : Nat → ClassId) (hM : Nat → Nat) (hQ : Nat → Nat) (hw : Nat → Nat) (iO_answered : Int32) (iO_searched : Int32) (iO_searchedRelaxed : Int32) (iO_counted : Int32) (fO_countedCase : Nat → Int32) (gO_goalNumber : Nat → Int64) (gO_goalScale : Nat → Int64) (fO_start : Nat → Int32) (fO_column : Nat → Int32) (fO_chosen : Nat → Int32) (aM : Nat → Nat) (kM : Nat → ClassId) (iM_stands : Int32) (iM_variables : Int32) (iM_rows : Int32) (iM_goals : Int32) (iM_differents : Int32) (iM_cases : Int32) (fM_from : Nat → Int32) (fM_to : Nat → Int32) (fM_whole : Nat → Int32) (fM_ways : Nat → Int32) (iM_plainRows : Int32) (fM_plainRow : Nat → Int32) (fM_kept : Nat → Int32) (fM_goalOver : Nat → Int32) (fM_goalUnder : Nat → Int32) (fM_goalMax : Nat → Int32) (fM_different : Nat → Int32) (aQ : Nat → Nat) (kQ : Nat → ClassId) (fQ_inside : Nat → Int32) (fQ_outside : Nat → Int32) (fQ_shut : Nat → Int32) (iQ_rows : Int32) (iQ_allRows : Int32) (iQ_columns : Int32) (nW : Nat) (lw : Nat → Nat) (kw : ClassId) (wl : Nat → Int32) (wb : Nat → Int32) (wG : Nat → Nat → Int64) (p1 : Int32) (b_iO_answered : 0 ≤ iO_answered.toInt ∧ iO_answered.toInt ≤ 1) (b_iO_searched : 0 ≤ iO_searched.toInt ∧ iO_searched.toInt ≤ 1) (b_iO_searchedRelaxed : 0 ≤ iO_searchedRelaxed.toInt ∧ iO_searchedRelaxed.toInt ≤ 1) (b_iO_counted : (-1) ≤ iO_counted.toInt ∧ iO_counted.toInt ≤ 64) (b_fO_countedCase : ∀ q : Nat, 0 ≤ (fO_countedCase q).toInt ∧ (fO_countedCase q).toInt ≤ 200000) (b_fO_column : ∀ q : Nat, (-1) ≤ (fO_column q).toInt ∧ (fO_column q).toInt ≤ 8) (b_fO_chosen : ∀ q : Nat, 0 ≤ (fO_chosen q).toInt ∧ (fO_chosen q).toInt ≤ 2) (b_iM_stands : 0 ≤ iM_stands.toInt ∧ iM_stands.toInt ≤ 1) (b_iM_variables : 0 ≤ iM_variables.toInt ∧ iM_variables.toInt ≤ 8) (b_iM_rows : 0 ≤ iM_rows.toInt ∧ iM_rows.toInt ≤ 12) (b_iM_goals : 0 ≤ iM_goals.toInt ∧ iM_goals.toInt ≤ 3) (b_iM_differents : 0 ≤ iM_differents.toInt ∧ iM_differents.toInt ≤ 8) (b_iM_cases : 0 ≤ iM_cases.toInt ∧ iM_cases.toInt ≤ 200000) (b_fM_ways : ∀ q : Nat, 0 ≤ (fM_ways q).toInt ∧ (fM_ways q).toInt ≤ 3) (b_iM_plainRows : 0 ≤ iM_plainRows.toInt ∧ iM_plainRows.toInt ≤ 12) (b_fM_plainRow : ∀ q : Nat, 0 ≤ (fM_plainRow q).toInt ∧ (fM_plainRow q).toInt ≤ 11) (b_pr : iM_plainRows.toInt ≤ iM_rows.toInt) (b_iQ_rows : 0 ≤ iQ_rows.toInt ∧ iQ_rows.toInt ≤ 40) (b_iQ_allRows : 0 ≤ iQ_allRows.toInt ∧ iQ_allRows.toInt ≤ 40) (b_iQ_columns : 0 ≤ iQ_columns.toInt ∧ iQ_columns.toInt ≤ 40) (b_tb : TbO iQ_rows iQ_allRows iQ_columns) (b_wl : ∀ q : Nat, 0 ≤ (wl q).toInt ∧ (wl q).toInt ≤ 14) (b_wb : ∀ q : Nat, 0 ≤ (wb q).toInt ∧ (wb q).toInt ≤ 1) (b_p1 : 0 ≤ p1.toInt ∧ p1.toInt ≤ 7) (hnW : 432 ≤ nW) (sz : Nat) : Met l yX5_tellNumber wsMX5_tellNumber ({ frames := 2, cells := 0, slots := 0, locals := 39 }) (va_Pc [.ref (hO 0), .int p1] (fun U => U.heap.size = sz ∧ va_P (dC, dI) vwCl (WO hO aO kO hM hQ hw iO_answered iO_searched iO_searchedRelaxed iO_counted fO_countedCase gO_goalNumber gO_goalScale fO_start fO_column fO_chosen ++ (WM hM aM kM iM_stands iM_variables iM_rows iM_goals iM_differents iM_cases fM_from fM_to fM_whole fM_ways iM_plainRows fM_plainRow fM_kept fM_goalOver fM_goalUnder fM_goalMax fM_different ++ (WQ hQ aQ kQ hw fQ_inside fQ_outside fQ_shut iQ_rows iQ_allRows iQ_columns ++ (WW nW hw lw kw wl wb wG)))) U.heap ∧ va_K (dC, dI) vwCl (tO kO ++ (tM kM ++ (tQ kQ ++ (tW kw)))) U ∧ va_D (fun _ => True) (WO hO aO kO hM hQ hw iO_answered iO_searched iO_searchedRelaxed iO_counted fO_countedCase gO_goalNumber gO_goalScale fO_start fO_column fO_chosen ++ (WM hM aM kM iM_stands iM_variables iM_rows iM_goals iM_differents iM_cases fM_from fM_to fM_whole fM_ways iM_plainRows fM_plainRow fM_kept fM_goalOver fM_goalUnder fM_goalMax fM_different ++ (WQ hQ aQ kQ hw fQ_inside fQ_outside fQ_shut iQ_rows iQ_allRows iQ_columns ++ (WW nW hw lw kw wl wb wG)))))) (va_Qv (fun (u : (Nat → Int32) × (Nat → Int32) × (Nat → Nat → Int64)) => (∀ q : Nat, 0 ≤ ((u.1) q).toInt ∧ ((u.1) q).toInt ≤ 14) ∧ (∀ q : Nat, 0 ≤ ((u.2.1) q).toInt ∧ ((u.2.1) q).toInt ≤ 1)) (fun (u : (Nat → Int32) × (Nat → Int32) × (Nat → Nat → Int64)) t => va_P (dC, dI) vwCl (WO hO aO kO hM hQ hw iO_answered iO_searched iO_searchedRelaxed iO_counted fO_countedCase gO_goalNumber gO_goalScale fO_start fO_column fO_chosen ++ (WM hM aM kM iM_stands iM_variables iM_rows iM_goals iM_differents iM_cases fM_from fM_to fM_whole fM_ways iM_plainRows fM_plainRow fM_kept fM_goalOver fM_goalUnder fM_goalMax fM_different ++ (WQ hQ aQ kQ hw fQ_inside fQ_outside fQ_shut iQ_rows iQ_allRows iQ_columns ++ (WW nW hw lw kw (u.1) (u.2.1) (u.2.2))))) t.heap ∧ va_D (va_A (WO hO aO kO hM hQ hw iO_answered iO_searched iO_searchedRelaxed iO_counted fO_countedCase gO_goalNumber gO_goalScale fO_start fO_column fO_chosen ++ (WM hM aM kM iM_stands iM_variables iM_rows iM_goals iM_differents iM_cases fM_from fM_to fM_whole fM_ways iM_plainRows fM_plainRow fM_kept fM_goalOver fM_goalUnder fM_goalMax fM_different ++ (WQ hQ aQ kQ hw fQ_inside fQ_outside fQ_shut iQ_rows iQ_allRows iQ_columns ++ (WW nW hw lw kw wl wb wG)))) sz) (WO hO aO kO hM hQ hw iO_answered iO_searched iO_searchedRelaxed iO_counted fO_countedCase gO_goalNumber gO_goalScale fO_start fO_column fO_chosen ++ (WM hM aM kM iM_stands iM_variables iM_rows iM_goals iM_differents iM_cases fM_from fM_to fM_whole fM_ways iM_plainRows fM_plainRow fM_kept fM_goalOver fM_goalUnder fM_goalMax fM_different ++ (WQ hQ aQ kQ hw fQ_inside fQ_outside fQ_shut iQ_rows iQ_allRows iQ_columns ++ (WW nW hw lw kw (u.1) (u.2.1) (u.2.2)))))) (va_A (WO hO aO kO hM hQ hw iO_answered iO_searched iO_searchedRelaxed iO_counted fO_countedCase gO_goalNumber gO_goalScale fO_start fO_column fO_chosen ++ (WM hM aM kM iM_stands iM_variables iM_rows iM_goals iM_differents iM_cases fM_from fM_to fM_whole fM_ways iM_plainRows fM_plainRow fM_kept fM_goalOver fM_goalUnder fM_goalMax fM_different ++ (WQ hQ aQ kQ hw fQ_inside fQ_outside fQ_shut iQ_rows iQ_allRows iQ_columns ++ (WW nW hw lw kw wl wb wG)))) sz)) 0 0 (va_A (WO hO aO kO hM hQ hw iO_answered iO_searched iO_searchedRelaxed iO_counted fO_countedCase gO_goalNumber gO_goalScale fO_start fO_column fO_chosen ++ (WM hM aM kM iM_stands iM_variables iM_rows iM_goals iM_differents iM_cases fM_from fM_to fM_whole fM_ways iM_plainRows fM_plainRow fM_kept fM_goalOver fM_goalUnder fM_goalMax fM_different ++ (WQ hQ aQ kQ hw fQ_inside fQ_outside fQ_shut iQ_rows iQ_allRows iQ_columns ++ (WW nW hw lw kw wl wb wG)))) sz) := by
  refine Met.ofW (cc := cX5_tellNumber) (maxL := 2) (ret := none) (by decide) rfl ?_
  intro p e s m args below meth c s₁ B hml hv
  obtain ⟨rfl, hsz, hP, hK, hD0⟩ := hv
  have hx := B.exec
  have hb := B.bytes
  have hr := B.returns
  have hts := atoms_spec (ws := wsMX5_tellNumber) B.pre
  have hown : s.vm.findClass RX5 = some m.cls := findClass_of_methodNamed B.named
  have hlocks := B.notSynchronized
  subst hsz
  have hD := hD0.self (sz := s.heap.size)
  generalize hAe : va_A (WO hO aO kO hM hQ hw iO_answered iO_searched iO_searchedRelaxed iO_counted fO_countedCase gO_goalNumber gO_goalScale fO_start fO_column fO_chosen ++ (WM hM aM kM iM_stands iM_variables iM_rows iM_goals iM_differents iM_cases fM_from fM_to fM_whole fM_ways iM_plainRows fM_plainRow fM_kept fM_goalOver fM_goalUnder fM_goalMax fM_different ++ (WQ hQ aQ kQ hw fQ_inside fQ_outside fQ_shut iQ_rows iQ_allRows iQ_columns ++ (WW nW hw lw kw wl wb wG)))) s.heap.size = A at hD ⊢
  have hA : ∀ q : Nat, s.heap.size ≤ q → A q := fun q h => by rw [← hAe]; exact Or.inr h
  have hS : va_S A s.heap s.heap [] := va_S.rf
  have hl := lv_entry ([.ref (hO 0), .int p1]) (n := 2) (Nat.le_of_ble_eq_true rfl)
  rw [lg_entry_eq]
  generalize (lg_sl ([.ref (hO 0), .int p1]) ++ List.replicate (2 - (lg_sl ([.ref (hO 0), .int p1])).length) Slot.unset).toArray = ls at hl ⊢
  have hl : lv_has ls 2 [(0, .ref (hO 0)), (1, .int p1)] := hl
  refine lv_aload_n hx hb dX5_tellNumber_0 rfl (lv_at hl 0 rfl) ?_
  refine va_get (D := (dC, dI)) (ci := 5) (v := .ref (hw 426)) (C := RX5) (T := TX5) (N := 19) hx hb hts iwsMX5_tellNumber_in5 hown hK hP 0 rfl rfl 16 (by decide) (hts (.fieldLink RX5 65 "OptimaWorks$Solver" "top" "LOptimaWorks$Whole;") (by decide +kernel)) (fun _ h9 => h9) rfl dX5_tellNumber_1 ?_
  refine lv_aload_n hx hb dX5_tellNumber_4 rfl (lv_at hl 0 rfl) ?_
  refine va_get (D := (dC, dI)) (ci := 5) (v := .ref (aO 6)) (C := RX5) (T := TX5) (N := 19) hx hb hts iwsMX5_tellNumber_in5 hown hK hP 0 rfl rfl 12 (by decide) (hts (.fieldLink RX5 48 "OptimaWorks$Solver" "answer" "[LOptimaWorks$Whole;") (by decide +kernel)) (fun _ h9 => h9) rfl dX5_tellNumber_5 ?_
  refine lv_iload_n hx hb dX5_tellNumber_8 rfl (lv_at hl 1 rfl) ?_
  refine va_aldq (cA := kO 6) (n := 8) (f := fun q => some (hw (406 + q))) hx hb hK hP 7 6 rfl rfl (vp_in_iff.mpr ⟨b_p1.1, (Int.lt_of_le_of_lt (b_p1.2) (by decide))⟩) dX5_tellNumber_9 ?_
  obtain ⟨k1, hk1, b_k1⟩ : ∃ k9 : Nat, k9 = 406 + (p1).toNatClampNeg ∧ (406 ≤ k9 ∧ k9 < 414 ∧ (k9 : Int) = 406 + p1.toInt) := ⟨_, rfl, ald_k (x := (p1)) (o := 406) (n := 8) rfl (by omega) (by omega)⟩
  refine W.eq (g2 := F0 m 10 ls [.ref (hw k1), .ref (hw 426)]) (by rw [hk1]; rfl) ?_
  clear hk1
  have p9 := cj_4_3 (WO hO aO kO hM hQ hw iO_answered iO_searched iO_searchedRelaxed iO_counted fO_countedCase gO_goalNumber gO_goalScale fO_start fO_column fO_chosen) (WM hM aM kM iM_stands iM_variables iM_rows iM_goals iM_differents iM_cases fM_from fM_to fM_whole fM_ways iM_plainRows fM_plainRow fM_kept fM_goalOver fM_goalUnder fM_goalMax fM_different) (WQ hQ aQ kQ hw fQ_inside fQ_outside fQ_shut iQ_rows iQ_allRows iQ_columns) (WW nW hw lw kw wl wb wG)
  have hPc := hP.mem (fun q h => p9.mem_iff.mpr (List.mem_append_left _ h))
  have hDc := (hD.perm p9).left
  have hKc : va_K (dC, dI) vwCl (tW kw) _ := hK.sub [24] rfl
  have hFc := freeG p9 hD hS hA
  refine va_callv (va_runV (As := [.ref (hw k1)]) (rest := []) ⟨hx, hb, hml, hown, hts⟩ (m_X8_copy l dC dI nW hw lw kw wl wb wG 426 k1 b_wl b_wb (by first | with_reducible assumption | omega | (rw [iI_t (by omega) (by omega)]; omega) | decide | assumption) (by first | with_reducible assumption | omega | (rw [iI_t (by omega) (by omega)]; omega) | decide | assumption) s.heap.size) (cwV 1 hts gwsMX5_tellNumber_0 rfl rfl rfl hd_yX8_copy_RX8 (by decide +kernel)) (fz_pre (va_recv hK hP (ci := 8) (q0 := 11 + (11 + (5 + (426)))) rfl (apR rfl (apR rfl (apR rfl (WW_o (by omega)))))) hPc hKc hDc) rfl rfl hl.1 rfl (lv_room (Nat.le_of_ble_eq_true rfl)) dX5_tellNumber_10 (by decide +kernel)) hS (fun q _ h => hFc q h) hFc (fun u t9_ H locs ht hvm hw9 hB9 hz1 hk1 hS => ?_)
  revert u hw9 hB9
  refine fz_p3 ?_
  intro wl_2 wb_2 wG_2 hw9 hB9
  try dsimp only at hw9 hB9
  revert hw9
  refine fz_a2 ?_
  intro b_wl_2 b_wb_2
  have p8 := cj_4_3 (WO hO aO kO hM hQ hw iO_answered iO_searched iO_searchedRelaxed iO_counted fO_countedCase gO_goalNumber gO_goalScale fO_start fO_column fO_chosen) (WM hM aM kM iM_stands iM_variables iM_rows iM_goals iM_differents iM_cases fM_from fM_to fM_whole fM_ways iM_plainRows fM_plainRow fM_kept fM_goalOver fM_goalUnder fM_goalMax fM_different) (WQ hQ aQ kQ hw fQ_inside fQ_outside fQ_shut iQ_rows iQ_allRows iQ_columns) (WW nW hw lw kw wl_2 wb_2 wG_2)
  obtain ⟨hP, hD⟩ := frameG p9 p8 hP hD hk1 hFc (fz_P ht hB9.1) hB9.2
  refine lv_aload_n hx hb dX5_tellNumber_13 rfl (lv_at hl 0 rfl) ?_
  refine va_get (D := (dC, dI)) (ci := 5) (v := .ref (hw 427)) (C := RX5) (T := TX5) (N := 19) hx hb hts iwsMX5_tellNumber_in5 hown hK hP 0 rfl rfl 17 (by decide) (hts (.fieldLink RX5 68 "OptimaWorks$Solver" "bottom" "LOptimaWorks$Whole;") (by decide +kernel)) (fun _ h9 => h9) rfl dX5_tellNumber_14 ?_
  refine lv_aload_n hx hb dX5_tellNumber_17 rfl (lv_at hl 0 rfl) ?_
  refine va_get (D := (dC, dI)) (ci := 5) (v := .ref (hw 417)) (C := RX5) (T := TX5) (N := 19) hx hb hts iwsMX5_tellNumber_in5 hown hK hP 0 rfl rfl 14 (by decide) (hts (.fieldLink RX5 58 "OptimaWorks$Solver" "answerUnder" "LOptimaWorks$Whole;") (by decide +kernel)) (fun _ h9 => h9) rfl dX5_tellNumber_18 ?_
  have p9 := cj_4_3 (WO hO aO kO hM hQ hw iO_answered iO_searched iO_searchedRelaxed iO_counted fO_countedCase gO_goalNumber gO_goalScale fO_start fO_column fO_chosen) (WM hM aM kM iM_stands iM_variables iM_rows iM_goals iM_differents iM_cases fM_from fM_to fM_whole fM_ways iM_plainRows fM_plainRow fM_kept fM_goalOver fM_goalUnder fM_goalMax fM_different) (WQ hQ aQ kQ hw fQ_inside fQ_outside fQ_shut iQ_rows iQ_allRows iQ_columns) (WW nW hw lw kw wl_2 wb_2 wG_2)
  have hPc := hP.mem (fun q h => p9.mem_iff.mpr (List.mem_append_left _ h))
  have hDc := (hD.perm p9).left
  have hKc : va_K (dC, dI) vwCl (tW kw) _ := hK.sub [24] rfl
  have hFc := freeG p9 hD hS hA
  refine va_callv (va_runV (As := [.ref (hw 417)]) (rest := []) ⟨hx, hb, hml, hown, hts⟩ (m_X8_copy l dC dI nW hw lw kw wl_2 wb_2 wG_2 427 417 b_wl_2 b_wb_2 (by first | with_reducible assumption | omega | (rw [iI_t (by omega) (by omega)]; omega) | decide | assumption) (by first | with_reducible assumption | omega | (rw [iI_t (by omega) (by omega)]; omega) | decide | assumption) H.size) (cwV 1 hts gwsMX5_tellNumber_0 rfl rfl rfl hd_yX8_copy_RX8 (by decide +kernel)) (fz_pre (va_recv hK hP (ci := 8) (q0 := 11 + (11 + (5 + (427)))) rfl (apR rfl (apR rfl (apR rfl (WW_o (by omega)))))) hPc hKc hDc) rfl rfl hl.1 rfl (lv_room (Nat.le_of_ble_eq_true rfl)) dX5_tellNumber_21 (by decide +kernel)) hS (fun q _ h => hFc q h) hFc (fun u t9_ H locs ht hvm hw9 hB9 hz1 hk1 hS => ?_)
  revert u hw9 hB9
  refine fz_p3 ?_
  intro wl_3 wb_3 wG_3 hw9 hB9
  try dsimp only at hw9 hB9
  revert hw9
  refine fz_a2 ?_
  intro b_wl_3 b_wb_3
  have p8 := cj_4_3 (WO hO aO kO hM hQ hw iO_answered iO_searched iO_searchedRelaxed iO_counted fO_countedCase gO_goalNumber gO_goalScale fO_start fO_column fO_chosen) (WM hM aM kM iM_stands iM_variables iM_rows iM_goals iM_differents iM_cases fM_from fM_to fM_whole fM_ways iM_plainRows fM_plainRow fM_kept fM_goalOver fM_goalUnder fM_goalMax fM_different) (WQ hQ aQ kQ hw fQ_inside fQ_outside fQ_shut iQ_rows iQ_allRows iQ_columns) (WW nW hw lw kw wl_3 wb_3 wG_3)
  obtain ⟨hP, hD⟩ := frameG p9 p8 hP hD hk1 hFc (fz_P ht hB9.1) hB9.2
  refine W.widen (k := 0) (n := 0) (by decide +kernel) (by decide +kernel) ?_
  exact W.vret hx hb hr (fun t9_ ht hW => ⟨⟨(wl_3, wb_3, wG_3), rfl, ⟨b_wl_3, b_wb_3⟩, by rw [ht]; exact hP, hD⟩, hS.F ht⟩) hS.2.2 dX5_tellNumber_24
theorem dX5_setGoal_0 : decode cX5_setGoal 0 = .ok (.aload_n 0, 1) := dk_42 (by decide +kernel)
theorem dX5_setGoal_1 : decode cX5_setGoal 1 = .ok (.getfield 74, 3) := dk_180 (by decide +kernel)
theorem dX5_setGoal_4 : decode cX5_setGoal 4 = .ok (.getfield 124, 3) := dk_180 (by decide +kernel)
theorem dX5_setGoal_7 : decode cX5_setGoal 7 = .ok (.iload_n 1, 1) := dk_27 (by decide +kernel)
theorem dX5_setGoal_8 : decode cX5_setGoal 8 = .ok (.bipush 9, 2) := dk_16 (by decide +kernel)
theorem dX5_setGoal_10 : decode cX5_setGoal 10 = .ok (.imul, 1) := dk_104 (by decide +kernel)
theorem dX5_setGoal_11 : decode cX5_setGoal 11 = .ok (.iaload, 1) := dk_46 (by decide +kernel)
theorem dX5_setGoal_12 : decode cX5_setGoal 12 = .ok (.istore 4, 2) := dk_54 (by decide +kernel)
theorem dX5_setGoal_14 : decode cX5_setGoal 14 = .ok (.aload_n 0, 1) := dk_42 (by decide +kernel)
theorem dX5_setGoal_15 : decode cX5_setGoal 15 = .ok (.getfield 74, 3) := dk_180 (by decide +kernel)
theorem dX5_setGoal_18 : decode cX5_setGoal 18 = .ok (.getfield 115, 3) := dk_180 (by decide +kernel)
theorem dX5_setGoal_21 : decode cX5_setGoal 21 = .ok (.iload_n 1, 1) := dk_27 (by decide +kernel)
theorem dX5_setGoal_22 : decode cX5_setGoal 22 = .ok (.bipush 9, 2) := dk_16 (by decide +kernel)
theorem dX5_setGoal_24 : decode cX5_setGoal 24 = .ok (.imul, 1) := dk_104 (by decide +kernel)
theorem dX5_setGoal_25 : decode cX5_setGoal 25 = .ok (.iaload, 1) := dk_46 (by decide +kernel)
theorem dX5_setGoal_26 : decode cX5_setGoal 26 = .ok (.istore 5, 2) := dk_54 (by decide +kernel)
theorem dX5_setGoal_28 : decode cX5_setGoal 28 = .ok (.aload_n 0, 1) := dk_42 (by decide +kernel)
theorem dX5_setGoal_29 : decode cX5_setGoal 29 = .ok (.getfield 71, 3) := dk_180 (by decide +kernel)
theorem dX5_setGoal_32 : decode cX5_setGoal 32 = .ok (.iconst 0, 1) := dk_3 (by decide +kernel)
theorem dX5_setGoal_33 : decode cX5_setGoal 33 = .ok (.aaload, 1) := dk_50 (by decide +kernel)
theorem dX5_setGoal_34 : decode cX5_setGoal 34 = .ok (.lconst 0, 1) := dk_9 (by decide +kernel)
theorem dX5_setGoal_35 : decode cX5_setGoal 35 = .ok (.invokevirtual 184, 3) := dk_182 (by decide +kernel)
theorem dX5_setGoal_38 : decode cX5_setGoal 38 = .ok (.aload_n 0, 1) := dk_42 (by decide +kernel)
theorem dX5_setGoal_39 : decode cX5_setGoal 39 = .ok (.aload_n 0, 1) := dk_42 (by decide +kernel)
theorem dX5_setGoal_40 : decode cX5_setGoal 40 = .ok (.getfield 71, 3) := dk_180 (by decide +kernel)
theorem dX5_setGoal_43 : decode cX5_setGoal 43 = .ok (.iconst 0, 1) := dk_3 (by decide +kernel)
theorem dX5_setGoal_44 : decode cX5_setGoal 44 = .ok (.aaload, 1) := dk_50 (by decide +kernel)
theorem dX5_setGoal_45 : decode cX5_setGoal 45 = .ok (.aload_n 3, 1) := dk_45 (by decide +kernel)
theorem dX5_setGoal_46 : decode cX5_setGoal 46 = .ok (.aload_n 0, 1) := dk_42 (by decide +kernel)
theorem dX5_setGoal_47 : decode cX5_setGoal 47 = .ok (.getfield 32, 3) := dk_180 (by decide +kernel)
theorem dX5_setGoal_50 : decode cX5_setGoal 50 = .ok (.iload_n 1, 1) := dk_27 (by decide +kernel)
theorem dX5_setGoal_51 : decode cX5_setGoal 51 = .ok (.laload, 1) := dk_47 (by decide +kernel)
theorem dX5_setGoal_52 : decode cX5_setGoal 52 = .ok (.invokevirtual 211, 3) := dk_182 (by decide +kernel)
theorem dX5_setGoal_55 : decode cX5_setGoal 55 = .ok (.aload_n 0, 1) := dk_42 (by decide +kernel)
theorem dX5_setGoal_56 : decode cX5_setGoal 56 = .ok (.getfield 68, 3) := dk_180 (by decide +kernel)
theorem dX5_setGoal_59 : decode cX5_setGoal 59 = .ok (.lconst 0, 1) := dk_9 (by decide +kernel)
theorem dX5_setGoal_60 : decode cX5_setGoal 60 = .ok (.invokevirtual 184, 3) := dk_182 (by decide +kernel)
theorem dX5_setGoal_63 : decode cX5_setGoal 63 = .ok (.aload_n 0, 1) := dk_42 (by decide +kernel)
theorem dX5_setGoal_64 : decode cX5_setGoal 64 = .ok (.aload_n 0, 1) := dk_42 (by decide +kernel)
theorem dX5_setGoal_65 : decode cX5_setGoal 65 = .ok (.getfield 68, 3) := dk_180 (by decide +kernel)
theorem dX5_setGoal_68 : decode cX5_setGoal 68 = .ok (.aload_n 0, 1) := dk_42 (by decide +kernel)
theorem dX5_setGoal_69 : decode cX5_setGoal 69 = .ok (.getfield 71, 3) := dk_180 (by decide +kernel)
theorem dX5_setGoal_72 : decode cX5_setGoal 72 = .ok (.iconst 0, 1) := dk_3 (by decide +kernel)
theorem dX5_setGoal_73 : decode cX5_setGoal 73 = .ok (.aaload, 1) := dk_50 (by decide +kernel)
theorem dX5_setGoal_74 : decode cX5_setGoal 74 = .ok (.iload 5, 2) := dk_21 (by decide +kernel)
theorem dX5_setGoal_76 : decode cX5_setGoal 76 = .ok (.i2l, 1) := dk_133 (by decide +kernel)
theorem dX5_setGoal_77 : decode cX5_setGoal 77 = .ok (.invokevirtual 211, 3) := dk_182 (by decide +kernel)
theorem dX5_setGoal_80 : decode cX5_setGoal 80 = .ok (.aload_n 0, 1) := dk_42 (by decide +kernel)
theorem dX5_setGoal_81 : decode cX5_setGoal 81 = .ok (.getfield 65, 3) := dk_180 (by decide +kernel)
theorem dX5_setGoal_84 : decode cX5_setGoal 84 = .ok (.lconst 0, 1) := dk_9 (by decide +kernel)
theorem dX5_setGoal_85 : decode cX5_setGoal 85 = .ok (.invokevirtual 184, 3) := dk_182 (by decide +kernel)
theorem dX5_setGoal_88 : decode cX5_setGoal 88 = .ok (.aload_n 0, 1) := dk_42 (by decide +kernel)
theorem dX5_setGoal_89 : decode cX5_setGoal 89 = .ok (.aload_n 0, 1) := dk_42 (by decide +kernel)
theorem dX5_setGoal_90 : decode cX5_setGoal 90 = .ok (.getfield 65, 3) := dk_180 (by decide +kernel)
theorem dX5_setGoal_93 : decode cX5_setGoal 93 = .ok (.aload_n 2, 1) := dk_44 (by decide +kernel)
theorem dX5_setGoal_94 : decode cX5_setGoal 94 = .ok (.aload_n 0, 1) := dk_42 (by decide +kernel)
theorem dX5_setGoal_95 : decode cX5_setGoal 95 = .ok (.getfield 74, 3) := dk_180 (by decide +kernel)
theorem dX5_setGoal_98 : decode cX5_setGoal 98 = .ok (.getfield 127, 3) := dk_180 (by decide +kernel)
theorem dX5_setGoal_101 : decode cX5_setGoal 101 = .ok (.iload_n 1, 1) := dk_27 (by decide +kernel)
theorem dX5_setGoal_102 : decode cX5_setGoal 102 = .ok (.baload, 1) := dk_51 (by decide +kernel)
theorem dX5_setGoal_103 : decode cX5_setGoal 103 = .ok (.ifCond .eq 10, 3) := dk_153 (by decide +kernel)
theorem dX5_setGoal_106 : decode cX5_setGoal 106 = .ok (.iload 5, 2) := dk_21 (by decide +kernel)
theorem dX5_setGoal_108 : decode cX5_setGoal 108 = .ok (.ineg, 1) := dk_116 (by decide +kernel)
theorem dX5_setGoal_109 : decode cX5_setGoal 109 = .ok (.i2l, 1) := dk_133 (by decide +kernel)
theorem dX5_setGoal_110 : decode cX5_setGoal 110 = .ok (.goto 6, 3) := dk_167 (by decide +kernel)
theorem dX5_setGoal_113 : decode cX5_setGoal 113 = .ok (.iload 5, 2) := dk_21 (by decide +kernel)
theorem dX5_setGoal_115 : decode cX5_setGoal 115 = .ok (.i2l, 1) := dk_133 (by decide +kernel)
theorem dX5_setGoal_116 : decode cX5_setGoal 116 = .ok (.invokevirtual 211, 3) := dk_182 (by decide +kernel)
theorem dX5_setGoal_119 : decode cX5_setGoal 119 = .ok (.aload_n 0, 1) := dk_42 (by decide +kernel)
theorem dX5_setGoal_120 : decode cX5_setGoal 120 = .ok (.aload_n 0, 1) := dk_42 (by decide +kernel)
theorem dX5_setGoal_121 : decode cX5_setGoal 121 = .ok (.getfield 65, 3) := dk_180 (by decide +kernel)
theorem dX5_setGoal_124 : decode cX5_setGoal 124 = .ok (.aload_n 0, 1) := dk_42 (by decide +kernel)
theorem dX5_setGoal_125 : decode cX5_setGoal 125 = .ok (.getfield 71, 3) := dk_180 (by decide +kernel)
theorem dX5_setGoal_128 : decode cX5_setGoal 128 = .ok (.iconst 0, 1) := dk_3 (by decide +kernel)
theorem dX5_setGoal_129 : decode cX5_setGoal 129 = .ok (.aaload, 1) := dk_50 (by decide +kernel)
theorem dX5_setGoal_130 : decode cX5_setGoal 130 = .ok (.iload 4, 2) := dk_21 (by decide +kernel)
theorem dX5_setGoal_132 : decode cX5_setGoal 132 = .ok (.i2l, 1) := dk_133 (by decide +kernel)
theorem dX5_setGoal_133 : decode cX5_setGoal 133 = .ok (.invokevirtual 211, 3) := dk_182 (by decide +kernel)
theorem dX5_setGoal_136 : decode cX5_setGoal 136 = .ok (.return_, 1) := dk_177 (by decide +kernel)
def wsMX5_setGoal : List Cond := .code yX5_setGoal cX5_setGoal 6 none :: ([.fieldLink RX5 74 "OptimaWorks$Solver" "model" "LOptimaWorks$Model;", .fieldLink RX5 124 "OptimaWorks$Model" "goalOver" "[I", .fieldLink RX5 115 "OptimaWorks$Model" "goalUnder" "[I", .fieldLink RX5 71 "OptimaWorks$Solver" "spare" "[LOptimaWorks$Whole;", .fieldLink RX5 32 "OptimaWorks$Solver" "goalScale" "[J", .fieldLink RX5 68 "OptimaWorks$Solver" "bottom" "LOptimaWorks$Whole;", .fieldLink RX5 65 "OptimaWorks$Solver" "top" "LOptimaWorks$Whole;", .fieldLink RX5 127 "OptimaWorks$Model" "goalMax" "[Z"] ++ wsX10 ++ wsX50 ++ (wsV RX5 184 RX8 yX8_setLong wsMX8_setLong) ++ (wsV RX5 211 RX5 yX5_addTimes wsMX5_addTimes))
theorem iwsMX5_setGoal_in1 : ∀ w ∈ wsX10, w ∈ wsMX5_setGoal := fun _ h => List.mem_cons_of_mem _ (List.mem_append_left _ (List.mem_append_left _ (List.mem_append_left _ (List.mem_append_right _ h))))
theorem iwsMX5_setGoal_in5 : ∀ w ∈ wsX50, w ∈ wsMX5_setGoal := fun _ h => List.mem_cons_of_mem _ (List.mem_append_left _ (List.mem_append_left _ (List.mem_append_right _ h)))
theorem gwsMX5_setGoal_0 : GoodIn wsMX5_setGoal (wsV RX5 184 RX8 yX8_setLong wsMX8_setLong) := goodIn_sub (fun _ h => List.mem_cons_of_mem _ (List.mem_append_left _ (List.mem_append_right _ h))) (gdV (by decide +kernel) gdwsMX8_setLong)
theorem gwsMX5_setGoal_1 : GoodIn wsMX5_setGoal (wsV RX5 211 RX5 yX5_addTimes wsMX5_addTimes) := goodIn_sub (fun _ h => List.mem_cons_of_mem _ (List.mem_append_right _ h)) (gdV (by decide +kernel) gdwsMX5_addTimes)
theorem gdwsMX5_setGoal : wsMX5_setGoal.all goodWord = true := gdC rfl (gdA (gdA (gdA (gdA (by decide +kernel : ([.fieldLink RX5 74 "OptimaWorks$Solver" "model" "LOptimaWorks$Model;", .fieldLink RX5 124 "OptimaWorks$Model" "goalOver" "[I", .fieldLink RX5 115 "OptimaWorks$Model" "goalUnder" "[I", .fieldLink RX5 71 "OptimaWorks$Solver" "spare" "[LOptimaWorks$Whole;", .fieldLink RX5 32 "OptimaWorks$Solver" "goalScale" "[J", .fieldLink RX5 68 "OptimaWorks$Solver" "bottom" "LOptimaWorks$Whole;", .fieldLink RX5 65 "OptimaWorks$Solver" "top" "LOptimaWorks$Whole;", .fieldLink RX5 127 "OptimaWorks$Model" "goalMax" "[Z"] : List Cond).all goodWord = true) gdwsX10) gdwsX50) (gdV (by decide +kernel) gdwsMX8_setLong)) (gdV (by decide +kernel) gdwsMX5_addTimes))
theorem hm_m_X5_setGoal_0 : (.fieldLink RX5 74 "OptimaWorks$Solver" "model" "LOptimaWorks$Model;" : Cond) ∈ wsMX5_setGoal := by decide +kernel
theorem hm_m_X5_setGoal_1 : (.fieldLink RX5 71 "OptimaWorks$Solver" "spare" "[LOptimaWorks$Whole;" : Cond) ∈ wsMX5_setGoal := by decide +kernel
theorem hm_m_X5_setGoal_2 : (.fieldLink RX5 68 "OptimaWorks$Solver" "bottom" "LOptimaWorks$Whole;" : Cond) ∈ wsMX5_setGoal := by decide +kernel
theorem hm_m_X5_setGoal_3 : (.fieldLink RX5 65 "OptimaWorks$Solver" "top" "LOptimaWorks$Whole;" : Cond) ∈ wsMX5_setGoal := by decide +kernel
set_option maxHeartbeats 4000000 in
set_option maxRecDepth 100000 in
/-- a goal is told -/
theorem m_X5_setGoal (l : Launch) (dC : Nat → ClassId) (dI : Nat → Nat → Nat) (hO : Nat → Nat) (aO : Nat → Nat) (kO : Nat → ClassId) (hM : Nat → Nat) (hQ : Nat → Nat) (hw : Nat → Nat) (iO_answered : Int32) (iO_searched : Int32) (iO_searchedRelaxed : Int32) (iO_counted : Int32) (fO_countedCase : Nat → Int32) (gO_goalNumber : Nat → Int64) (gO_goalScale : Nat → Int64) (fO_start : Nat → Int32) (fO_column : Nat → Int32) (fO_chosen : Nat → Int32) (aM : Nat → Nat) (kM : Nat → ClassId) (iM_stands : Int32) (iM_variables : Int32) (iM_rows : Int32) (iM_goals : Int32) (iM_differents : Int32) (iM_cases : Int32) (fM_from : Nat → Int32) (fM_to : Nat → Int32) (fM_whole : Nat → Int32) (fM_ways : Nat → Int32) (iM_plainRows : Int32) (fM_plainRow : Nat → Int32) (fM_kept : Nat → Int32) (fM_goalOver : Nat → Int32) (fM_goalUnder : Nat → Int32) (fM_goalMax : Nat → Int32) (fM_different : Nat → Int32) (aQ : Nat → Nat) (kQ : Nat → ClassId) (fQ_inside : Nat → Int32) (fQ_outside : Nat → Int32) (fQ_shut : Nat → Int32) (iQ_rows : Int32) (iQ_allRows : Int32) (iQ_columns : Int32) (nW : Nat) (lw : Nat → Nat) (kw : ClassId) (wl : Nat → Int32) (wb : Nat → Int32) (wG : Nat → Nat → Int64) (ka : Nat) (kb : Nat) (p1 : Int32) (b_iO_answered : 0 ≤ iO_answered.toInt ∧ iO_answered.toInt ≤ 1) (b_iO_searched : 0 ≤ iO_searched.toInt ∧ iO_searched.toInt ≤ 1) (b_iO_searchedRelaxed : 0 ≤ iO_searchedRelaxed.toInt ∧ iO_searchedRelaxed.toInt ≤ 1) (b_iO_counted : (-1) ≤ iO_counted.toInt ∧ iO_counted.toInt ≤ 64) (b_fO_countedCase : ∀ q : Nat, 0 ≤ (fO_countedCase q).toInt ∧ (fO_countedCase q).toInt ≤ 200000) (b_fO_column : ∀ q : Nat, (-1) ≤ (fO_column q).toInt ∧ (fO_column q).toInt ≤ 8) (b_fO_chosen : ∀ q : Nat, 0 ≤ (fO_chosen q).toInt ∧ (fO_chosen q).toInt ≤ 2) (b_iM_stands : 0 ≤ iM_stands.toInt ∧ iM_stands.toInt ≤ 1) (b_iM_variables : 0 ≤ iM_variables.toInt ∧ iM_variables.toInt ≤ 8) (b_iM_rows : 0 ≤ iM_rows.toInt ∧ iM_rows.toInt ≤ 12) (b_iM_goals : 0 ≤ iM_goals.toInt ∧ iM_goals.toInt ≤ 3) (b_iM_differents : 0 ≤ iM_differents.toInt ∧ iM_differents.toInt ≤ 8) (b_iM_cases : 0 ≤ iM_cases.toInt ∧ iM_cases.toInt ≤ 200000) (b_fM_ways : ∀ q : Nat, 0 ≤ (fM_ways q).toInt ∧ (fM_ways q).toInt ≤ 3) (b_iM_plainRows : 0 ≤ iM_plainRows.toInt ∧ iM_plainRows.toInt ≤ 12) (b_fM_plainRow : ∀ q : Nat, 0 ≤ (fM_plainRow q).toInt ∧ (fM_plainRow q).toInt ≤ 11) (b_pr : iM_plainRows.toInt ≤ iM_rows.toInt) (b_iQ_rows : 0 ≤ iQ_rows.toInt ∧ iQ_rows.toInt ≤ 40) (b_iQ_allRows : 0 ≤ iQ_allRows.toInt ∧ iQ_allRows.toInt ≤ 40) (b_iQ_columns : 0 ≤ iQ_columns.toInt ∧ iQ_columns.toInt ≤ 40) (b_tb : TbO iQ_rows iQ_allRows iQ_columns) (b_wl : ∀ q : Nat, 0 ≤ (wl q).toInt ∧ (wl q).toInt ≤ 14) (b_wb : ∀ q : Nat, 0 ≤ (wb q).toInt ∧ (wb q).toInt ≤ 1) (b_p1 : 0 ≤ p1.toInt ∧ p1.toInt ≤ 2) (hnW : 432 ≤ nW) (hka : ka < nW) (hkb : kb < nW) (sz : Nat) : Met l yX5_setGoal wsMX5_setGoal ({ frames := 4, cells := 0, slots := 0, locals := 85 }) (va_Pc [.ref (hO 0), .int p1, .ref (hw ka), .ref (hw kb)] (fun U => U.heap.size = sz ∧ va_P (dC, dI) vwCl (WO hO aO kO hM hQ hw iO_answered iO_searched iO_searchedRelaxed iO_counted fO_countedCase gO_goalNumber gO_goalScale fO_start fO_column fO_chosen ++ (WM hM aM kM iM_stands iM_variables iM_rows iM_goals iM_differents iM_cases fM_from fM_to fM_whole fM_ways iM_plainRows fM_plainRow fM_kept fM_goalOver fM_goalUnder fM_goalMax fM_different ++ (WQ hQ aQ kQ hw fQ_inside fQ_outside fQ_shut iQ_rows iQ_allRows iQ_columns ++ (WW nW hw lw kw wl wb wG)))) U.heap ∧ va_K (dC, dI) vwCl (tO kO ++ (tM kM ++ (tQ kQ ++ (tW kw)))) U ∧ va_D (fun _ => True) (WO hO aO kO hM hQ hw iO_answered iO_searched iO_searchedRelaxed iO_counted fO_countedCase gO_goalNumber gO_goalScale fO_start fO_column fO_chosen ++ (WM hM aM kM iM_stands iM_variables iM_rows iM_goals iM_differents iM_cases fM_from fM_to fM_whole fM_ways iM_plainRows fM_plainRow fM_kept fM_goalOver fM_goalUnder fM_goalMax fM_different ++ (WQ hQ aQ kQ hw fQ_inside fQ_outside fQ_shut iQ_rows iQ_allRows iQ_columns ++ (WW nW hw lw kw wl wb wG)))))) (va_Qv (fun (u : (Nat → Int32) × (Nat → Int32) × (Nat → Nat → Int64)) => (∀ q : Nat, 0 ≤ ((u.1) q).toInt ∧ ((u.1) q).toInt ≤ 14) ∧ (∀ q : Nat, 0 ≤ ((u.2.1) q).toInt ∧ ((u.2.1) q).toInt ≤ 1)) (fun (u : (Nat → Int32) × (Nat → Int32) × (Nat → Nat → Int64)) t => va_P (dC, dI) vwCl (WO hO aO kO hM hQ hw iO_answered iO_searched iO_searchedRelaxed iO_counted fO_countedCase gO_goalNumber gO_goalScale fO_start fO_column fO_chosen ++ (WM hM aM kM iM_stands iM_variables iM_rows iM_goals iM_differents iM_cases fM_from fM_to fM_whole fM_ways iM_plainRows fM_plainRow fM_kept fM_goalOver fM_goalUnder fM_goalMax fM_different ++ (WQ hQ aQ kQ hw fQ_inside fQ_outside fQ_shut iQ_rows iQ_allRows iQ_columns ++ (WW nW hw lw kw (u.1) (u.2.1) (u.2.2))))) t.heap ∧ va_D (va_A (WO hO aO kO hM hQ hw iO_answered iO_searched iO_searchedRelaxed iO_counted fO_countedCase gO_goalNumber gO_goalScale fO_start fO_column fO_chosen ++ (WM hM aM kM iM_stands iM_variables iM_rows iM_goals iM_differents iM_cases fM_from fM_to fM_whole fM_ways iM_plainRows fM_plainRow fM_kept fM_goalOver fM_goalUnder fM_goalMax fM_different ++ (WQ hQ aQ kQ hw fQ_inside fQ_outside fQ_shut iQ_rows iQ_allRows iQ_columns ++ (WW nW hw lw kw wl wb wG)))) sz) (WO hO aO kO hM hQ hw iO_answered iO_searched iO_searchedRelaxed iO_counted fO_countedCase gO_goalNumber gO_goalScale fO_start fO_column fO_chosen ++ (WM hM aM kM iM_stands iM_variables iM_rows iM_goals iM_differents iM_cases fM_from fM_to fM_whole fM_ways iM_plainRows fM_plainRow fM_kept fM_goalOver fM_goalUnder fM_goalMax fM_different ++ (WQ hQ aQ kQ hw fQ_inside fQ_outside fQ_shut iQ_rows iQ_allRows iQ_columns ++ (WW nW hw lw kw (u.1) (u.2.1) (u.2.2)))))) (va_A (WO hO aO kO hM hQ hw iO_answered iO_searched iO_searchedRelaxed iO_counted fO_countedCase gO_goalNumber gO_goalScale fO_start fO_column fO_chosen ++ (WM hM aM kM iM_stands iM_variables iM_rows iM_goals iM_differents iM_cases fM_from fM_to fM_whole fM_ways iM_plainRows fM_plainRow fM_kept fM_goalOver fM_goalUnder fM_goalMax fM_different ++ (WQ hQ aQ kQ hw fQ_inside fQ_outside fQ_shut iQ_rows iQ_allRows iQ_columns ++ (WW nW hw lw kw wl wb wG)))) sz)) 0 0 (va_A (WO hO aO kO hM hQ hw iO_answered iO_searched iO_searchedRelaxed iO_counted fO_countedCase gO_goalNumber gO_goalScale fO_start fO_column fO_chosen ++ (WM hM aM kM iM_stands iM_variables iM_rows iM_goals iM_differents iM_cases fM_from fM_to fM_whole fM_ways iM_plainRows fM_plainRow fM_kept fM_goalOver fM_goalUnder fM_goalMax fM_different ++ (WQ hQ aQ kQ hw fQ_inside fQ_outside fQ_shut iQ_rows iQ_allRows iQ_columns ++ (WW nW hw lw kw wl wb wG)))) sz) := by
  refine Met.ofW (cc := cX5_setGoal) (maxL := 6) (ret := none) (by decide) rfl ?_
  intro p e s m args below meth c s₁ B hml hv
  obtain ⟨rfl, hsz, hP, hK, hD0⟩ := hv
  have hx := B.exec
  have hb := B.bytes
  have hr := B.returns
  have hts := atoms_spec (ws := wsMX5_setGoal) B.pre
  have hown : s.vm.findClass RX5 = some m.cls := findClass_of_methodNamed B.named
  have hlocks := B.notSynchronized
  subst hsz
  have hD := hD0.self (sz := s.heap.size)
  generalize hAe : va_A (WO hO aO kO hM hQ hw iO_answered iO_searched iO_searchedRelaxed iO_counted fO_countedCase gO_goalNumber gO_goalScale fO_start fO_column fO_chosen ++ (WM hM aM kM iM_stands iM_variables iM_rows iM_goals iM_differents iM_cases fM_from fM_to fM_whole fM_ways iM_plainRows fM_plainRow fM_kept fM_goalOver fM_goalUnder fM_goalMax fM_different ++ (WQ hQ aQ kQ hw fQ_inside fQ_outside fQ_shut iQ_rows iQ_allRows iQ_columns ++ (WW nW hw lw kw wl wb wG)))) s.heap.size = A at hD ⊢
  have hA : ∀ q : Nat, s.heap.size ≤ q → A q := fun q h => by rw [← hAe]; exact Or.inr h
  have hS : va_S A s.heap s.heap [] := va_S.rf
  have hl := lv_entry ([.ref (hO 0), .int p1, .ref (hw ka), .ref (hw kb)]) (n := 6) (Nat.le_of_ble_eq_true rfl)
  rw [lg_entry_eq]
  generalize (lg_sl ([.ref (hO 0), .int p1, .ref (hw ka), .ref (hw kb)]) ++ List.replicate (6 - (lg_sl ([.ref (hO 0), .int p1, .ref (hw ka), .ref (hw kb)])).length) Slot.unset).toArray = ls at hl ⊢
  have hl : lv_has ls 6 [(0, .ref (hO 0)), (1, .int p1), (2, .ref (hw ka)), (3, .ref (hw kb))] := hl
  refine lv_aload_n hx hb dX5_setGoal_0 rfl (lv_at hl 0 rfl) ?_
  refine va_get (D := (dC, dI)) (ci := 5) (v := .ref (hM 0)) (C := RX5) (T := TX5) (N := 19) hx hb hts iwsMX5_setGoal_in5 hown hK hP 0 rfl rfl 0 (by decide) (hts _ hm_m_X5_setGoal_0) (fun _ h9 => h9) rfl dX5_setGoal_1 ?_
  refine va_get (D := (dC, dI)) (ci := 1) (v := .ref (aM 6)) (C := RX1) (T := TX1) (N := 17) hx hb hts iwsMX5_setGoal_in1 hown hK hP 11 rfl rfl 13 (by decide) (hts (.fieldLink RX5 124 "OptimaWorks$Model" "goalOver" "[I") (by decide +kernel)) (fun _ h9 => h9) rfl dX5_setGoal_4 ?_
  refine lv_iload_n hx hb dX5_setGoal_7 rfl (lv_at hl 1 rfl) ?_
  refine lv_bipush (v := 9) hx hb dX5_setGoal_8 (by decide) ?_
  refine lv_imul hx hb dX5_setGoal_10 ?_
  refine lv_topi (fun y1 hy1 => ?_)
  obtain rfl : (iI (p1.toInt * 9)) = y1 := (hy1.trans (iI_mul2 (iI_of _) (by decide : (9 : Int32) = iI 9))).symm
  refine va_iald (cA := kM 6) (n := 27) (f := fM_goalOver) hx hb hK hP 18 16 rfl rfl (vp_iI (Int.le_trans (by decide) (Int.mul_le_mul_of_nonneg_right (b_p1.1) (by decide))) (Int.lt_of_le_of_lt (Int.mul_le_mul_of_nonneg_right (b_p1.2) (by decide)) (by decide)) (by decide)) dX5_setGoal_11 ?_
  refine lv_topi (fun v2 hv2 => ?_)
  clear hv2
  refine lv_istore hx hb dX5_setGoal_12 hl (by decide) rfl (fun ls (hl : lv_has ls _ ([(4, .int v2), (0, .ref (hO 0)), (1, .int p1), (2, .ref (hw ka)), (3, .ref (hw kb))])) => ?_)
  refine lv_aload_n hx hb dX5_setGoal_14 rfl (lv_at hl 1 rfl) ?_
  refine va_get (D := (dC, dI)) (ci := 5) (v := .ref (hM 0)) (C := RX5) (T := TX5) (N := 19) hx hb hts iwsMX5_setGoal_in5 hown hK hP 0 rfl rfl 0 (by decide) (hts _ hm_m_X5_setGoal_0) (fun _ h9 => h9) rfl dX5_setGoal_15 ?_
  refine va_get (D := (dC, dI)) (ci := 1) (v := .ref (aM 7)) (C := RX1) (T := TX1) (N := 17) hx hb hts iwsMX5_setGoal_in1 hown hK hP 11 rfl rfl 14 (by decide) (hts (.fieldLink RX5 115 "OptimaWorks$Model" "goalUnder" "[I") (by decide +kernel)) (fun _ h9 => h9) rfl dX5_setGoal_18 ?_
  refine lv_iload_n hx hb dX5_setGoal_21 rfl (lv_at hl 2 rfl) ?_
  refine lv_bipush (v := 9) hx hb dX5_setGoal_22 (by decide) ?_
  refine lv_imul hx hb dX5_setGoal_24 ?_
  refine lv_topi (fun y3 hy3 => ?_)
  obtain rfl : (iI (p1.toInt * 9)) = y3 := (hy3.trans (iI_mul2 (iI_of _) (by decide : (9 : Int32) = iI 9))).symm
  refine va_iald (cA := kM 7) (n := 27) (f := fM_goalUnder) hx hb hK hP 19 17 rfl rfl (vp_iI (Int.le_trans (by decide) (Int.mul_le_mul_of_nonneg_right (b_p1.1) (by decide))) (Int.lt_of_le_of_lt (Int.mul_le_mul_of_nonneg_right (b_p1.2) (by decide)) (by decide)) (by decide)) dX5_setGoal_25 ?_
  refine lv_topi (fun v4 hv4 => ?_)
  clear hv4
  refine lv_istore hx hb dX5_setGoal_26 hl (by decide) rfl (fun ls (hl : lv_has ls _ ([(5, .int v4), (4, .int v2), (0, .ref (hO 0)), (1, .int p1), (2, .ref (hw ka)), (3, .ref (hw kb))])) => ?_)
  refine lv_aload_n hx hb dX5_setGoal_28 rfl (lv_at hl 2 rfl) ?_
  refine va_get (D := (dC, dI)) (ci := 5) (v := .ref (aO 9)) (C := RX5) (T := TX5) (N := 19) hx hb hts iwsMX5_setGoal_in5 hown hK hP 0 rfl rfl 18 (by decide) (hts _ hm_m_X5_setGoal_1) (fun _ h9 => h9) rfl dX5_setGoal_29 ?_
  refine lv_iconst (v := 0) hx hb dX5_setGoal_32 (by decide) ?_
  refine va_aldq (cA := kO 9) (n := 4) (f := fun q => some (hw (428 + q))) hx hb hK hP 10 9 rfl rfl (show ¬ ((0 : Int32) < 0 ∨ 4 ≤ (0 : Int32).toNatClampNeg) by decide) dX5_setGoal_33 ?_
  obtain ⟨k5, hk5, b_k5⟩ : ∃ k9 : Nat, k9 = 428 + (0 : Int32).toNatClampNeg ∧ (428 ≤ k9 ∧ k9 < 432 ∧ (k9 : Int) = 428 + 0) := ⟨_, rfl, ald_k (x := (0 : Int32)) (o := 428) (n := 4) (by decide : (0 : Int32).toInt = 0) (by omega) (by omega)⟩
  refine W.eq (g2 := F0 m 34 ls [.ref (hw k5)]) (by rw [hk5]; rfl) ?_
  clear hk5
  refine lv_lconst (v := 0) hx hb dX5_setGoal_34 (by decide) ?_
  have p9 := cj_4_3 (WO hO aO kO hM hQ hw iO_answered iO_searched iO_searchedRelaxed iO_counted fO_countedCase gO_goalNumber gO_goalScale fO_start fO_column fO_chosen) (WM hM aM kM iM_stands iM_variables iM_rows iM_goals iM_differents iM_cases fM_from fM_to fM_whole fM_ways iM_plainRows fM_plainRow fM_kept fM_goalOver fM_goalUnder fM_goalMax fM_different) (WQ hQ aQ kQ hw fQ_inside fQ_outside fQ_shut iQ_rows iQ_allRows iQ_columns) (WW nW hw lw kw wl wb wG)
  have hPc := hP.mem (fun q h => p9.mem_iff.mpr (List.mem_append_left _ h))
  have hDc := (hD.perm p9).left
  have hKc : va_K (dC, dI) vwCl (tW kw) _ := hK.sub [24] rfl
  have hFc := freeG p9 hD hS hA
  refine va_callv (va_runV (As := [.long 0]) (rest := []) ⟨hx, hb, hml, hown, hts⟩ (m_X8_setLong l dC dI nW hw lw kw wl wb wG k5 0 b_wl b_wb (by first | with_reducible assumption | omega | (rw [iI_t (by omega) (by omega)]; omega) | decide | assumption) s.heap.size) (cwV 1 hts gwsMX5_setGoal_0 rfl rfl rfl hd_yX8_setLong_RX8 (by decide +kernel)) (fz_pre (va_recv hK hP (ci := 8) (q0 := 11 + (11 + (5 + (k5)))) rfl (apR rfl (apR rfl (apR rfl (WW_o (by omega)))))) hPc hKc hDc) rfl rfl hl.1 rfl (lv_room (Nat.le_of_ble_eq_true rfl)) dX5_setGoal_35 (by decide +kernel)) hS (fun q _ h => hFc q h) hFc (fun u t9_ H locs ht hvm hw9 hB9 hz1 hk1 hS => ?_)
  revert u hw9 hB9
  refine fz_p3 ?_
  intro wl_6 wb_6 wG_6 hw9 hB9
  try dsimp only at hw9 hB9
  revert hw9
  refine fz_a2 ?_
  intro b_wl_6 b_wb_6
  have p8 := cj_4_3 (WO hO aO kO hM hQ hw iO_answered iO_searched iO_searchedRelaxed iO_counted fO_countedCase gO_goalNumber gO_goalScale fO_start fO_column fO_chosen) (WM hM aM kM iM_stands iM_variables iM_rows iM_goals iM_differents iM_cases fM_from fM_to fM_whole fM_ways iM_plainRows fM_plainRow fM_kept fM_goalOver fM_goalUnder fM_goalMax fM_different) (WQ hQ aQ kQ hw fQ_inside fQ_outside fQ_shut iQ_rows iQ_allRows iQ_columns) (WW nW hw lw kw wl_6 wb_6 wG_6)
  obtain ⟨hP, hD⟩ := frameG p9 p8 hP hD hk1 hFc (fz_P ht hB9.1) hB9.2
  refine lv_aload_n hx hb dX5_setGoal_38 rfl (lv_at hl 2 rfl) ?_
  refine lv_aload_n hx hb dX5_setGoal_39 rfl (lv_at hl 2 rfl) ?_
  refine va_get (D := (dC, dI)) (ci := 5) (v := .ref (aO 9)) (C := RX5) (T := TX5) (N := 19) hx hb hts iwsMX5_setGoal_in5 hown hK hP 0 rfl rfl 18 (by decide) (hts _ hm_m_X5_setGoal_1) (fun _ h9 => h9) rfl dX5_setGoal_40 ?_
  refine lv_iconst (v := 0) hx hb dX5_setGoal_43 (by decide) ?_
  refine va_aldq (cA := kO 9) (n := 4) (f := fun q => some (hw (428 + q))) hx hb hK hP 10 9 rfl rfl (show ¬ ((0 : Int32) < 0 ∨ 4 ≤ (0 : Int32).toNatClampNeg) by decide) dX5_setGoal_44 ?_
  obtain ⟨k7, hk7, b_k7⟩ : ∃ k9 : Nat, k9 = 428 + (0 : Int32).toNatClampNeg ∧ (428 ≤ k9 ∧ k9 < 432 ∧ (k9 : Int) = 428 + 0) := ⟨_, rfl, ald_k (x := (0 : Int32)) (o := 428) (n := 4) (by decide : (0 : Int32).toInt = 0) (by omega) (by omega)⟩
  refine W.eq (g2 := F0 m 45 ls [.ref (hw k7), .ref (hO 0)]) (by rw [hk7]; rfl) ?_
  clear hk7
  refine lv_aload_n hx hb dX5_setGoal_45 rfl (lv_at hl 5 rfl) ?_
  refine lv_aload_n hx hb dX5_setGoal_46 rfl (lv_at hl 2 rfl) ?_
  refine va_get (D := (dC, dI)) (ci := 5) (v := .ref (aO 2)) (C := RX5) (T := TX5) (N := 19) hx hb hts iwsMX5_setGoal_in5 hown hK hP 0 rfl rfl 8 (by decide) (hts (.fieldLink RX5 32 "OptimaWorks$Solver" "goalScale" "[J") (by decide +kernel)) (fun _ h9 => h9) rfl dX5_setGoal_47 ?_
  refine lv_iload_n hx hb dX5_setGoal_50 rfl (lv_at hl 3 rfl) ?_
  refine va_lald (cA := kO 2) (n := 3) (f := gO_goalScale) hx hb hK hP 3 2 rfl rfl (vp_in_iff.mpr ⟨b_p1.1, (Int.lt_of_le_of_lt (b_p1.2) (by decide))⟩) dX5_setGoal_51 ?_
  refine lv_topl (fun v8 hv8 => ?_)
  clear hv8
  have hFc := allFree hD hS hA
  refine va_callv (va_runV (As := [.ref (hw k7), .ref (hw kb), .long v8]) (rest := []) ⟨hx, hb, hml, hown, hts⟩ (m_X5_addTimes l dC dI hO aO kO hM hQ hw iO_answered iO_searched iO_searchedRelaxed iO_counted fO_countedCase gO_goalNumber gO_goalScale fO_start fO_column fO_chosen aM kM iM_stands iM_variables iM_rows iM_goals iM_differents iM_cases fM_from fM_to fM_whole fM_ways iM_plainRows fM_plainRow fM_kept fM_goalOver fM_goalUnder fM_goalMax fM_different aQ kQ fQ_inside fQ_outside fQ_shut iQ_rows iQ_allRows iQ_columns nW lw kw wl_6 wb_6 wG_6 k7 kb v8 (b_iO_answered) (b_iO_searched) (b_iO_searchedRelaxed) (b_iO_counted) b_fO_countedCase b_fO_column b_fO_chosen (b_iM_stands) (b_iM_variables) (b_iM_rows) (b_iM_goals) (b_iM_differents) (b_iM_cases) b_fM_ways (b_iM_plainRows) b_fM_plainRow (by first | with_reducible assumption | omega | assumption) (b_iQ_rows) (b_iQ_allRows) (b_iQ_columns) (by first | with_reducible assumption | omega | assumption) b_wl_6 b_wb_6 (by omega) (by first | with_reducible assumption | omega | (rw [iI_t (by omega) (by omega)]; omega) | decide | assumption) (by first | with_reducible assumption | omega | (rw [iI_t (by omega) (by omega)]; omega) | decide | assumption) H.size) (cwV 3 hts gwsMX5_setGoal_1 rfl rfl rfl hd_yX5_addTimes_RX5 (by decide +kernel)) (fz_pre (va_recv hK hP (ci := 5) (q0 := 0) rfl rfl) hP hK hD) rfl rfl hl.1 rfl (lv_room (Nat.le_of_ble_eq_true rfl)) dX5_setGoal_52 (by decide +kernel)) hS (fun q _ h => hFc q h) hFc (fun u t9_ H locs ht hvm hw9 hB9 hz1 hk1 hS => ?_)
  revert u hw9 hB9
  refine fz_p3 ?_
  intro wl_9 wb_9 wG_9 hw9 hB9
  try dsimp only at hw9 hB9
  revert hw9
  refine fz_a2 ?_
  intro b_wl_9 b_wb_9
  have hP : va_P (dC, dI) vwCl (WO hO aO kO hM hQ hw iO_answered iO_searched iO_searchedRelaxed iO_counted fO_countedCase gO_goalNumber gO_goalScale fO_start fO_column fO_chosen ++ (WM hM aM kM iM_stands iM_variables iM_rows iM_goals iM_differents iM_cases fM_from fM_to fM_whole fM_ways iM_plainRows fM_plainRow fM_kept fM_goalOver fM_goalUnder fM_goalMax fM_different ++ (WQ hQ aQ kQ hw fQ_inside fQ_outside fQ_shut iQ_rows iQ_allRows iQ_columns ++ (WW nW hw lw kw wl_9 wb_9 wG_9)))) H := fz_P ht hB9.1
  have hD := fz_sd hP (hB9.2.weaken (fun _ q _ h => hFc q.1 h)) rfl
  refine lv_aload_n hx hb dX5_setGoal_55 rfl (lv_at hl 2 rfl) ?_
  refine va_get (D := (dC, dI)) (ci := 5) (v := .ref (hw 427)) (C := RX5) (T := TX5) (N := 19) hx hb hts iwsMX5_setGoal_in5 hown hK hP 0 rfl rfl 17 (by decide) (hts _ hm_m_X5_setGoal_2) (fun _ h9 => h9) rfl dX5_setGoal_56 ?_
  refine lv_lconst (v := 0) hx hb dX5_setGoal_59 (by decide) ?_
  have p9 := cj_4_3 (WO hO aO kO hM hQ hw iO_answered iO_searched iO_searchedRelaxed iO_counted fO_countedCase gO_goalNumber gO_goalScale fO_start fO_column fO_chosen) (WM hM aM kM iM_stands iM_variables iM_rows iM_goals iM_differents iM_cases fM_from fM_to fM_whole fM_ways iM_plainRows fM_plainRow fM_kept fM_goalOver fM_goalUnder fM_goalMax fM_different) (WQ hQ aQ kQ hw fQ_inside fQ_outside fQ_shut iQ_rows iQ_allRows iQ_columns) (WW nW hw lw kw wl_9 wb_9 wG_9)
  have hPc := hP.mem (fun q h => p9.mem_iff.mpr (List.mem_append_left _ h))
  have hDc := (hD.perm p9).left
  have hKc : va_K (dC, dI) vwCl (tW kw) _ := hK.sub [24] rfl
  have hFc := freeG p9 hD hS hA
  refine va_callv (va_runV (As := [.long 0]) (rest := []) ⟨hx, hb, hml, hown, hts⟩ (m_X8_setLong l dC dI nW hw lw kw wl_9 wb_9 wG_9 427 0 b_wl_9 b_wb_9 (by first | with_reducible assumption | omega | (rw [iI_t (by omega) (by omega)]; omega) | decide | assumption) H.size) (cwV 1 hts gwsMX5_setGoal_0 rfl rfl rfl hd_yX8_setLong_RX8 (by decide +kernel)) (fz_pre (va_recv hK hP (ci := 8) (q0 := 11 + (11 + (5 + (427)))) rfl (apR rfl (apR rfl (apR rfl (WW_o (by omega)))))) hPc hKc hDc) rfl rfl hl.1 rfl (lv_room (Nat.le_of_ble_eq_true rfl)) dX5_setGoal_60 (by decide +kernel)) hS (fun q _ h => hFc q h) hFc (fun u t9_ H locs ht hvm hw9 hB9 hz1 hk1 hS => ?_)
  revert u hw9 hB9
  refine fz_p3 ?_
  intro wl_10 wb_10 wG_10 hw9 hB9
  try dsimp only at hw9 hB9
  revert hw9
  refine fz_a2 ?_
  intro b_wl_10 b_wb_10
  have p8 := cj_4_3 (WO hO aO kO hM hQ hw iO_answered iO_searched iO_searchedRelaxed iO_counted fO_countedCase gO_goalNumber gO_goalScale fO_start fO_column fO_chosen) (WM hM aM kM iM_stands iM_variables iM_rows iM_goals iM_differents iM_cases fM_from fM_to fM_whole fM_ways iM_plainRows fM_plainRow fM_kept fM_goalOver fM_goalUnder fM_goalMax fM_different) (WQ hQ aQ kQ hw fQ_inside fQ_outside fQ_shut iQ_rows iQ_allRows iQ_columns) (WW nW hw lw kw wl_10 wb_10 wG_10)
  obtain ⟨hP, hD⟩ := frameG p9 p8 hP hD hk1 hFc (fz_P ht hB9.1) hB9.2
  refine lv_aload_n hx hb dX5_setGoal_63 rfl (lv_at hl 2 rfl) ?_
  refine lv_aload_n hx hb dX5_setGoal_64 rfl (lv_at hl 2 rfl) ?_
  refine va_get (D := (dC, dI)) (ci := 5) (v := .ref (hw 427)) (C := RX5) (T := TX5) (N := 19) hx hb hts iwsMX5_setGoal_in5 hown hK hP 0 rfl rfl 17 (by decide) (hts _ hm_m_X5_setGoal_2) (fun _ h9 => h9) rfl dX5_setGoal_65 ?_
  refine lv_aload_n hx hb dX5_setGoal_68 rfl (lv_at hl 2 rfl) ?_
  refine va_get (D := (dC, dI)) (ci := 5) (v := .ref (aO 9)) (C := RX5) (T := TX5) (N := 19) hx hb hts iwsMX5_setGoal_in5 hown hK hP 0 rfl rfl 18 (by decide) (hts _ hm_m_X5_setGoal_1) (fun _ h9 => h9) rfl dX5_setGoal_69 ?_
  refine lv_iconst (v := 0) hx hb dX5_setGoal_72 (by decide) ?_
  refine va_aldq (cA := kO 9) (n := 4) (f := fun q => some (hw (428 + q))) hx hb hK hP 10 9 rfl rfl (show ¬ ((0 : Int32) < 0 ∨ 4 ≤ (0 : Int32).toNatClampNeg) by decide) dX5_setGoal_73 ?_
  obtain ⟨k11, hk11, b_k11⟩ : ∃ k9 : Nat, k9 = 428 + (0 : Int32).toNatClampNeg ∧ (428 ≤ k9 ∧ k9 < 432 ∧ (k9 : Int) = 428 + 0) := ⟨_, rfl, ald_k (x := (0 : Int32)) (o := 428) (n := 4) (by decide : (0 : Int32).toInt = 0) (by omega) (by omega)⟩
  refine W.eq (g2 := F0 m 74 ls [.ref (hw k11), .ref (hw 427), .ref (hO 0)]) (by rw [hk11]; rfl) ?_
  clear hk11
  refine lv_iload hx hb dX5_setGoal_74 (lv_at hl 0 rfl) ?_
  refine lv_i2l hx hb dX5_setGoal_76 rfl ?_
  refine lv_topl (fun v12 hv12 => ?_)
  clear hv12
  have hFc := allFree hD hS hA
  refine va_callv (va_runV (As := [.ref (hw 427), .ref (hw k11), .long v12]) (rest := []) ⟨hx, hb, hml, hown, hts⟩ (m_X5_addTimes l dC dI hO aO kO hM hQ hw iO_answered iO_searched iO_searchedRelaxed iO_counted fO_countedCase gO_goalNumber gO_goalScale fO_start fO_column fO_chosen aM kM iM_stands iM_variables iM_rows iM_goals iM_differents iM_cases fM_from fM_to fM_whole fM_ways iM_plainRows fM_plainRow fM_kept fM_goalOver fM_goalUnder fM_goalMax fM_different aQ kQ fQ_inside fQ_outside fQ_shut iQ_rows iQ_allRows iQ_columns nW lw kw wl_10 wb_10 wG_10 427 k11 v12 (b_iO_answered) (b_iO_searched) (b_iO_searchedRelaxed) (b_iO_counted) b_fO_countedCase b_fO_column b_fO_chosen (b_iM_stands) (b_iM_variables) (b_iM_rows) (b_iM_goals) (b_iM_differents) (b_iM_cases) b_fM_ways (b_iM_plainRows) b_fM_plainRow (by first | with_reducible assumption | omega | assumption) (b_iQ_rows) (b_iQ_allRows) (b_iQ_columns) (by first | with_reducible assumption | omega | assumption) b_wl_10 b_wb_10 (by omega) (by first | with_reducible assumption | omega | (rw [iI_t (by omega) (by omega)]; omega) | decide | assumption) (by first | with_reducible assumption | omega | (rw [iI_t (by omega) (by omega)]; omega) | decide | assumption) H.size) (cwV 3 hts gwsMX5_setGoal_1 rfl rfl rfl hd_yX5_addTimes_RX5 (by decide +kernel)) (fz_pre (va_recv hK hP (ci := 5) (q0 := 0) rfl rfl) hP hK hD) rfl rfl hl.1 rfl (lv_room (Nat.le_of_ble_eq_true rfl)) dX5_setGoal_77 (by decide +kernel)) hS (fun q _ h => hFc q h) hFc (fun u t9_ H locs ht hvm hw9 hB9 hz1 hk1 hS => ?_)
  revert u hw9 hB9
  refine fz_p3 ?_
  intro wl_13 wb_13 wG_13 hw9 hB9
  try dsimp only at hw9 hB9
  revert hw9
  refine fz_a2 ?_
  intro b_wl_13 b_wb_13
  have hP : va_P (dC, dI) vwCl (WO hO aO kO hM hQ hw iO_answered iO_searched iO_searchedRelaxed iO_counted fO_countedCase gO_goalNumber gO_goalScale fO_start fO_column fO_chosen ++ (WM hM aM kM iM_stands iM_variables iM_rows iM_goals iM_differents iM_cases fM_from fM_to fM_whole fM_ways iM_plainRows fM_plainRow fM_kept fM_goalOver fM_goalUnder fM_goalMax fM_different ++ (WQ hQ aQ kQ hw fQ_inside fQ_outside fQ_shut iQ_rows iQ_allRows iQ_columns ++ (WW nW hw lw kw wl_13 wb_13 wG_13)))) H := fz_P ht hB9.1
  have hD := fz_sd hP (hB9.2.weaken (fun _ q _ h => hFc q.1 h)) rfl
  refine lv_aload_n hx hb dX5_setGoal_80 rfl (lv_at hl 2 rfl) ?_
  refine va_get (D := (dC, dI)) (ci := 5) (v := .ref (hw 426)) (C := RX5) (T := TX5) (N := 19) hx hb hts iwsMX5_setGoal_in5 hown hK hP 0 rfl rfl 16 (by decide) (hts _ hm_m_X5_setGoal_3) (fun _ h9 => h9) rfl dX5_setGoal_81 ?_
  refine lv_lconst (v := 0) hx hb dX5_setGoal_84 (by decide) ?_
  have p9 := cj_4_3 (WO hO aO kO hM hQ hw iO_answered iO_searched iO_searchedRelaxed iO_counted fO_countedCase gO_goalNumber gO_goalScale fO_start fO_column fO_chosen) (WM hM aM kM iM_stands iM_variables iM_rows iM_goals iM_differents iM_cases fM_from fM_to fM_whole fM_ways iM_plainRows fM_plainRow fM_kept fM_goalOver fM_goalUnder fM_goalMax fM_different) (WQ hQ aQ kQ hw fQ_inside fQ_outside fQ_shut iQ_rows iQ_allRows iQ_columns) (WW nW hw lw kw wl_13 wb_13 wG_13)
  have hPc := hP.mem (fun q h => p9.mem_iff.mpr (List.mem_append_left _ h))
  have hDc := (hD.perm p9).left
  have hKc : va_K (dC, dI) vwCl (tW kw) _ := hK.sub [24] rfl
  have hFc := freeG p9 hD hS hA
  refine va_callv (va_runV (As := [.long 0]) (rest := []) ⟨hx, hb, hml, hown, hts⟩ (m_X8_setLong l dC dI nW hw lw kw wl_13 wb_13 wG_13 426 0 b_wl_13 b_wb_13 (by first | with_reducible assumption | omega | (rw [iI_t (by omega) (by omega)]; omega) | decide | assumption) H.size) (cwV 1 hts gwsMX5_setGoal_0 rfl rfl rfl hd_yX8_setLong_RX8 (by decide +kernel)) (fz_pre (va_recv hK hP (ci := 8) (q0 := 11 + (11 + (5 + (426)))) rfl (apR rfl (apR rfl (apR rfl (WW_o (by omega)))))) hPc hKc hDc) rfl rfl hl.1 rfl (lv_room (Nat.le_of_ble_eq_true rfl)) dX5_setGoal_85 (by decide +kernel)) hS (fun q _ h => hFc q h) hFc (fun u t9_ H locs ht hvm hw9 hB9 hz1 hk1 hS => ?_)
  revert u hw9 hB9
  refine fz_p3 ?_
  intro wl_14 wb_14 wG_14 hw9 hB9
  try dsimp only at hw9 hB9
  revert hw9
  refine fz_a2 ?_
  intro b_wl_14 b_wb_14
  have p8 := cj_4_3 (WO hO aO kO hM hQ hw iO_answered iO_searched iO_searchedRelaxed iO_counted fO_countedCase gO_goalNumber gO_goalScale fO_start fO_column fO_chosen) (WM hM aM kM iM_stands iM_variables iM_rows iM_goals iM_differents iM_cases fM_from fM_to fM_whole fM_ways iM_plainRows fM_plainRow fM_kept fM_goalOver fM_goalUnder fM_goalMax fM_different) (WQ hQ aQ kQ hw fQ_inside fQ_outside fQ_shut iQ_rows iQ_allRows iQ_columns) (WW nW hw lw kw wl_14 wb_14 wG_14)
  obtain ⟨hP, hD⟩ := frameG p9 p8 hP hD hk1 hFc (fz_P ht hB9.1) hB9.2
  refine lv_aload_n hx hb dX5_setGoal_88 rfl (lv_at hl 2 rfl) ?_
  refine lv_aload_n hx hb dX5_setGoal_89 rfl (lv_at hl 2 rfl) ?_
  refine va_get (D := (dC, dI)) (ci := 5) (v := .ref (hw 426)) (C := RX5) (T := TX5) (N := 19) hx hb hts iwsMX5_setGoal_in5 hown hK hP 0 rfl rfl 16 (by decide) (hts _ hm_m_X5_setGoal_3) (fun _ h9 => h9) rfl dX5_setGoal_90 ?_
  refine lv_aload_n hx hb dX5_setGoal_93 rfl (lv_at hl 4 rfl) ?_
  refine lv_aload_n hx hb dX5_setGoal_94 rfl (lv_at hl 2 rfl) ?_
  refine va_get (D := (dC, dI)) (ci := 5) (v := .ref (hM 0)) (C := RX5) (T := TX5) (N := 19) hx hb hts iwsMX5_setGoal_in5 hown hK hP 0 rfl rfl 0 (by decide) (hts _ hm_m_X5_setGoal_0) (fun _ h9 => h9) rfl dX5_setGoal_95 ?_
  refine va_get (D := (dC, dI)) (ci := 1) (v := .ref (aM 8)) (C := RX1) (T := TX1) (N := 17) hx hb hts iwsMX5_setGoal_in1 hown hK hP 11 rfl rfl 15 (by decide) (hts (.fieldLink RX5 127 "OptimaWorks$Model" "goalMax" "[Z") (by decide +kernel)) (fun _ h9 => h9) rfl dX5_setGoal_98 ?_
  refine lv_iload_n hx hb dX5_setGoal_101 rfl (lv_at hl 3 rfl) ?_
  refine va_zald (cA := kM 8) (n := 3) (f := fM_goalMax) hx hb hK hP 20 18 rfl rfl (vp_in_iff.mpr ⟨b_p1.1, (Int.lt_of_le_of_lt (b_p1.2) (by decide))⟩) dX5_setGoal_102 ?_
  refine lv_topi (fun v15 hv15 => ?_)
  clear hv15
  refine W.cut (pc := 116) (fun H locs ls stk => ∃ (k0_j2 : Int64),  stk = [.long k0_j2, .ref (hw ka), .ref (hw 426), .ref (hO 0)] ∧ va_P (dC, dI) vwCl (WO hO aO kO hM hQ hw iO_answered iO_searched iO_searchedRelaxed iO_counted fO_countedCase gO_goalNumber gO_goalScale fO_start fO_column fO_chosen ++ (WM hM aM kM iM_stands iM_variables iM_rows iM_goals iM_differents iM_cases fM_from fM_to fM_whole fM_ways iM_plainRows fM_plainRow fM_kept fM_goalOver fM_goalUnder fM_goalMax fM_different ++ (WQ hQ aQ kQ hw fQ_inside fQ_outside fQ_shut iQ_rows iQ_allRows iQ_columns ++ (WW nW hw lw kw wl_14 wb_14 wG_14)))) H ∧ va_D A (WO hO aO kO hM hQ hw iO_answered iO_searched iO_searchedRelaxed iO_counted fO_countedCase gO_goalNumber gO_goalScale fO_start fO_column fO_chosen ++ (WM hM aM kM iM_stands iM_variables iM_rows iM_goals iM_differents iM_cases fM_from fM_to fM_whole fM_ways iM_plainRows fM_plainRow fM_kept fM_goalOver fM_goalUnder fM_goalMax fM_different ++ (WQ hQ aQ kQ hw fQ_inside fQ_outside fQ_shut iQ_rows iQ_allRows iQ_columns ++ (WW nW hw lw kw wl_14 wb_14 wG_14)))) ∧ va_S A s.heap H locs ∧ lv_has ls 6 [(5, .int v4), (4, .int v2), (0, .ref (hO 0)), (1, .int p1), (2, .ref (hw ka)), (3, .ref (hw kb))]) (fun join2 => ?_) ?_
  · refine lv_if_eq (tgt := 113) hx hb dX5_setGoal_103 (by decide) (fun c_103 => ?_) (fun c_103 => ?_)
    · have t_103 : v15.toInt = 0 := toI_eq c_103 rfl (by decide : (0 : Int32).toInt = 0)
      refine lv_iload hx hb dX5_setGoal_113 (lv_at hl 0 rfl) ?_
      refine lv_i2l hx hb dX5_setGoal_115 rfl ?_
      refine lv_topl (fun v19 hv19 => ?_)
      clear hv19
      have hl : lv_has _ _ ([(5, .int v4), (4, .int v2), (0, .ref (hO 0)), (1, .int p1), (2, .ref (hw ka)), (3, .ref (hw kb))]) := lv_sub hl [0, 1, 2, 3, 4, 5] rfl
      exact join2 _ _ _ _ ⟨v19, rfl, hP, hD, hS, hl⟩
    · have t_103 : ¬ v15.toInt = 0 := toI_neq c_103 rfl (by decide : (0 : Int32).toInt = 0)
      refine lv_iload hx hb dX5_setGoal_106 (lv_at hl 0 rfl) ?_
      refine lv_ineg hx hb dX5_setGoal_108 ?_
      refine lv_topi (fun y20 hy20 => ?_)
      obtain rfl : (iI (-v4.toInt)) = y20 := (hy20.trans (iI_neg2 (iI_of _))).symm
      refine lv_i2l hx hb dX5_setGoal_109 rfl ?_
      refine lv_topl (fun v21 hv21 => ?_)
      clear hv21
      refine lv_goto (tgt := 116) hx hb dX5_setGoal_110 (by decide) ?_
      have hl : lv_has _ _ ([(5, .int v4), (4, .int v2), (0, .ref (hO 0)), (1, .int p1), (2, .ref (hw ka)), (3, .ref (hw kb))]) := lv_sub hl [0, 1, 2, 3, 4, 5] rfl
      exact join2 _ _ _ _ ⟨v21, rfl, hP, hD, hS, hl⟩
  · rintro H locs ls stk ⟨k0_j2, rfl, hP, hD, hS, hl⟩
    have hFc := allFree hD hS hA
    refine va_callv (va_runV (As := [.ref (hw 426), .ref (hw ka), .long k0_j2]) (rest := []) ⟨hx, hb, hml, hown, hts⟩ (m_X5_addTimes l dC dI hO aO kO hM hQ hw iO_answered iO_searched iO_searchedRelaxed iO_counted fO_countedCase gO_goalNumber gO_goalScale fO_start fO_column fO_chosen aM kM iM_stands iM_variables iM_rows iM_goals iM_differents iM_cases fM_from fM_to fM_whole fM_ways iM_plainRows fM_plainRow fM_kept fM_goalOver fM_goalUnder fM_goalMax fM_different aQ kQ fQ_inside fQ_outside fQ_shut iQ_rows iQ_allRows iQ_columns nW lw kw wl_14 wb_14 wG_14 426 ka k0_j2 (b_iO_answered) (b_iO_searched) (b_iO_searchedRelaxed) (b_iO_counted) b_fO_countedCase b_fO_column b_fO_chosen (b_iM_stands) (b_iM_variables) (b_iM_rows) (b_iM_goals) (b_iM_differents) (b_iM_cases) b_fM_ways (b_iM_plainRows) b_fM_plainRow (by first | with_reducible assumption | omega | assumption) (b_iQ_rows) (b_iQ_allRows) (b_iQ_columns) (by first | with_reducible assumption | omega | assumption) b_wl_14 b_wb_14 (by omega) (by first | with_reducible assumption | omega | (rw [iI_t (by omega) (by omega)]; omega) | decide | assumption) (by first | with_reducible assumption | omega | (rw [iI_t (by omega) (by omega)]; omega) | decide | assumption) H.size) (cwV 3 hts gwsMX5_setGoal_1 rfl rfl rfl hd_yX5_addTimes_RX5 (by decide +kernel)) (fz_pre (va_recv hK hP (ci := 5) (q0 := 0) rfl rfl) hP hK hD) rfl rfl hl.1 rfl (lv_room (Nat.le_of_ble_eq_true rfl)) dX5_setGoal_116 (by decide +kernel)) hS (fun q _ h => hFc q h) hFc (fun u t9_ H locs ht hvm hw9 hB9 hz1 hk1 hS => ?_)
    revert u hw9 hB9
    refine fz_p3 ?_
    intro wl_22 wb_22 wG_22 hw9 hB9
    try dsimp only at hw9 hB9
    revert hw9
    refine fz_a2 ?_
    intro b_wl_22 b_wb_22
    have hP : va_P (dC, dI) vwCl (WO hO aO kO hM hQ hw iO_answered iO_searched iO_searchedRelaxed iO_counted fO_countedCase gO_goalNumber gO_goalScale fO_start fO_column fO_chosen ++ (WM hM aM kM iM_stands iM_variables iM_rows iM_goals iM_differents iM_cases fM_from fM_to fM_whole fM_ways iM_plainRows fM_plainRow fM_kept fM_goalOver fM_goalUnder fM_goalMax fM_different ++ (WQ hQ aQ kQ hw fQ_inside fQ_outside fQ_shut iQ_rows iQ_allRows iQ_columns ++ (WW nW hw lw kw wl_22 wb_22 wG_22)))) H := fz_P ht hB9.1
    have hD := fz_sd hP (hB9.2.weaken (fun _ q _ h => hFc q.1 h)) rfl
    refine lv_aload_n hx hb dX5_setGoal_119 rfl (lv_at hl 2 rfl) ?_
    refine lv_aload_n hx hb dX5_setGoal_120 rfl (lv_at hl 2 rfl) ?_
    refine va_get (D := (dC, dI)) (ci := 5) (v := .ref (hw 426)) (C := RX5) (T := TX5) (N := 19) hx hb hts iwsMX5_setGoal_in5 hown hK hP 0 rfl rfl 16 (by decide) (hts _ hm_m_X5_setGoal_3) (fun _ h9 => h9) rfl dX5_setGoal_121 ?_
    refine lv_aload_n hx hb dX5_setGoal_124 rfl (lv_at hl 2 rfl) ?_
    refine va_get (D := (dC, dI)) (ci := 5) (v := .ref (aO 9)) (C := RX5) (T := TX5) (N := 19) hx hb hts iwsMX5_setGoal_in5 hown hK hP 0 rfl rfl 18 (by decide) (hts _ hm_m_X5_setGoal_1) (fun _ h9 => h9) rfl dX5_setGoal_125 ?_
    refine lv_iconst (v := 0) hx hb dX5_setGoal_128 (by decide) ?_
    refine va_aldq (cA := kO 9) (n := 4) (f := fun q => some (hw (428 + q))) hx hb hK hP 10 9 rfl rfl (show ¬ ((0 : Int32) < 0 ∨ 4 ≤ (0 : Int32).toNatClampNeg) by decide) dX5_setGoal_129 ?_
    obtain ⟨k23, hk23, b_k23⟩ : ∃ k9 : Nat, k9 = 428 + (0 : Int32).toNatClampNeg ∧ (428 ≤ k9 ∧ k9 < 432 ∧ (k9 : Int) = 428 + 0) := ⟨_, rfl, ald_k (x := (0 : Int32)) (o := 428) (n := 4) (by decide : (0 : Int32).toInt = 0) (by omega) (by omega)⟩
    refine W.eq (g2 := F0 m 130 ls [.ref (hw k23), .ref (hw 426), .ref (hO 0)]) (by rw [hk23]; rfl) ?_
    clear hk23
    refine lv_iload hx hb dX5_setGoal_130 (lv_at hl 1 rfl) ?_
    refine lv_i2l hx hb dX5_setGoal_132 rfl ?_
    refine lv_topl (fun v24 hv24 => ?_)
    clear hv24
    have hFc := allFree hD hS hA
    refine va_callv (va_runV (As := [.ref (hw 426), .ref (hw k23), .long v24]) (rest := []) ⟨hx, hb, hml, hown, hts⟩ (m_X5_addTimes l dC dI hO aO kO hM hQ hw iO_answered iO_searched iO_searchedRelaxed iO_counted fO_countedCase gO_goalNumber gO_goalScale fO_start fO_column fO_chosen aM kM iM_stands iM_variables iM_rows iM_goals iM_differents iM_cases fM_from fM_to fM_whole fM_ways iM_plainRows fM_plainRow fM_kept fM_goalOver fM_goalUnder fM_goalMax fM_different aQ kQ fQ_inside fQ_outside fQ_shut iQ_rows iQ_allRows iQ_columns nW lw kw wl_22 wb_22 wG_22 426 k23 v24 (b_iO_answered) (b_iO_searched) (b_iO_searchedRelaxed) (b_iO_counted) b_fO_countedCase b_fO_column b_fO_chosen (b_iM_stands) (b_iM_variables) (b_iM_rows) (b_iM_goals) (b_iM_differents) (b_iM_cases) b_fM_ways (b_iM_plainRows) b_fM_plainRow (by first | with_reducible assumption | omega | assumption) (b_iQ_rows) (b_iQ_allRows) (b_iQ_columns) (by first | with_reducible assumption | omega | assumption) b_wl_22 b_wb_22 (by omega) (by first | with_reducible assumption | omega | (rw [iI_t (by omega) (by omega)]; omega) | decide | assumption) (by first | with_reducible assumption | omega | (rw [iI_t (by omega) (by omega)]; omega) | decide | assumption) H.size) (cwV 3 hts gwsMX5_setGoal_1 rfl rfl rfl hd_yX5_addTimes_RX5 (by decide +kernel)) (fz_pre (va_recv hK hP (ci := 5) (q0 := 0) rfl rfl) hP hK hD) rfl rfl hl.1 rfl (lv_room (Nat.le_of_ble_eq_true rfl)) dX5_setGoal_133 (by decide +kernel)) hS (fun q _ h => hFc q h) hFc (fun u t9_ H locs ht hvm hw9 hB9 hz1 hk1 hS => ?_)
    revert u hw9 hB9
    refine fz_p3 ?_
    intro wl_25 wb_25 wG_25 hw9 hB9
    try dsimp only at hw9 hB9
    revert hw9
    refine fz_a2 ?_
    intro b_wl_25 b_wb_25
    have hP : va_P (dC, dI) vwCl (WO hO aO kO hM hQ hw iO_answered iO_searched iO_searchedRelaxed iO_counted fO_countedCase gO_goalNumber gO_goalScale fO_start fO_column fO_chosen ++ (WM hM aM kM iM_stands iM_variables iM_rows iM_goals iM_differents iM_cases fM_from fM_to fM_whole fM_ways iM_plainRows fM_plainRow fM_kept fM_goalOver fM_goalUnder fM_goalMax fM_different ++ (WQ hQ aQ kQ hw fQ_inside fQ_outside fQ_shut iQ_rows iQ_allRows iQ_columns ++ (WW nW hw lw kw wl_25 wb_25 wG_25)))) H := fz_P ht hB9.1
    have hD := fz_sd hP (hB9.2.weaken (fun _ q _ h => hFc q.1 h)) rfl
    refine W.widen (k := 0) (n := 0) (by decide +kernel) (by decide +kernel) ?_
    exact W.vret hx hb hr (fun t9_ ht hW => ⟨⟨(wl_25, wb_25, wG_25), rfl, ⟨b_wl_25, b_wb_25⟩, by rw [ht]; exact hP, hD⟩, hS.F ht⟩) hS.2.2 dX5_setGoal_136
theorem dX5_tellGoal_0 : decode cX5_tellGoal 0 = .ok (.aload_n 0, 1) := dk_42 (by decide +kernel)
theorem dX5_tellGoal_1 : decode cX5_tellGoal 1 = .ok (.iload_n 1, 1) := dk_27 (by decide +kernel)
theorem dX5_tellGoal_2 : decode cX5_tellGoal 2 = .ok (.aload_n 0, 1) := dk_42 (by decide +kernel)
theorem dX5_tellGoal_3 : decode cX5_tellGoal 3 = .ok (.getfield 52, 3) := dk_180 (by decide +kernel)
theorem dX5_tellGoal_6 : decode cX5_tellGoal 6 = .ok (.iload_n 1, 1) := dk_27 (by decide +kernel)
theorem dX5_tellGoal_7 : decode cX5_tellGoal 7 = .ok (.aaload, 1) := dk_50 (by decide +kernel)
theorem dX5_tellGoal_8 : decode cX5_tellGoal 8 = .ok (.aload_n 0, 1) := dk_42 (by decide +kernel)
theorem dX5_tellGoal_9 : decode cX5_tellGoal 9 = .ok (.getfield 58, 3) := dk_180 (by decide +kernel)
theorem dX5_tellGoal_12 : decode cX5_tellGoal 12 = .ok (.invokevirtual 271, 3) := dk_182 (by decide +kernel)
theorem dX5_tellGoal_15 : decode cX5_tellGoal 15 = .ok (.return_, 1) := dk_177 (by decide +kernel)
def wsMX5_tellGoal : List Cond := .code yX5_tellGoal cX5_tellGoal 2 none :: ([.fieldLink RX5 52 "OptimaWorks$Solver" "answerGoal" "[LOptimaWorks$Whole;", .fieldLink RX5 58 "OptimaWorks$Solver" "answerUnder" "LOptimaWorks$Whole;"] ++ wsX50 ++ (wsV RX5 271 RX5 yX5_setGoal wsMX5_setGoal))
theorem iwsMX5_tellGoal_in5 : ∀ w ∈ wsX50, w ∈ wsMX5_tellGoal := fun _ h => List.mem_cons_of_mem _ (List.mem_append_left _ (List.mem_append_right _ h))
theorem gwsMX5_tellGoal_0 : GoodIn wsMX5_tellGoal (wsV RX5 271 RX5 yX5_setGoal wsMX5_setGoal) := goodIn_sub (fun _ h => List.mem_cons_of_mem _ (List.mem_append_right _ h)) (gdV (by decide +kernel) gdwsMX5_setGoal)
theorem gdwsMX5_tellGoal : wsMX5_tellGoal.all goodWord = true := gdC rfl (gdA (gdA (by decide +kernel : ([.fieldLink RX5 52 "OptimaWorks$Solver" "answerGoal" "[LOptimaWorks$Whole;", .fieldLink RX5 58 "OptimaWorks$Solver" "answerUnder" "LOptimaWorks$Whole;"] : List Cond).all goodWord = true) gdwsX50) (gdV (by decide +kernel) gdwsMX5_setGoal))
set_option maxHeartbeats 4000000 in
set_option maxRecDepth 100000 in
/-- a goal of the answer is told -/
theorem m_X5_tellGoal (l : Launch) (dC : Nat → ClassId) (dI : Nat → Nat → Nat) (hO : Nat → Nat) (aO : Nat → Nat) (kO : Nat → ClassId) (hM : Nat → Nat) (hQ : Nat → Nat) (hw : Nat → Nat) (iO_answered : Int32) (iO_searched : Int32) (iO_searchedRelaxed : Int32) (iO_counted : Int32) (fO_countedCase : Nat → Int32) (gO_goalNumber : Nat → Int64) (gO_goalScale : Nat → Int64) (fO_start : Nat → Int32) (fO_column : Nat → Int32) (fO_chosen : Nat → Int32) (aM : Nat → Nat) (kM : Nat → ClassId) (iM_stands : Int32) (iM_variables : Int32) (iM_rows : Int32) (iM_goals : Int32) (iM_differents : Int32) (iM_cases : Int32) (fM_from : Nat → Int32) (fM_to : Nat → Int32) (fM_whole : Nat → Int32) (fM_ways : Nat → Int32) (iM_plainRows : Int32) (fM_plainRow : Nat → Int32) (fM_kept : Nat → Int32) (fM_goalOver : Nat → Int32) (fM_goalUnder : Nat → Int32) (fM_goalMax : Nat → Int32) (fM_different : Nat → Int32) (aQ : Nat → Nat) (kQ : Nat → ClassId) (fQ_inside : Nat → Int32) (fQ_outside : Nat → Int32) (fQ_shut : Nat → Int32) (iQ_rows : Int32) (iQ_allRows : Int32) (iQ_columns : Int32) (nW : Nat) (lw : Nat → Nat) (kw : ClassId) (wl : Nat → Int32) (wb : Nat → Int32) (wG : Nat → Nat → Int64) (p1 : Int32) (b_iO_answered : 0 ≤ iO_answered.toInt ∧ iO_answered.toInt ≤ 1) (b_iO_searched : 0 ≤ iO_searched.toInt ∧ iO_searched.toInt ≤ 1) (b_iO_searchedRelaxed : 0 ≤ iO_searchedRelaxed.toInt ∧ iO_searchedRelaxed.toInt ≤ 1) (b_iO_counted : (-1) ≤ iO_counted.toInt ∧ iO_counted.toInt ≤ 64) (b_fO_countedCase : ∀ q : Nat, 0 ≤ (fO_countedCase q).toInt ∧ (fO_countedCase q).toInt ≤ 200000) (b_fO_column : ∀ q : Nat, (-1) ≤ (fO_column q).toInt ∧ (fO_column q).toInt ≤ 8) (b_fO_chosen : ∀ q : Nat, 0 ≤ (fO_chosen q).toInt ∧ (fO_chosen q).toInt ≤ 2) (b_iM_stands : 0 ≤ iM_stands.toInt ∧ iM_stands.toInt ≤ 1) (b_iM_variables : 0 ≤ iM_variables.toInt ∧ iM_variables.toInt ≤ 8) (b_iM_rows : 0 ≤ iM_rows.toInt ∧ iM_rows.toInt ≤ 12) (b_iM_goals : 0 ≤ iM_goals.toInt ∧ iM_goals.toInt ≤ 3) (b_iM_differents : 0 ≤ iM_differents.toInt ∧ iM_differents.toInt ≤ 8) (b_iM_cases : 0 ≤ iM_cases.toInt ∧ iM_cases.toInt ≤ 200000) (b_fM_ways : ∀ q : Nat, 0 ≤ (fM_ways q).toInt ∧ (fM_ways q).toInt ≤ 3) (b_iM_plainRows : 0 ≤ iM_plainRows.toInt ∧ iM_plainRows.toInt ≤ 12) (b_fM_plainRow : ∀ q : Nat, 0 ≤ (fM_plainRow q).toInt ∧ (fM_plainRow q).toInt ≤ 11) (b_pr : iM_plainRows.toInt ≤ iM_rows.toInt) (b_iQ_rows : 0 ≤ iQ_rows.toInt ∧ iQ_rows.toInt ≤ 40) (b_iQ_allRows : 0 ≤ iQ_allRows.toInt ∧ iQ_allRows.toInt ≤ 40) (b_iQ_columns : 0 ≤ iQ_columns.toInt ∧ iQ_columns.toInt ≤ 40) (b_tb : TbO iQ_rows iQ_allRows iQ_columns) (b_wl : ∀ q : Nat, 0 ≤ (wl q).toInt ∧ (wl q).toInt ≤ 14) (b_wb : ∀ q : Nat, 0 ≤ (wb q).toInt ∧ (wb q).toInt ≤ 1) (b_p1 : 0 ≤ p1.toInt ∧ p1.toInt ≤ 2) (hnW : 432 ≤ nW) (sz : Nat) : Met l yX5_tellGoal wsMX5_tellGoal ({ frames := 5, cells := 0, slots := 0, locals := 110 }) (va_Pc [.ref (hO 0), .int p1] (fun U => U.heap.size = sz ∧ va_P (dC, dI) vwCl (WO hO aO kO hM hQ hw iO_answered iO_searched iO_searchedRelaxed iO_counted fO_countedCase gO_goalNumber gO_goalScale fO_start fO_column fO_chosen ++ (WM hM aM kM iM_stands iM_variables iM_rows iM_goals iM_differents iM_cases fM_from fM_to fM_whole fM_ways iM_plainRows fM_plainRow fM_kept fM_goalOver fM_goalUnder fM_goalMax fM_different ++ (WQ hQ aQ kQ hw fQ_inside fQ_outside fQ_shut iQ_rows iQ_allRows iQ_columns ++ (WW nW hw lw kw wl wb wG)))) U.heap ∧ va_K (dC, dI) vwCl (tO kO ++ (tM kM ++ (tQ kQ ++ (tW kw)))) U ∧ va_D (fun _ => True) (WO hO aO kO hM hQ hw iO_answered iO_searched iO_searchedRelaxed iO_counted fO_countedCase gO_goalNumber gO_goalScale fO_start fO_column fO_chosen ++ (WM hM aM kM iM_stands iM_variables iM_rows iM_goals iM_differents iM_cases fM_from fM_to fM_whole fM_ways iM_plainRows fM_plainRow fM_kept fM_goalOver fM_goalUnder fM_goalMax fM_different ++ (WQ hQ aQ kQ hw fQ_inside fQ_outside fQ_shut iQ_rows iQ_allRows iQ_columns ++ (WW nW hw lw kw wl wb wG)))))) (va_Qv (fun (u : (Nat → Int32) × (Nat → Int32) × (Nat → Nat → Int64)) => (∀ q : Nat, 0 ≤ ((u.1) q).toInt ∧ ((u.1) q).toInt ≤ 14) ∧ (∀ q : Nat, 0 ≤ ((u.2.1) q).toInt ∧ ((u.2.1) q).toInt ≤ 1)) (fun (u : (Nat → Int32) × (Nat → Int32) × (Nat → Nat → Int64)) t => va_P (dC, dI) vwCl (WO hO aO kO hM hQ hw iO_answered iO_searched iO_searchedRelaxed iO_counted fO_countedCase gO_goalNumber gO_goalScale fO_start fO_column fO_chosen ++ (WM hM aM kM iM_stands iM_variables iM_rows iM_goals iM_differents iM_cases fM_from fM_to fM_whole fM_ways iM_plainRows fM_plainRow fM_kept fM_goalOver fM_goalUnder fM_goalMax fM_different ++ (WQ hQ aQ kQ hw fQ_inside fQ_outside fQ_shut iQ_rows iQ_allRows iQ_columns ++ (WW nW hw lw kw (u.1) (u.2.1) (u.2.2))))) t.heap ∧ va_D (va_A (WO hO aO kO hM hQ hw iO_answered iO_searched iO_searchedRelaxed iO_counted fO_countedCase gO_goalNumber gO_goalScale fO_start fO_column fO_chosen ++ (WM hM aM kM iM_stands iM_variables iM_rows iM_goals iM_differents iM_cases fM_from fM_to fM_whole fM_ways iM_plainRows fM_plainRow fM_kept fM_goalOver fM_goalUnder fM_goalMax fM_different ++ (WQ hQ aQ kQ hw fQ_inside fQ_outside fQ_shut iQ_rows iQ_allRows iQ_columns ++ (WW nW hw lw kw wl wb wG)))) sz) (WO hO aO kO hM hQ hw iO_answered iO_searched iO_searchedRelaxed iO_counted fO_countedCase gO_goalNumber gO_goalScale fO_start fO_column fO_chosen ++ (WM hM aM kM iM_stands iM_variables iM_rows iM_goals iM_differents iM_cases fM_from fM_to fM_whole fM_ways iM_plainRows fM_plainRow fM_kept fM_goalOver fM_goalUnder fM_goalMax fM_different ++ (WQ hQ aQ kQ hw fQ_inside fQ_outside fQ_shut iQ_rows iQ_allRows iQ_columns ++ (WW nW hw lw kw (u.1) (u.2.1) (u.2.2)))))) (va_A (WO hO aO kO hM hQ hw iO_answered iO_searched iO_searchedRelaxed iO_counted fO_countedCase gO_goalNumber gO_goalScale fO_start fO_column fO_chosen ++ (WM hM aM kM iM_stands iM_variables iM_rows iM_goals iM_differents iM_cases fM_from fM_to fM_whole fM_ways iM_plainRows fM_plainRow fM_kept fM_goalOver fM_goalUnder fM_goalMax fM_different ++ (WQ hQ aQ kQ hw fQ_inside fQ_outside fQ_shut iQ_rows iQ_allRows iQ_columns ++ (WW nW hw lw kw wl wb wG)))) sz)) 0 0 (va_A (WO hO aO kO hM hQ hw iO_answered iO_searched iO_searchedRelaxed iO_counted fO_countedCase gO_goalNumber gO_goalScale fO_start fO_column fO_chosen ++ (WM hM aM kM iM_stands iM_variables iM_rows iM_goals iM_differents iM_cases fM_from fM_to fM_whole fM_ways iM_plainRows fM_plainRow fM_kept fM_goalOver fM_goalUnder fM_goalMax fM_different ++ (WQ hQ aQ kQ hw fQ_inside fQ_outside fQ_shut iQ_rows iQ_allRows iQ_columns ++ (WW nW hw lw kw wl wb wG)))) sz) := by
  refine Met.ofW (cc := cX5_tellGoal) (maxL := 2) (ret := none) (by decide) rfl ?_
  intro p e s m args below meth c s₁ B hml hv
  obtain ⟨rfl, hsz, hP, hK, hD0⟩ := hv
  have hx := B.exec
  have hb := B.bytes
  have hr := B.returns
  have hts := atoms_spec (ws := wsMX5_tellGoal) B.pre
  have hown : s.vm.findClass RX5 = some m.cls := findClass_of_methodNamed B.named
  have hlocks := B.notSynchronized
  subst hsz
  have hD := hD0.self (sz := s.heap.size)
  generalize hAe : va_A (WO hO aO kO hM hQ hw iO_answered iO_searched iO_searchedRelaxed iO_counted fO_countedCase gO_goalNumber gO_goalScale fO_start fO_column fO_chosen ++ (WM hM aM kM iM_stands iM_variables iM_rows iM_goals iM_differents iM_cases fM_from fM_to fM_whole fM_ways iM_plainRows fM_plainRow fM_kept fM_goalOver fM_goalUnder fM_goalMax fM_different ++ (WQ hQ aQ kQ hw fQ_inside fQ_outside fQ_shut iQ_rows iQ_allRows iQ_columns ++ (WW nW hw lw kw wl wb wG)))) s.heap.size = A at hD ⊢
  have hA : ∀ q : Nat, s.heap.size ≤ q → A q := fun q h => by rw [← hAe]; exact Or.inr h
  have hS : va_S A s.heap s.heap [] := va_S.rf
  have hl := lv_entry ([.ref (hO 0), .int p1]) (n := 2) (Nat.le_of_ble_eq_true rfl)
  rw [lg_entry_eq]
  generalize (lg_sl ([.ref (hO 0), .int p1]) ++ List.replicate (2 - (lg_sl ([.ref (hO 0), .int p1])).length) Slot.unset).toArray = ls at hl ⊢
  have hl : lv_has ls 2 [(0, .ref (hO 0)), (1, .int p1)] := hl
  refine lv_aload_n hx hb dX5_tellGoal_0 rfl (lv_at hl 0 rfl) ?_
  refine lv_iload_n hx hb dX5_tellGoal_1 rfl (lv_at hl 1 rfl) ?_
  refine lv_aload_n hx hb dX5_tellGoal_2 rfl (lv_at hl 0 rfl) ?_
  refine va_get (D := (dC, dI)) (ci := 5) (v := .ref (aO 7)) (C := RX5) (T := TX5) (N := 19) hx hb hts iwsMX5_tellGoal_in5 hown hK hP 0 rfl rfl 13 (by decide) (hts (.fieldLink RX5 52 "OptimaWorks$Solver" "answerGoal" "[LOptimaWorks$Whole;") (by decide +kernel)) (fun _ h9 => h9) rfl dX5_tellGoal_3 ?_
  refine lv_iload_n hx hb dX5_tellGoal_6 rfl (lv_at hl 1 rfl) ?_
  refine va_aldq (cA := kO 7) (n := 3) (f := fun q => some (hw (414 + q))) hx hb hK hP 8 7 rfl rfl (vp_in_iff.mpr ⟨b_p1.1, (Int.lt_of_le_of_lt (b_p1.2) (by decide))⟩) dX5_tellGoal_7 ?_
  obtain ⟨k1, hk1, b_k1⟩ : ∃ k9 : Nat, k9 = 414 + (p1).toNatClampNeg ∧ (414 ≤ k9 ∧ k9 < 417 ∧ (k9 : Int) = 414 + p1.toInt) := ⟨_, rfl, ald_k (x := (p1)) (o := 414) (n := 3) rfl (by omega) (by omega)⟩
  refine W.eq (g2 := F0 m 8 ls [.ref (hw k1), .int p1, .ref (hO 0)]) (by rw [hk1]; rfl) ?_
  clear hk1
  refine lv_aload_n hx hb dX5_tellGoal_8 rfl (lv_at hl 0 rfl) ?_
  refine va_get (D := (dC, dI)) (ci := 5) (v := .ref (hw 417)) (C := RX5) (T := TX5) (N := 19) hx hb hts iwsMX5_tellGoal_in5 hown hK hP 0 rfl rfl 14 (by decide) (hts (.fieldLink RX5 58 "OptimaWorks$Solver" "answerUnder" "LOptimaWorks$Whole;") (by decide +kernel)) (fun _ h9 => h9) rfl dX5_tellGoal_9 ?_
  have hFc := allFree hD hS hA
  refine va_callv (va_runV (As := [.int p1, .ref (hw k1), .ref (hw 417)]) (rest := []) ⟨hx, hb, hml, hown, hts⟩ (m_X5_setGoal l dC dI hO aO kO hM hQ hw iO_answered iO_searched iO_searchedRelaxed iO_counted fO_countedCase gO_goalNumber gO_goalScale fO_start fO_column fO_chosen aM kM iM_stands iM_variables iM_rows iM_goals iM_differents iM_cases fM_from fM_to fM_whole fM_ways iM_plainRows fM_plainRow fM_kept fM_goalOver fM_goalUnder fM_goalMax fM_different aQ kQ fQ_inside fQ_outside fQ_shut iQ_rows iQ_allRows iQ_columns nW lw kw wl wb wG k1 417 p1 (b_iO_answered) (b_iO_searched) (b_iO_searchedRelaxed) (b_iO_counted) b_fO_countedCase b_fO_column b_fO_chosen (b_iM_stands) (b_iM_variables) (b_iM_rows) (b_iM_goals) (b_iM_differents) (b_iM_cases) b_fM_ways (b_iM_plainRows) b_fM_plainRow (by first | with_reducible assumption | omega | assumption) (b_iQ_rows) (b_iQ_allRows) (b_iQ_columns) (by first | with_reducible assumption | omega | assumption) b_wl b_wb (b_p1) (by omega) (by first | with_reducible assumption | omega | (rw [iI_t (by omega) (by omega)]; omega) | decide | assumption) (by first | with_reducible assumption | omega | (rw [iI_t (by omega) (by omega)]; omega) | decide | assumption) s.heap.size) (cwV 3 hts gwsMX5_tellGoal_0 rfl rfl rfl hd_yX5_setGoal_RX5 (by decide +kernel)) (fz_pre (va_recv hK hP (ci := 5) (q0 := 0) rfl rfl) hP hK hD) rfl rfl hl.1 rfl (lv_room (Nat.le_of_ble_eq_true rfl)) dX5_tellGoal_12 (by decide +kernel)) hS (fun q _ h => hFc q h) hFc (fun u t9_ H locs ht hvm hw9 hB9 hz1 hk1 hS => ?_)
  revert u hw9 hB9
  refine fz_p3 ?_
  intro wl_2 wb_2 wG_2 hw9 hB9
  try dsimp only at hw9 hB9
  revert hw9
  refine fz_a2 ?_
  intro b_wl_2 b_wb_2
  have hP : va_P (dC, dI) vwCl (WO hO aO kO hM hQ hw iO_answered iO_searched iO_searchedRelaxed iO_counted fO_countedCase gO_goalNumber gO_goalScale fO_start fO_column fO_chosen ++ (WM hM aM kM iM_stands iM_variables iM_rows iM_goals iM_differents iM_cases fM_from fM_to fM_whole fM_ways iM_plainRows fM_plainRow fM_kept fM_goalOver fM_goalUnder fM_goalMax fM_different ++ (WQ hQ aQ kQ hw fQ_inside fQ_outside fQ_shut iQ_rows iQ_allRows iQ_columns ++ (WW nW hw lw kw wl_2 wb_2 wG_2)))) H := fz_P ht hB9.1
  have hD := fz_sd hP (hB9.2.weaken (fun _ q _ h => hFc q.1 h)) rfl
  refine W.widen (k := 0) (n := 0) (by decide +kernel) (by decide +kernel) ?_
  exact W.vret hx hb hr (fun t9_ ht hW => ⟨⟨(wl_2, wb_2, wG_2), rfl, ⟨b_wl_2, b_wb_2⟩, by rw [ht]; exact hP, hD⟩, hS.F ht⟩) hS.2.2 dX5_tellGoal_15
theorem dX5_shortenTold_0 : decode cX5_shortenTold 0 = .ok (.aload_n 0, 1) := dk_42 (by decide +kernel)
theorem dX5_shortenTold_1 : decode cX5_shortenTold 1 = .ok (.getfield 71, 3) := dk_180 (by decide +kernel)
theorem dX5_shortenTold_4 : decode cX5_shortenTold 4 = .ok (.iconst 0, 1) := dk_3 (by decide +kernel)
theorem dX5_shortenTold_5 : decode cX5_shortenTold 5 = .ok (.aaload, 1) := dk_50 (by decide +kernel)
theorem dX5_shortenTold_6 : decode cX5_shortenTold 6 = .ok (.astore_n 1, 1) := dk_76 (by decide +kernel)
theorem dX5_shortenTold_7 : decode cX5_shortenTold 7 = .ok (.aload_n 0, 1) := dk_42 (by decide +kernel)
theorem dX5_shortenTold_8 : decode cX5_shortenTold 8 = .ok (.getfield 71, 3) := dk_180 (by decide +kernel)
theorem dX5_shortenTold_11 : decode cX5_shortenTold 11 = .ok (.iconst 1, 1) := dk_4 (by decide +kernel)
theorem dX5_shortenTold_12 : decode cX5_shortenTold 12 = .ok (.aaload, 1) := dk_50 (by decide +kernel)
theorem dX5_shortenTold_13 : decode cX5_shortenTold 13 = .ok (.astore_n 2, 1) := dk_77 (by decide +kernel)
theorem dX5_shortenTold_14 : decode cX5_shortenTold 14 = .ok (.aload_n 0, 1) := dk_42 (by decide +kernel)
theorem dX5_shortenTold_15 : decode cX5_shortenTold 15 = .ok (.getfield 71, 3) := dk_180 (by decide +kernel)
theorem dX5_shortenTold_18 : decode cX5_shortenTold 18 = .ok (.iconst 2, 1) := dk_5 (by decide +kernel)
theorem dX5_shortenTold_19 : decode cX5_shortenTold 19 = .ok (.aaload, 1) := dk_50 (by decide +kernel)
theorem dX5_shortenTold_20 : decode cX5_shortenTold 20 = .ok (.astore_n 3, 1) := dk_78 (by decide +kernel)
theorem dX5_shortenTold_21 : decode cX5_shortenTold 21 = .ok (.aload_n 1, 1) := dk_43 (by decide +kernel)
theorem dX5_shortenTold_22 : decode cX5_shortenTold 22 = .ok (.aload_n 0, 1) := dk_42 (by decide +kernel)
theorem dX5_shortenTold_23 : decode cX5_shortenTold 23 = .ok (.getfield 65, 3) := dk_180 (by decide +kernel)
theorem dX5_shortenTold_26 : decode cX5_shortenTold 26 = .ok (.invokevirtual 268, 3) := dk_182 (by decide +kernel)
theorem dX5_shortenTold_29 : decode cX5_shortenTold 29 = .ok (.aload_n 2, 1) := dk_44 (by decide +kernel)
theorem dX5_shortenTold_30 : decode cX5_shortenTold 30 = .ok (.aload_n 0, 1) := dk_42 (by decide +kernel)
theorem dX5_shortenTold_31 : decode cX5_shortenTold 31 = .ok (.getfield 68, 3) := dk_180 (by decide +kernel)
theorem dX5_shortenTold_34 : decode cX5_shortenTold 34 = .ok (.invokevirtual 268, 3) := dk_182 (by decide +kernel)
theorem dX5_shortenTold_37 : decode cX5_shortenTold 37 = .ok (.iconst 0, 1) := dk_3 (by decide +kernel)
theorem dX5_shortenTold_38 : decode cX5_shortenTold 38 = .ok (.istore 4, 2) := dk_54 (by decide +kernel)
theorem dX5_shortenTold_40 : decode cX5_shortenTold 40 = .ok (.iload 4, 2) := dk_21 (by decide +kernel)
theorem dX5_shortenTold_42 : decode cX5_shortenTold 42 = .ok (.sipush 1000, 3) := dk_17 (by decide +kernel)
theorem dX5_shortenTold_45 : decode cX5_shortenTold 45 = .ok (.if_icmp .ge 38, 3) := dk_162 (by decide +kernel)
theorem dX5_shortenTold_48 : decode cX5_shortenTold 48 = .ok (.aload_n 2, 1) := dk_44 (by decide +kernel)
theorem dX5_shortenTold_49 : decode cX5_shortenTold 49 = .ok (.getfield 275, 3) := dk_180 (by decide +kernel)
theorem dX5_shortenTold_52 : decode cX5_shortenTold 52 = .ok (.ifCond .eq 31, 3) := dk_153 (by decide +kernel)
theorem dX5_shortenTold_55 : decode cX5_shortenTold 55 = .ok (.aload_n 1, 1) := dk_43 (by decide +kernel)
theorem dX5_shortenTold_56 : decode cX5_shortenTold 56 = .ok (.aload_n 2, 1) := dk_44 (by decide +kernel)
theorem dX5_shortenTold_57 : decode cX5_shortenTold 57 = .ok (.aload_n 3, 1) := dk_45 (by decide +kernel)
theorem dX5_shortenTold_58 : decode cX5_shortenTold 58 = .ok (.aload_n 0, 1) := dk_42 (by decide +kernel)
theorem dX5_shortenTold_59 : decode cX5_shortenTold 59 = .ok (.getfield 71, 3) := dk_180 (by decide +kernel)
theorem dX5_shortenTold_62 : decode cX5_shortenTold 62 = .ok (.iconst 3, 1) := dk_6 (by decide +kernel)
theorem dX5_shortenTold_63 : decode cX5_shortenTold 63 = .ok (.aaload, 1) := dk_50 (by decide +kernel)
theorem dX5_shortenTold_64 : decode cX5_shortenTold 64 = .ok (.invokevirtual 278, 3) := dk_182 (by decide +kernel)
theorem dX5_shortenTold_67 : decode cX5_shortenTold 67 = .ok (.aload_n 1, 1) := dk_43 (by decide +kernel)
theorem dX5_shortenTold_68 : decode cX5_shortenTold 68 = .ok (.astore 5, 2) := dk_58 (by decide +kernel)
theorem dX5_shortenTold_70 : decode cX5_shortenTold 70 = .ok (.aload_n 2, 1) := dk_44 (by decide +kernel)
theorem dX5_shortenTold_71 : decode cX5_shortenTold 71 = .ok (.astore_n 1, 1) := dk_76 (by decide +kernel)
theorem dX5_shortenTold_72 : decode cX5_shortenTold 72 = .ok (.aload_n 3, 1) := dk_45 (by decide +kernel)
theorem dX5_shortenTold_73 : decode cX5_shortenTold 73 = .ok (.astore_n 2, 1) := dk_77 (by decide +kernel)
theorem dX5_shortenTold_74 : decode cX5_shortenTold 74 = .ok (.aload 5, 2) := dk_25 (by decide +kernel)
theorem dX5_shortenTold_76 : decode cX5_shortenTold 76 = .ok (.astore_n 3, 1) := dk_78 (by decide +kernel)
theorem dX5_shortenTold_77 : decode cX5_shortenTold 77 = .ok (.iinc 4 1, 3) := dk_132 (by decide +kernel)
theorem dX5_shortenTold_80 : decode cX5_shortenTold 80 = .ok (.goto (-40), 3) := dk_167 (by decide +kernel)
theorem dX5_shortenTold_83 : decode cX5_shortenTold 83 = .ok (.aload_n 1, 1) := dk_43 (by decide +kernel)
theorem dX5_shortenTold_84 : decode cX5_shortenTold 84 = .ok (.iconst 0, 1) := dk_3 (by decide +kernel)
theorem dX5_shortenTold_85 : decode cX5_shortenTold 85 = .ok (.putfield 282, 3) := dk_181 (by decide +kernel)
theorem dX5_shortenTold_88 : decode cX5_shortenTold 88 = .ok (.aload_n 1, 1) := dk_43 (by decide +kernel)
theorem dX5_shortenTold_89 : decode cX5_shortenTold 89 = .ok (.invokevirtual 285, 3) := dk_182 (by decide +kernel)
theorem dX5_shortenTold_92 : decode cX5_shortenTold 92 = .ok (.ifCond .ne 33, 3) := dk_154 (by decide +kernel)
theorem dX5_shortenTold_95 : decode cX5_shortenTold 95 = .ok (.aload_n 0, 1) := dk_42 (by decide +kernel)
theorem dX5_shortenTold_96 : decode cX5_shortenTold 96 = .ok (.getfield 65, 3) := dk_180 (by decide +kernel)
theorem dX5_shortenTold_99 : decode cX5_shortenTold 99 = .ok (.aload_n 1, 1) := dk_43 (by decide +kernel)
theorem dX5_shortenTold_100 : decode cX5_shortenTold 100 = .ok (.aload_n 3, 1) := dk_45 (by decide +kernel)
theorem dX5_shortenTold_101 : decode cX5_shortenTold 101 = .ok (.aload_n 0, 1) := dk_42 (by decide +kernel)
theorem dX5_shortenTold_102 : decode cX5_shortenTold 102 = .ok (.getfield 71, 3) := dk_180 (by decide +kernel)
theorem dX5_shortenTold_105 : decode cX5_shortenTold 105 = .ok (.iconst 3, 1) := dk_6 (by decide +kernel)
theorem dX5_shortenTold_106 : decode cX5_shortenTold 106 = .ok (.aaload, 1) := dk_50 (by decide +kernel)
theorem dX5_shortenTold_107 : decode cX5_shortenTold 107 = .ok (.invokevirtual 278, 3) := dk_182 (by decide +kernel)
theorem dX5_shortenTold_110 : decode cX5_shortenTold 110 = .ok (.aload_n 0, 1) := dk_42 (by decide +kernel)
theorem dX5_shortenTold_111 : decode cX5_shortenTold 111 = .ok (.getfield 68, 3) := dk_180 (by decide +kernel)
theorem dX5_shortenTold_114 : decode cX5_shortenTold 114 = .ok (.aload_n 1, 1) := dk_43 (by decide +kernel)
theorem dX5_shortenTold_115 : decode cX5_shortenTold 115 = .ok (.aload_n 3, 1) := dk_45 (by decide +kernel)
theorem dX5_shortenTold_116 : decode cX5_shortenTold 116 = .ok (.aload_n 0, 1) := dk_42 (by decide +kernel)
theorem dX5_shortenTold_117 : decode cX5_shortenTold 117 = .ok (.getfield 71, 3) := dk_180 (by decide +kernel)
theorem dX5_shortenTold_120 : decode cX5_shortenTold 120 = .ok (.iconst 3, 1) := dk_6 (by decide +kernel)
theorem dX5_shortenTold_121 : decode cX5_shortenTold 121 = .ok (.aaload, 1) := dk_50 (by decide +kernel)
theorem dX5_shortenTold_122 : decode cX5_shortenTold 122 = .ok (.invokevirtual 278, 3) := dk_182 (by decide +kernel)
theorem dX5_shortenTold_125 : decode cX5_shortenTold 125 = .ok (.return_, 1) := dk_177 (by decide +kernel)
def wsMX5_shortenTold : List Cond := .code yX5_shortenTold cX5_shortenTold 6 none :: ([.fieldLink RX5 71 "OptimaWorks$Solver" "spare" "[LOptimaWorks$Whole;", .fieldLink RX5 65 "OptimaWorks$Solver" "top" "LOptimaWorks$Whole;", .fieldLink RX5 68 "OptimaWorks$Solver" "bottom" "LOptimaWorks$Whole;", .fieldLink RX5 275 "OptimaWorks$Whole" "length" "I", .fieldLink RX5 282 "OptimaWorks$Whole" "below" "Z"] ++ wsX50 ++ wsX80 ++ (wsV RX5 268 RX8 yX8_copy wsMX8_copy) ++ (wsV RX5 278 RX8 yX8_divide wsMX8_divide) ++ (wsV RX5 285 RX8 yX8_isOne wsMX8_isOne))
theorem iwsMX5_shortenTold_in5 : ∀ w ∈ wsX50, w ∈ wsMX5_shortenTold := fun _ h => List.mem_cons_of_mem _ (List.mem_append_left _ (List.mem_append_left _ (List.mem_append_left _ (List.mem_append_left _ (List.mem_append_right _ h)))))
theorem iwsMX5_shortenTold_in8 : ∀ w ∈ wsX80, w ∈ wsMX5_shortenTold := fun _ h => List.mem_cons_of_mem _ (List.mem_append_left _ (List.mem_append_left _ (List.mem_append_left _ (List.mem_append_right _ h))))
theorem gwsMX5_shortenTold_0 : GoodIn wsMX5_shortenTold (wsV RX5 268 RX8 yX8_copy wsMX8_copy) := goodIn_sub (fun _ h => List.mem_cons_of_mem _ (List.mem_append_left _ (List.mem_append_left _ (List.mem_append_right _ h)))) (gdV (by decide +kernel) gdwsMX8_copy)
theorem gwsMX5_shortenTold_1 : GoodIn wsMX5_shortenTold (wsV RX5 278 RX8 yX8_divide wsMX8_divide) := goodIn_sub (fun _ h => List.mem_cons_of_mem _ (List.mem_append_left _ (List.mem_append_right _ h))) (gdV (by decide +kernel) gdwsMX8_divide)
theorem gwsMX5_shortenTold_2 : GoodIn wsMX5_shortenTold (wsV RX5 285 RX8 yX8_isOne wsMX8_isOne) := goodIn_sub (fun _ h => List.mem_cons_of_mem _ (List.mem_append_right _ h)) (gdV (by decide +kernel) gdwsMX8_isOne)
theorem gdwsMX5_shortenTold : wsMX5_shortenTold.all goodWord = true := gdC rfl (gdA (gdA (gdA (gdA (gdA (by decide +kernel : ([.fieldLink RX5 71 "OptimaWorks$Solver" "spare" "[LOptimaWorks$Whole;", .fieldLink RX5 65 "OptimaWorks$Solver" "top" "LOptimaWorks$Whole;", .fieldLink RX5 68 "OptimaWorks$Solver" "bottom" "LOptimaWorks$Whole;", .fieldLink RX5 275 "OptimaWorks$Whole" "length" "I", .fieldLink RX5 282 "OptimaWorks$Whole" "below" "Z"] : List Cond).all goodWord = true) gdwsX50) gdwsX80) (gdV (by decide +kernel) gdwsMX8_copy)) (gdV (by decide +kernel) gdwsMX8_divide)) (gdV (by decide +kernel) gdwsMX8_isOne))
theorem hm_m_X5_shortenTold_0 : (.fieldLink RX5 71 "OptimaWorks$Solver" "spare" "[LOptimaWorks$Whole;" : Cond) ∈ wsMX5_shortenTold := by decide +kernel
theorem hm_m_X5_shortenTold_1 : (.fieldLink RX5 65 "OptimaWorks$Solver" "top" "LOptimaWorks$Whole;" : Cond) ∈ wsMX5_shortenTold := by decide +kernel
theorem hm_m_X5_shortenTold_2 : (.fieldLink RX5 68 "OptimaWorks$Solver" "bottom" "LOptimaWorks$Whole;" : Cond) ∈ wsMX5_shortenTold := by decide +kernel
set_option maxHeartbeats 4000000 in
set_option maxRecDepth 100000 in
/-- shortened -/
theorem m_X5_shortenTold (l : Launch) (dC : Nat → ClassId) (dI : Nat → Nat → Nat) (hO : Nat → Nat) (aO : Nat → Nat) (kO : Nat → ClassId) (hM : Nat → Nat) (hQ : Nat → Nat) (hw : Nat → Nat) (iO_answered : Int32) (iO_searched : Int32) (iO_searchedRelaxed : Int32) (iO_counted : Int32) (fO_countedCase : Nat → Int32) (gO_goalNumber : Nat → Int64) (gO_goalScale : Nat → Int64) (fO_start : Nat → Int32) (fO_column : Nat → Int32) (fO_chosen : Nat → Int32) (aM : Nat → Nat) (kM : Nat → ClassId) (iM_stands : Int32) (iM_variables : Int32) (iM_rows : Int32) (iM_goals : Int32) (iM_differents : Int32) (iM_cases : Int32) (fM_from : Nat → Int32) (fM_to : Nat → Int32) (fM_whole : Nat → Int32) (fM_ways : Nat → Int32) (iM_plainRows : Int32) (fM_plainRow : Nat → Int32) (fM_kept : Nat → Int32) (fM_goalOver : Nat → Int32) (fM_goalUnder : Nat → Int32) (fM_goalMax : Nat → Int32) (fM_different : Nat → Int32) (aQ : Nat → Nat) (kQ : Nat → ClassId) (fQ_inside : Nat → Int32) (fQ_outside : Nat → Int32) (fQ_shut : Nat → Int32) (iQ_rows : Int32) (iQ_allRows : Int32) (iQ_columns : Int32) (nW : Nat) (lw : Nat → Nat) (kw : ClassId) (wl : Nat → Int32) (wb : Nat → Int32) (wG : Nat → Nat → Int64) (b_iO_answered : 0 ≤ iO_answered.toInt ∧ iO_answered.toInt ≤ 1) (b_iO_searched : 0 ≤ iO_searched.toInt ∧ iO_searched.toInt ≤ 1) (b_iO_searchedRelaxed : 0 ≤ iO_searchedRelaxed.toInt ∧ iO_searchedRelaxed.toInt ≤ 1) (b_iO_counted : (-1) ≤ iO_counted.toInt ∧ iO_counted.toInt ≤ 64) (b_fO_countedCase : ∀ q : Nat, 0 ≤ (fO_countedCase q).toInt ∧ (fO_countedCase q).toInt ≤ 200000) (b_fO_column : ∀ q : Nat, (-1) ≤ (fO_column q).toInt ∧ (fO_column q).toInt ≤ 8) (b_fO_chosen : ∀ q : Nat, 0 ≤ (fO_chosen q).toInt ∧ (fO_chosen q).toInt ≤ 2) (b_iM_stands : 0 ≤ iM_stands.toInt ∧ iM_stands.toInt ≤ 1) (b_iM_variables : 0 ≤ iM_variables.toInt ∧ iM_variables.toInt ≤ 8) (b_iM_rows : 0 ≤ iM_rows.toInt ∧ iM_rows.toInt ≤ 12) (b_iM_goals : 0 ≤ iM_goals.toInt ∧ iM_goals.toInt ≤ 3) (b_iM_differents : 0 ≤ iM_differents.toInt ∧ iM_differents.toInt ≤ 8) (b_iM_cases : 0 ≤ iM_cases.toInt ∧ iM_cases.toInt ≤ 200000) (b_fM_ways : ∀ q : Nat, 0 ≤ (fM_ways q).toInt ∧ (fM_ways q).toInt ≤ 3) (b_iM_plainRows : 0 ≤ iM_plainRows.toInt ∧ iM_plainRows.toInt ≤ 12) (b_fM_plainRow : ∀ q : Nat, 0 ≤ (fM_plainRow q).toInt ∧ (fM_plainRow q).toInt ≤ 11) (b_pr : iM_plainRows.toInt ≤ iM_rows.toInt) (b_iQ_rows : 0 ≤ iQ_rows.toInt ∧ iQ_rows.toInt ≤ 40) (b_iQ_allRows : 0 ≤ iQ_allRows.toInt ∧ iQ_allRows.toInt ≤ 40) (b_iQ_columns : 0 ≤ iQ_columns.toInt ∧ iQ_columns.toInt ≤ 40) (b_tb : TbO iQ_rows iQ_allRows iQ_columns) (b_wl : ∀ q : Nat, 0 ≤ (wl q).toInt ∧ (wl q).toInt ≤ 14) (b_wb : ∀ q : Nat, 0 ≤ (wb q).toInt ∧ (wb q).toInt ≤ 1) (hnW : 432 ≤ nW) (sz : Nat) : Met l yX5_shortenTold wsMX5_shortenTold ({ frames := 3, cells := 0, slots := 0, locals := 68 }) (va_Pc [.ref (hO 0)] (fun U => U.heap.size = sz ∧ va_P (dC, dI) vwCl (WO hO aO kO hM hQ hw iO_answered iO_searched iO_searchedRelaxed iO_counted fO_countedCase gO_goalNumber gO_goalScale fO_start fO_column fO_chosen ++ (WM hM aM kM iM_stands iM_variables iM_rows iM_goals iM_differents iM_cases fM_from fM_to fM_whole fM_ways iM_plainRows fM_plainRow fM_kept fM_goalOver fM_goalUnder fM_goalMax fM_different ++ (WQ hQ aQ kQ hw fQ_inside fQ_outside fQ_shut iQ_rows iQ_allRows iQ_columns ++ (WW nW hw lw kw wl wb wG)))) U.heap ∧ va_K (dC, dI) vwCl (tO kO ++ (tM kM ++ (tQ kQ ++ (tW kw)))) U ∧ va_D (fun _ => True) (WO hO aO kO hM hQ hw iO_answered iO_searched iO_searchedRelaxed iO_counted fO_countedCase gO_goalNumber gO_goalScale fO_start fO_column fO_chosen ++ (WM hM aM kM iM_stands iM_variables iM_rows iM_goals iM_differents iM_cases fM_from fM_to fM_whole fM_ways iM_plainRows fM_plainRow fM_kept fM_goalOver fM_goalUnder fM_goalMax fM_different ++ (WQ hQ aQ kQ hw fQ_inside fQ_outside fQ_shut iQ_rows iQ_allRows iQ_columns ++ (WW nW hw lw kw wl wb wG)))))) (va_Qv (fun (u : (Nat → Int32) × (Nat → Int32) × (Nat → Nat → Int64)) => (∀ q : Nat, 0 ≤ ((u.1) q).toInt ∧ ((u.1) q).toInt ≤ 14) ∧ (∀ q : Nat, 0 ≤ ((u.2.1) q).toInt ∧ ((u.2.1) q).toInt ≤ 1)) (fun (u : (Nat → Int32) × (Nat → Int32) × (Nat → Nat → Int64)) t => va_P (dC, dI) vwCl (WO hO aO kO hM hQ hw iO_answered iO_searched iO_searchedRelaxed iO_counted fO_countedCase gO_goalNumber gO_goalScale fO_start fO_column fO_chosen ++ (WM hM aM kM iM_stands iM_variables iM_rows iM_goals iM_differents iM_cases fM_from fM_to fM_whole fM_ways iM_plainRows fM_plainRow fM_kept fM_goalOver fM_goalUnder fM_goalMax fM_different ++ (WQ hQ aQ kQ hw fQ_inside fQ_outside fQ_shut iQ_rows iQ_allRows iQ_columns ++ (WW nW hw lw kw (u.1) (u.2.1) (u.2.2))))) t.heap ∧ va_D (va_A (WO hO aO kO hM hQ hw iO_answered iO_searched iO_searchedRelaxed iO_counted fO_countedCase gO_goalNumber gO_goalScale fO_start fO_column fO_chosen ++ (WM hM aM kM iM_stands iM_variables iM_rows iM_goals iM_differents iM_cases fM_from fM_to fM_whole fM_ways iM_plainRows fM_plainRow fM_kept fM_goalOver fM_goalUnder fM_goalMax fM_different ++ (WQ hQ aQ kQ hw fQ_inside fQ_outside fQ_shut iQ_rows iQ_allRows iQ_columns ++ (WW nW hw lw kw wl wb wG)))) sz) (WO hO aO kO hM hQ hw iO_answered iO_searched iO_searchedRelaxed iO_counted fO_countedCase gO_goalNumber gO_goalScale fO_start fO_column fO_chosen ++ (WM hM aM kM iM_stands iM_variables iM_rows iM_goals iM_differents iM_cases fM_from fM_to fM_whole fM_ways iM_plainRows fM_plainRow fM_kept fM_goalOver fM_goalUnder fM_goalMax fM_different ++ (WQ hQ aQ kQ hw fQ_inside fQ_outside fQ_shut iQ_rows iQ_allRows iQ_columns ++ (WW nW hw lw kw (u.1) (u.2.1) (u.2.2)))))) (va_A (WO hO aO kO hM hQ hw iO_answered iO_searched iO_searchedRelaxed iO_counted fO_countedCase gO_goalNumber gO_goalScale fO_start fO_column fO_chosen ++ (WM hM aM kM iM_stands iM_variables iM_rows iM_goals iM_differents iM_cases fM_from fM_to fM_whole fM_ways iM_plainRows fM_plainRow fM_kept fM_goalOver fM_goalUnder fM_goalMax fM_different ++ (WQ hQ aQ kQ hw fQ_inside fQ_outside fQ_shut iQ_rows iQ_allRows iQ_columns ++ (WW nW hw lw kw wl wb wG)))) sz)) 0 0 (va_A (WO hO aO kO hM hQ hw iO_answered iO_searched iO_searchedRelaxed iO_counted fO_countedCase gO_goalNumber gO_goalScale fO_start fO_column fO_chosen ++ (WM hM aM kM iM_stands iM_variables iM_rows iM_goals iM_differents iM_cases fM_from fM_to fM_whole fM_ways iM_plainRows fM_plainRow fM_kept fM_goalOver fM_goalUnder fM_goalMax fM_different ++ (WQ hQ aQ kQ hw fQ_inside fQ_outside fQ_shut iQ_rows iQ_allRows iQ_columns ++ (WW nW hw lw kw wl wb wG)))) sz) := by
  refine Met.ofW (cc := cX5_shortenTold) (maxL := 6) (ret := none) (by decide) rfl ?_
  intro p e s m args below meth c s₁ B hml hv
  obtain ⟨rfl, hsz, hP, hK, hD0⟩ := hv
  have hx := B.exec
  have hb := B.bytes
  have hr := B.returns
  have hts := atoms_spec (ws := wsMX5_shortenTold) B.pre
  have hown : s.vm.findClass RX5 = some m.cls := findClass_of_methodNamed B.named
  have hlocks := B.notSynchronized
  subst hsz
  have hD := hD0.self (sz := s.heap.size)
  generalize hAe : va_A (WO hO aO kO hM hQ hw iO_answered iO_searched iO_searchedRelaxed iO_counted fO_countedCase gO_goalNumber gO_goalScale fO_start fO_column fO_chosen ++ (WM hM aM kM iM_stands iM_variables iM_rows iM_goals iM_differents iM_cases fM_from fM_to fM_whole fM_ways iM_plainRows fM_plainRow fM_kept fM_goalOver fM_goalUnder fM_goalMax fM_different ++ (WQ hQ aQ kQ hw fQ_inside fQ_outside fQ_shut iQ_rows iQ_allRows iQ_columns ++ (WW nW hw lw kw wl wb wG)))) s.heap.size = A at hD ⊢
  have hA : ∀ q : Nat, s.heap.size ≤ q → A q := fun q h => by rw [← hAe]; exact Or.inr h
  have hS : va_S A s.heap s.heap [] := va_S.rf
  have hl := lv_entry ([.ref (hO 0)]) (n := 6) (Nat.le_of_ble_eq_true rfl)
  rw [lg_entry_eq]
  generalize (lg_sl ([.ref (hO 0)]) ++ List.replicate (6 - (lg_sl ([.ref (hO 0)])).length) Slot.unset).toArray = ls at hl ⊢
  have hl : lv_has ls 6 [(0, .ref (hO 0))] := hl
  refine lv_aload_n hx hb dX5_shortenTold_0 rfl (lv_at hl 0 rfl) ?_
  refine va_get (D := (dC, dI)) (ci := 5) (v := .ref (aO 9)) (C := RX5) (T := TX5) (N := 19) hx hb hts iwsMX5_shortenTold_in5 hown hK hP 0 rfl rfl 18 (by decide) (hts _ hm_m_X5_shortenTold_0) (fun _ h9 => h9) rfl dX5_shortenTold_1 ?_
  refine lv_iconst (v := 0) hx hb dX5_shortenTold_4 (by decide) ?_
  refine va_aldq (cA := kO 9) (n := 4) (f := fun q => some (hw (428 + q))) hx hb hK hP 10 9 rfl rfl (show ¬ ((0 : Int32) < 0 ∨ 4 ≤ (0 : Int32).toNatClampNeg) by decide) dX5_shortenTold_5 ?_
  obtain ⟨k1, hk1, b_k1⟩ : ∃ k9 : Nat, k9 = 428 + (0 : Int32).toNatClampNeg ∧ (428 ≤ k9 ∧ k9 < 432 ∧ (k9 : Int) = 428 + 0) := ⟨_, rfl, ald_k (x := (0 : Int32)) (o := 428) (n := 4) (by decide : (0 : Int32).toInt = 0) (by omega) (by omega)⟩
  refine W.eq (g2 := F0 m 6 ls [.ref (hw k1)]) (by rw [hk1]; rfl) ?_
  clear hk1
  refine lv_astore_n hx hb dX5_shortenTold_6 rfl hl (by decide) rfl (fun ls (hl : lv_has ls _ ([(1, .ref (hw k1)), (0, .ref (hO 0))])) => ?_)
  refine lv_aload_n hx hb dX5_shortenTold_7 rfl (lv_at hl 1 rfl) ?_
  refine va_get (D := (dC, dI)) (ci := 5) (v := .ref (aO 9)) (C := RX5) (T := TX5) (N := 19) hx hb hts iwsMX5_shortenTold_in5 hown hK hP 0 rfl rfl 18 (by decide) (hts _ hm_m_X5_shortenTold_0) (fun _ h9 => h9) rfl dX5_shortenTold_8 ?_
  refine lv_iconst (v := 1) hx hb dX5_shortenTold_11 (by decide) ?_
  refine va_aldq (cA := kO 9) (n := 4) (f := fun q => some (hw (428 + q))) hx hb hK hP 10 9 rfl rfl (show ¬ ((1 : Int32) < 0 ∨ 4 ≤ (1 : Int32).toNatClampNeg) by decide) dX5_shortenTold_12 ?_
  obtain ⟨k2, hk2, b_k2⟩ : ∃ k9 : Nat, k9 = 428 + (1 : Int32).toNatClampNeg ∧ (428 ≤ k9 ∧ k9 < 432 ∧ (k9 : Int) = 428 + 1) := ⟨_, rfl, ald_k (x := (1 : Int32)) (o := 428) (n := 4) (by decide : (1 : Int32).toInt = 1) (by omega) (by omega)⟩
  refine W.eq (g2 := F0 m 13 ls [.ref (hw k2)]) (by rw [hk2]; rfl) ?_
  clear hk2
  refine lv_astore_n hx hb dX5_shortenTold_13 rfl hl (by decide) rfl (fun ls (hl : lv_has ls _ ([(2, .ref (hw k2)), (1, .ref (hw k1)), (0, .ref (hO 0))])) => ?_)
  refine lv_aload_n hx hb dX5_shortenTold_14 rfl (lv_at hl 2 rfl) ?_
  refine va_get (D := (dC, dI)) (ci := 5) (v := .ref (aO 9)) (C := RX5) (T := TX5) (N := 19) hx hb hts iwsMX5_shortenTold_in5 hown hK hP 0 rfl rfl 18 (by decide) (hts _ hm_m_X5_shortenTold_0) (fun _ h9 => h9) rfl dX5_shortenTold_15 ?_
  refine lv_iconst (v := 2) hx hb dX5_shortenTold_18 (by decide) ?_
  refine va_aldq (cA := kO 9) (n := 4) (f := fun q => some (hw (428 + q))) hx hb hK hP 10 9 rfl rfl (show ¬ ((2 : Int32) < 0 ∨ 4 ≤ (2 : Int32).toNatClampNeg) by decide) dX5_shortenTold_19 ?_
  obtain ⟨k3, hk3, b_k3⟩ : ∃ k9 : Nat, k9 = 428 + (2 : Int32).toNatClampNeg ∧ (428 ≤ k9 ∧ k9 < 432 ∧ (k9 : Int) = 428 + 2) := ⟨_, rfl, ald_k (x := (2 : Int32)) (o := 428) (n := 4) (by decide : (2 : Int32).toInt = 2) (by omega) (by omega)⟩
  refine W.eq (g2 := F0 m 20 ls [.ref (hw k3)]) (by rw [hk3]; rfl) ?_
  clear hk3
  refine lv_astore_n hx hb dX5_shortenTold_20 rfl hl (by decide) rfl (fun ls (hl : lv_has ls _ ([(3, .ref (hw k3)), (2, .ref (hw k2)), (1, .ref (hw k1)), (0, .ref (hO 0))])) => ?_)
  refine lv_aload_n hx hb dX5_shortenTold_21 rfl (lv_at hl 2 rfl) ?_
  refine lv_aload_n hx hb dX5_shortenTold_22 rfl (lv_at hl 3 rfl) ?_
  refine va_get (D := (dC, dI)) (ci := 5) (v := .ref (hw 426)) (C := RX5) (T := TX5) (N := 19) hx hb hts iwsMX5_shortenTold_in5 hown hK hP 0 rfl rfl 16 (by decide) (hts _ hm_m_X5_shortenTold_1) (fun _ h9 => h9) rfl dX5_shortenTold_23 ?_
  have p9 := cj_4_3 (WO hO aO kO hM hQ hw iO_answered iO_searched iO_searchedRelaxed iO_counted fO_countedCase gO_goalNumber gO_goalScale fO_start fO_column fO_chosen) (WM hM aM kM iM_stands iM_variables iM_rows iM_goals iM_differents iM_cases fM_from fM_to fM_whole fM_ways iM_plainRows fM_plainRow fM_kept fM_goalOver fM_goalUnder fM_goalMax fM_different) (WQ hQ aQ kQ hw fQ_inside fQ_outside fQ_shut iQ_rows iQ_allRows iQ_columns) (WW nW hw lw kw wl wb wG)
  have hPc := hP.mem (fun q h => p9.mem_iff.mpr (List.mem_append_left _ h))
  have hDc := (hD.perm p9).left
  have hKc : va_K (dC, dI) vwCl (tW kw) _ := hK.sub [24] rfl
  have hFc := freeG p9 hD hS hA
  refine va_callv (va_runV (As := [.ref (hw 426)]) (rest := []) ⟨hx, hb, hml, hown, hts⟩ (m_X8_copy l dC dI nW hw lw kw wl wb wG k1 426 b_wl b_wb (by first | with_reducible assumption | omega | (rw [iI_t (by omega) (by omega)]; omega) | decide | assumption) (by first | with_reducible assumption | omega | (rw [iI_t (by omega) (by omega)]; omega) | decide | assumption) s.heap.size) (cwV 1 hts gwsMX5_shortenTold_0 rfl rfl rfl hd_yX8_copy_RX8 (by decide +kernel)) (fz_pre (va_recv hK hP (ci := 8) (q0 := 11 + (11 + (5 + (k1)))) rfl (apR rfl (apR rfl (apR rfl (WW_o (by omega)))))) hPc hKc hDc) rfl rfl hl.1 rfl (lv_room (Nat.le_of_ble_eq_true rfl)) dX5_shortenTold_26 (by decide +kernel)) hS (fun q _ h => hFc q h) hFc (fun u t9_ H locs ht hvm hw9 hB9 hz1 hk1 hS => ?_)
  revert u hw9 hB9
  refine fz_p3 ?_
  intro wl_4 wb_4 wG_4 hw9 hB9
  try dsimp only at hw9 hB9
  revert hw9
  refine fz_a2 ?_
  intro b_wl_4 b_wb_4
  have p8 := cj_4_3 (WO hO aO kO hM hQ hw iO_answered iO_searched iO_searchedRelaxed iO_counted fO_countedCase gO_goalNumber gO_goalScale fO_start fO_column fO_chosen) (WM hM aM kM iM_stands iM_variables iM_rows iM_goals iM_differents iM_cases fM_from fM_to fM_whole fM_ways iM_plainRows fM_plainRow fM_kept fM_goalOver fM_goalUnder fM_goalMax fM_different) (WQ hQ aQ kQ hw fQ_inside fQ_outside fQ_shut iQ_rows iQ_allRows iQ_columns) (WW nW hw lw kw wl_4 wb_4 wG_4)
  obtain ⟨hP, hD⟩ := frameG p9 p8 hP hD hk1 hFc (fz_P ht hB9.1) hB9.2
  refine lv_aload_n hx hb dX5_shortenTold_29 rfl (lv_at hl 1 rfl) ?_
  refine lv_aload_n hx hb dX5_shortenTold_30 rfl (lv_at hl 3 rfl) ?_
  refine va_get (D := (dC, dI)) (ci := 5) (v := .ref (hw 427)) (C := RX5) (T := TX5) (N := 19) hx hb hts iwsMX5_shortenTold_in5 hown hK hP 0 rfl rfl 17 (by decide) (hts _ hm_m_X5_shortenTold_2) (fun _ h9 => h9) rfl dX5_shortenTold_31 ?_
  have p9 := cj_4_3 (WO hO aO kO hM hQ hw iO_answered iO_searched iO_searchedRelaxed iO_counted fO_countedCase gO_goalNumber gO_goalScale fO_start fO_column fO_chosen) (WM hM aM kM iM_stands iM_variables iM_rows iM_goals iM_differents iM_cases fM_from fM_to fM_whole fM_ways iM_plainRows fM_plainRow fM_kept fM_goalOver fM_goalUnder fM_goalMax fM_different) (WQ hQ aQ kQ hw fQ_inside fQ_outside fQ_shut iQ_rows iQ_allRows iQ_columns) (WW nW hw lw kw wl_4 wb_4 wG_4)
  have hPc := hP.mem (fun q h => p9.mem_iff.mpr (List.mem_append_left _ h))
  have hDc := (hD.perm p9).left
  have hKc : va_K (dC, dI) vwCl (tW kw) _ := hK.sub [24] rfl
  have hFc := freeG p9 hD hS hA
  refine va_callv (va_runV (As := [.ref (hw 427)]) (rest := []) ⟨hx, hb, hml, hown, hts⟩ (m_X8_copy l dC dI nW hw lw kw wl_4 wb_4 wG_4 k2 427 b_wl_4 b_wb_4 (by first | with_reducible assumption | omega | (rw [iI_t (by omega) (by omega)]; omega) | decide | assumption) (by first | with_reducible assumption | omega | (rw [iI_t (by omega) (by omega)]; omega) | decide | assumption) H.size) (cwV 1 hts gwsMX5_shortenTold_0 rfl rfl rfl hd_yX8_copy_RX8 (by decide +kernel)) (fz_pre (va_recv hK hP (ci := 8) (q0 := 11 + (11 + (5 + (k2)))) rfl (apR rfl (apR rfl (apR rfl (WW_o (by omega)))))) hPc hKc hDc) rfl rfl hl.1 rfl (lv_room (Nat.le_of_ble_eq_true rfl)) dX5_shortenTold_34 (by decide +kernel)) hS (fun q _ h => hFc q h) hFc (fun u t9_ H locs ht hvm hw9 hB9 hz1 hk1 hS => ?_)
  revert u hw9 hB9
  refine fz_p3 ?_
  intro wl_5 wb_5 wG_5 hw9 hB9
  try dsimp only at hw9 hB9
  revert hw9
  refine fz_a2 ?_
  intro b_wl_5 b_wb_5
  have p8 := cj_4_3 (WO hO aO kO hM hQ hw iO_answered iO_searched iO_searchedRelaxed iO_counted fO_countedCase gO_goalNumber gO_goalScale fO_start fO_column fO_chosen) (WM hM aM kM iM_stands iM_variables iM_rows iM_goals iM_differents iM_cases fM_from fM_to fM_whole fM_ways iM_plainRows fM_plainRow fM_kept fM_goalOver fM_goalUnder fM_goalMax fM_different) (WQ hQ aQ kQ hw fQ_inside fQ_outside fQ_shut iQ_rows iQ_allRows iQ_columns) (WW nW hw lw kw wl_5 wb_5 wG_5)
  obtain ⟨hP, hD⟩ := frameG p9 p8 hP hD hk1 hFc (fz_P ht hB9.1) hB9.2
  refine lv_iconst (v := 0) hx hb dX5_shortenTold_37 (by decide) ?_
  refine lv_istore hx hb dX5_shortenTold_38 hl (by decide) rfl (fun ls (hl : lv_has ls _ ([(4, .int 0), (3, .ref (hw k3)), (2, .ref (hw k2)), (1, .ref (hw k1)), (0, .ref (hO 0))])) => ?_)
  have hl : lv_has _ _ ([(4, .int 0), (3, .ref (hw k3)), (2, .ref (hw k2)), (1, .ref (hw k1)), (0, .ref (hO 0))]) := lv_sub hl [0, 1, 2, 3, 4] rfl
  refine (fun (loop : ∀ (n9 : Nat) (wl_x40 : Nat → Int32) (wb_x40 : Nat → Int32) (wG_x40 : Nat → Nat → Int64) (l4_x40 : Int32) (l3_x40 : Nat) (l2_x40 : Nat) (l1_x40 : Nat) (H : Heap) (locs : List Loc) (ls : Array Slot), (∀ q : Nat, 0 ≤ (wl_x40 q).toInt ∧ (wl_x40 q).toInt ≤ 14) → (∀ q : Nat, 0 ≤ (wb_x40 q).toInt ∧ (wb_x40 q).toInt ≤ 1) → (0 ≤ l4_x40.toInt ∧ l4_x40.toInt ≤ 1000) → (428 ≤ l3_x40 ∧ l3_x40 ≤ 430) → (428 ≤ l2_x40 ∧ l2_x40 ≤ 430) → (428 ≤ l1_x40 ∧ l1_x40 ≤ 430) → (1000 - l4_x40.toInt < ((n9 : Nat) : Int)) → va_P (dC, dI) vwCl (WO hO aO kO hM hQ hw iO_answered iO_searched iO_searchedRelaxed iO_counted fO_countedCase gO_goalNumber gO_goalScale fO_start fO_column fO_chosen ++ (WM hM aM kM iM_stands iM_variables iM_rows iM_goals iM_differents iM_cases fM_from fM_to fM_whole fM_ways iM_plainRows fM_plainRow fM_kept fM_goalOver fM_goalUnder fM_goalMax fM_different ++ (WQ hQ aQ kQ hw fQ_inside fQ_outside fQ_shut iQ_rows iQ_allRows iQ_columns ++ (WW nW hw lw kw wl_x40 wb_x40 wG_x40)))) H → va_D A (WO hO aO kO hM hQ hw iO_answered iO_searched iO_searchedRelaxed iO_counted fO_countedCase gO_goalNumber gO_goalScale fO_start fO_column fO_chosen ++ (WM hM aM kM iM_stands iM_variables iM_rows iM_goals iM_differents iM_cases fM_from fM_to fM_whole fM_ways iM_plainRows fM_plainRow fM_kept fM_goalOver fM_goalUnder fM_goalMax fM_different ++ (WQ hQ aQ kQ hw fQ_inside fQ_outside fQ_shut iQ_rows iQ_allRows iQ_columns ++ (WW nW hw lw kw wl_x40 wb_x40 wG_x40)))) → va_S A s.heap H locs → lv_has ls 6 [(4, .int l4_x40), (3, .ref (hw l3_x40)), (2, .ref (hw l2_x40)), (1, .ref (hw l1_x40)), (0, .ref (hO 0))] → W p l e _ s m _ below meth c H locs 0 0 _ (F0 m 40 ls [])) => loop (1001) wl_5 wb_5 wG_5 0 k3 k2 k1 _ _ _ b_wl_5 b_wb_5 (show 0 ≤ (0 : Int32).toInt ∧ (0 : Int32).toInt ≤ 1000 from by decide) ⟨by omega, by omega⟩ ⟨by omega, by omega⟩ ⟨by omega, by omega⟩ ((by have e9 : (0 : Int32).toInt = 0 := (by decide : (0 : Int32).toInt = 0); omega)) hP hD hS hl) ?_
  intro n9
  induction n9 with
  | zero => intro wl_x40 wb_x40 wG_x40 l4_x40 l3_x40 l2_x40 l1_x40 H locs ls b_wl_x40 b_wb_x40 b_l4_x40 b_l3_x40 b_l2_x40 b_l1_x40 hf9; exact False.elim (by omega)
  | succ n9 ihx40 =>
    intro wl_x40 wb_x40 wG_x40 l4_x40 l3_x40 l2_x40 l1_x40 H locs ls b_wl_x40 b_wb_x40 b_l4_x40 b_l3_x40 b_l2_x40 b_l1_x40 hfx40 hP hD hS hl
    refine lv_iload hx hb dX5_shortenTold_40 (lv_at hl 0 rfl) ?_
    refine lv_sipush (v := 1000) hx hb dX5_shortenTold_42 (by decide) ?_
    refine W.cut (pc := 83) (fun H locs ls stk =>  stk = [] ∧ va_P (dC, dI) vwCl (WO hO aO kO hM hQ hw iO_answered iO_searched iO_searchedRelaxed iO_counted fO_countedCase gO_goalNumber gO_goalScale fO_start fO_column fO_chosen ++ (WM hM aM kM iM_stands iM_variables iM_rows iM_goals iM_differents iM_cases fM_from fM_to fM_whole fM_ways iM_plainRows fM_plainRow fM_kept fM_goalOver fM_goalUnder fM_goalMax fM_different ++ (WQ hQ aQ kQ hw fQ_inside fQ_outside fQ_shut iQ_rows iQ_allRows iQ_columns ++ (WW nW hw lw kw wl_x40 wb_x40 wG_x40)))) H ∧ va_D A (WO hO aO kO hM hQ hw iO_answered iO_searched iO_searchedRelaxed iO_counted fO_countedCase gO_goalNumber gO_goalScale fO_start fO_column fO_chosen ++ (WM hM aM kM iM_stands iM_variables iM_rows iM_goals iM_differents iM_cases fM_from fM_to fM_whole fM_ways iM_plainRows fM_plainRow fM_kept fM_goalOver fM_goalUnder fM_goalMax fM_different ++ (WQ hQ aQ kQ hw fQ_inside fQ_outside fQ_shut iQ_rows iQ_allRows iQ_columns ++ (WW nW hw lw kw wl_x40 wb_x40 wG_x40)))) ∧ va_S A s.heap H locs ∧ lv_has ls 6 [(4, .int l4_x40), (3, .ref (hw l3_x40)), (2, .ref (hw l2_x40)), (1, .ref (hw l1_x40)), (0, .ref (hO 0))]) (fun join9 => ?_) ?_
    · refine lv_icmp_ge (tgt := 83) hx hb dX5_shortenTold_45 (by decide) (fun c_45 => ?_) (fun c_45 => ?_)
      · have t_45 : l4_x40.toInt ≥ 1000 := toI_ge c_45 rfl (by decide : (1000 : Int32).toInt = 1000)
        have hl : lv_has _ _ ([(4, .int l4_x40), (3, .ref (hw l3_x40)), (2, .ref (hw l2_x40)), (1, .ref (hw l1_x40)), (0, .ref (hO 0))]) := lv_sub hl [0, 1, 2, 3, 4] rfl
        exact join9 _ _ _ _ ⟨rfl, hP, hD, hS, hl⟩
      · have t_45 : ¬ l4_x40.toInt ≥ 1000 := toI_nge c_45 rfl (by decide : (1000 : Int32).toInt = 1000)
        refine lv_aload_n hx hb dX5_shortenTold_48 rfl (lv_at hl 2 rfl) ?_
        refine va_get (D := (dC, dI)) (ci := 8) (v := .int (wl_x40 l2_x40)) (C := RX8) (T := TX8) (N := 3) hx hb hts iwsMX5_shortenTold_in8 hown hK hP (11 + (11 + (5 + (l2_x40)))) (apR rfl (apR rfl (apR rfl (WW_o (by omega))))) rfl 1 (by decide) (hts (.fieldLink RX5 275 "OptimaWorks$Whole" "length" "I") (by decide +kernel)) (fun _ h9 => h9) rfl dX5_shortenTold_49 ?_
        have br49 := b_wl_x40 l2_x40
        refine lv_if_eq (tgt := 83) hx hb dX5_shortenTold_52 (by decide) (fun c_52 => ?_) (fun c_52 => ?_)
        · have t_52 : (wl_x40 l2_x40).toInt = 0 := toI_eq c_52 rfl (by decide : (0 : Int32).toInt = 0)
          have hl : lv_has _ _ ([(4, .int l4_x40), (3, .ref (hw l3_x40)), (2, .ref (hw l2_x40)), (1, .ref (hw l1_x40)), (0, .ref (hO 0))]) := lv_sub hl [0, 1, 2, 3, 4] rfl
          exact join9 _ _ _ _ ⟨rfl, hP, hD, hS, hl⟩
        · have t_52 : ¬ (wl_x40 l2_x40).toInt = 0 := toI_neq c_52 rfl (by decide : (0 : Int32).toInt = 0)
          refine lv_aload_n hx hb dX5_shortenTold_55 rfl (lv_at hl 3 rfl) ?_
          refine lv_aload_n hx hb dX5_shortenTold_56 rfl (lv_at hl 2 rfl) ?_
          refine lv_aload_n hx hb dX5_shortenTold_57 rfl (lv_at hl 1 rfl) ?_
          refine lv_aload_n hx hb dX5_shortenTold_58 rfl (lv_at hl 4 rfl) ?_
          refine va_get (D := (dC, dI)) (ci := 5) (v := .ref (aO 9)) (C := RX5) (T := TX5) (N := 19) hx hb hts iwsMX5_shortenTold_in5 hown hK hP 0 rfl rfl 18 (by decide) (hts _ hm_m_X5_shortenTold_0) (fun _ h9 => h9) rfl dX5_shortenTold_59 ?_
          refine lv_iconst (v := 3) hx hb dX5_shortenTold_62 (by decide) ?_
          refine va_aldq (cA := kO 9) (n := 4) (f := fun q => some (hw (428 + q))) hx hb hK hP 10 9 rfl rfl (show ¬ ((3 : Int32) < 0 ∨ 4 ≤ (3 : Int32).toNatClampNeg) by decide) dX5_shortenTold_63 ?_
          obtain ⟨k36, hk36, b_k36⟩ : ∃ k9 : Nat, k9 = 428 + (3 : Int32).toNatClampNeg ∧ (428 ≤ k9 ∧ k9 < 432 ∧ (k9 : Int) = 428 + 3) := ⟨_, rfl, ald_k (x := (3 : Int32)) (o := 428) (n := 4) (by decide : (3 : Int32).toInt = 3) (by omega) (by omega)⟩
          refine W.eq (g2 := F0 m 64 ls [.ref (hw k36), .ref (hw l3_x40), .ref (hw l2_x40), .ref (hw l1_x40)]) (by rw [hk36]; rfl) ?_
          clear hk36
          have p9 := cj_4_3 (WO hO aO kO hM hQ hw iO_answered iO_searched iO_searchedRelaxed iO_counted fO_countedCase gO_goalNumber gO_goalScale fO_start fO_column fO_chosen) (WM hM aM kM iM_stands iM_variables iM_rows iM_goals iM_differents iM_cases fM_from fM_to fM_whole fM_ways iM_plainRows fM_plainRow fM_kept fM_goalOver fM_goalUnder fM_goalMax fM_different) (WQ hQ aQ kQ hw fQ_inside fQ_outside fQ_shut iQ_rows iQ_allRows iQ_columns) (WW nW hw lw kw wl_x40 wb_x40 wG_x40)
          have hPc := hP.mem (fun q h => p9.mem_iff.mpr (List.mem_append_left _ h))
          have hDc := (hD.perm p9).left
          have hKc : va_K (dC, dI) vwCl (tW kw) _ := hK.sub [24] rfl
          have hFc := freeG p9 hD hS hA
          refine va_callv (va_runV (As := [.ref (hw l2_x40), .ref (hw l3_x40), .ref (hw k36)]) (rest := []) ⟨hx, hb, hml, hown, hts⟩ (m_X8_divide l dC dI nW hw lw kw wl_x40 wb_x40 wG_x40 l1_x40 l2_x40 l3_x40 k36 b_wl_x40 b_wb_x40 (by first | with_reducible assumption | omega | (rw [iI_t (by omega) (by omega)]; omega) | decide | assumption) (by first | with_reducible assumption | omega | (rw [iI_t (by omega) (by omega)]; omega) | decide | assumption) (by first | with_reducible assumption | omega | (rw [iI_t (by omega) (by omega)]; omega) | decide | assumption) (by first | with_reducible assumption | omega | (rw [iI_t (by omega) (by omega)]; omega) | decide | assumption) (by omega) H.size) (cwV 3 hts gwsMX5_shortenTold_1 rfl rfl rfl hd_yX8_divide_RX8 (by decide +kernel)) (fz_pre (va_recv hK hP (ci := 8) (q0 := 11 + (11 + (5 + (l1_x40)))) rfl (apR rfl (apR rfl (apR rfl (WW_o (by omega)))))) hPc hKc hDc) rfl rfl hl.1 rfl (lv_room (Nat.le_of_ble_eq_true rfl)) dX5_shortenTold_64 (by decide +kernel)) hS (fun q _ h => hFc q h) hFc (fun u t9_ H locs ht hvm hw9 hB9 hz1 hk1 hS => ?_)
          revert u hw9 hB9
          refine fz_p3 ?_
          intro wl_37 wb_37 wG_37 hw9 hB9
          try dsimp only at hw9 hB9
          revert hw9
          refine fz_a2 ?_
          intro b_wl_37 b_wb_37
          have p8 := cj_4_3 (WO hO aO kO hM hQ hw iO_answered iO_searched iO_searchedRelaxed iO_counted fO_countedCase gO_goalNumber gO_goalScale fO_start fO_column fO_chosen) (WM hM aM kM iM_stands iM_variables iM_rows iM_goals iM_differents iM_cases fM_from fM_to fM_whole fM_ways iM_plainRows fM_plainRow fM_kept fM_goalOver fM_goalUnder fM_goalMax fM_different) (WQ hQ aQ kQ hw fQ_inside fQ_outside fQ_shut iQ_rows iQ_allRows iQ_columns) (WW nW hw lw kw wl_37 wb_37 wG_37)
          obtain ⟨hP, hD⟩ := frameG p9 p8 hP hD hk1 hFc (fz_P ht hB9.1) hB9.2
          refine lv_aload_n hx hb dX5_shortenTold_67 rfl (lv_at hl 3 rfl) ?_
          refine lv_astore hx hb dX5_shortenTold_68 hl (by decide) rfl (fun ls (hl : lv_has ls _ ([(5, .ref (hw l1_x40)), (4, .int l4_x40), (3, .ref (hw l3_x40)), (2, .ref (hw l2_x40)), (1, .ref (hw l1_x40)), (0, .ref (hO 0))])) => ?_)
          refine lv_aload_n hx hb dX5_shortenTold_70 rfl (lv_at hl 3 rfl) ?_
          refine lv_astore_n hx hb dX5_shortenTold_71 rfl hl (by decide) rfl (fun ls (hl : lv_has ls _ ([(1, .ref (hw l2_x40)), (5, .ref (hw l1_x40)), (4, .int l4_x40), (3, .ref (hw l3_x40)), (2, .ref (hw l2_x40)), (0, .ref (hO 0))])) => ?_)
          refine lv_aload_n hx hb dX5_shortenTold_72 rfl (lv_at hl 3 rfl) ?_
          refine lv_astore_n hx hb dX5_shortenTold_73 rfl hl (by decide) rfl (fun ls (hl : lv_has ls _ ([(2, .ref (hw l3_x40)), (1, .ref (hw l2_x40)), (5, .ref (hw l1_x40)), (4, .int l4_x40), (3, .ref (hw l3_x40)), (0, .ref (hO 0))])) => ?_)
          refine lv_aload hx hb dX5_shortenTold_74 (lv_at hl 2 rfl) ?_
          refine lv_astore_n hx hb dX5_shortenTold_76 rfl hl (by decide) rfl (fun ls (hl : lv_has ls _ ([(3, .ref (hw l1_x40)), (2, .ref (hw l3_x40)), (1, .ref (hw l2_x40)), (5, .ref (hw l1_x40)), (4, .int l4_x40), (0, .ref (hO 0))])) => ?_)
          refine lv_iinc (v := (iI (l4_x40.toInt + 1))) hx hb dX5_shortenTold_77 hl (k := 4) rfl (iI_add2 (iI_of _) (by decide : (1 : Int32) = iI 1)) (by decide) rfl (fun ls (hl : lv_has ls _ ([(4, .int (iI (l4_x40.toInt + 1))), (3, .ref (hw l1_x40)), (2, .ref (hw l3_x40)), (1, .ref (hw l2_x40)), (5, .ref (hw l1_x40)), (0, .ref (hO 0))])) => ?_)
          refine lv_goto (tgt := 40) hx hb dX5_shortenTold_80 (by decide) ?_
          have hl : lv_has _ _ ([(4, .int (iI (l4_x40.toInt + 1))), (3, .ref (hw l1_x40)), (2, .ref (hw l3_x40)), (1, .ref (hw l2_x40)), (0, .ref (hO 0))]) := lv_sub hl [0, 1, 2, 3, 5] rfl
          exact ihx40 wl_37 wb_37 wG_37 (iI (l4_x40.toInt + 1)) l1_x40 l3_x40 l2_x40 _ _ _ b_wl_37 b_wb_37 (iI_rng (Int.le_trans (by decide) (Int.add_le_add (b_l4_x40.1) (Int.le_refl _))) (by omega) (by decide) (by decide)) ⟨by omega, by omega⟩ ⟨by omega, by omega⟩ ⟨by omega, by omega⟩ (by have e9 : ((iI (l4_x40.toInt + 1))).toInt = (l4_x40.toInt + 1) := (iI_t (Int.le_trans (by decide) (Int.add_le_add (b_l4_x40.1) (Int.le_refl _))) (Int.le_trans (Int.add_le_add (b_l4_x40.2) (Int.le_refl _)) (by decide))); omega) hP hD hS hl
    · rintro H locs ls stk ⟨rfl, hP, hD, hS, hl⟩
      refine lv_aload_n hx hb dX5_shortenTold_83 rfl (lv_at hl 3 rfl) ?_
      refine lv_iconst (v := 0) hx hb dX5_shortenTold_84 (by decide) ?_
      refine va_put (D := (dC, dI)) (ci := 8) (v := .int 0) (ty := .boolean) (C := RX8) (T := TX8) (N := 3) hx hb hts iwsMX5_shortenTold_in8 tyX8 tyX8_ok nmX8 hown hK hP hD hS (11 + (11 + (5 + (l1_x40)))) (apR rfl (apR rfl (apR rfl (WW_o (by omega))))) rfl 2 (by decide) (hts (.fieldLink RX5 282 "OptimaWorks$Whole" "below" "Z") (by decide +kernel)) (fun _ h9 => h9) rfl (by decide +kernel) rfl rfl (Nat.le_of_ble_eq_true rfl) dX5_shortenTold_85 (fun H locs hP hD hS => ?_)
      obtain ⟨u38, hu38⟩ : ∃ f9, f9 = fT wb_x40 l1_x40 (0 : Int32) := ⟨_, rfl⟩
      have hP : va_P (dC, dI) vwCl (WO hO aO kO hM hQ hw iO_answered iO_searched iO_searchedRelaxed iO_counted fO_countedCase gO_goalNumber gO_goalScale fO_start fO_column fO_chosen ++ (WM hM aM kM iM_stands iM_variables iM_rows iM_goals iM_differents iM_cases fM_from fM_to fM_whole fM_ways iM_plainRows fM_plainRow fM_kept fM_goalOver fM_goalUnder fM_goalMax fM_different ++ (WQ hQ aQ kQ hw fQ_inside fQ_outside fQ_shut iQ_rows iQ_allRows iQ_columns ++ (WW nW hw lw kw wl_x40 u38 wG_x40)))) H := by rw [hu38]; exact Eq.mp (congrArg (fun z9 => va_P (dC, dI) vwCl z9 H) ((stR rfl).trans (congrArg (fun z9 => WO hO aO kO hM hQ hw iO_answered iO_searched iO_searchedRelaxed iO_counted fO_countedCase gO_goalNumber gO_goalScale fO_start fO_column fO_chosen ++ z9) ((stR rfl).trans (congrArg (fun z9 => WM hM aM kM iM_stands iM_variables iM_rows iM_goals iM_differents iM_cases fM_from fM_to fM_whole fM_ways iM_plainRows fM_plainRow fM_kept fM_goalOver fM_goalUnder fM_goalMax fM_different ++ z9) ((stR rfl).trans (congrArg (fun z9 => WQ hQ aQ kQ hw fQ_inside fQ_outside fQ_shut iQ_rows iQ_allRows iQ_columns ++ z9) (WW_sb (by omega) (0 : Int32))))))))) hP
      have hD : va_D A (WO hO aO kO hM hQ hw iO_answered iO_searched iO_searchedRelaxed iO_counted fO_countedCase gO_goalNumber gO_goalScale fO_start fO_column fO_chosen ++ (WM hM aM kM iM_stands iM_variables iM_rows iM_goals iM_differents iM_cases fM_from fM_to fM_whole fM_ways iM_plainRows fM_plainRow fM_kept fM_goalOver fM_goalUnder fM_goalMax fM_different ++ (WQ hQ aQ kQ hw fQ_inside fQ_outside fQ_shut iQ_rows iQ_allRows iQ_columns ++ (WW nW hw lw kw wl_x40 u38 wG_x40)))) := by rw [hu38]; exact Eq.mp (congrArg (fun z9 => va_D A z9) ((stR rfl).trans (congrArg (fun z9 => WO hO aO kO hM hQ hw iO_answered iO_searched iO_searchedRelaxed iO_counted fO_countedCase gO_goalNumber gO_goalScale fO_start fO_column fO_chosen ++ z9) ((stR rfl).trans (congrArg (fun z9 => WM hM aM kM iM_stands iM_variables iM_rows iM_goals iM_differents iM_cases fM_from fM_to fM_whole fM_ways iM_plainRows fM_plainRow fM_kept fM_goalOver fM_goalUnder fM_goalMax fM_different ++ z9) ((stR rfl).trans (congrArg (fun z9 => WQ hQ aQ kQ hw fQ_inside fQ_outside fQ_shut iQ_rows iQ_allRows iQ_columns ++ z9) (WW_sb (by omega) (0 : Int32))))))))) hD
      have b_u38 : ∀ q : Nat, 0 ≤ (u38 q).toInt ∧ (u38 q).toInt ≤ 1 := by rw [hu38]; exact fT_r b_wb_x40 (show 0 ≤ (0 : Int32).toInt ∧ (0 : Int32).toInt ≤ 1 from by decide)
      have q_u38 : (u38 l1_x40).toInt = 0 := by rw [hu38, fT_eq]; exact (by decide : (0 : Int32).toInt = 0)
      clear hu38
      refine lv_aload_n hx hb dX5_shortenTold_88 rfl (lv_at hl 3 rfl) ?_
      have p9 := cj_4_3 (WO hO aO kO hM hQ hw iO_answered iO_searched iO_searchedRelaxed iO_counted fO_countedCase gO_goalNumber gO_goalScale fO_start fO_column fO_chosen) (WM hM aM kM iM_stands iM_variables iM_rows iM_goals iM_differents iM_cases fM_from fM_to fM_whole fM_ways iM_plainRows fM_plainRow fM_kept fM_goalOver fM_goalUnder fM_goalMax fM_different) (WQ hQ aQ kQ hw fQ_inside fQ_outside fQ_shut iQ_rows iQ_allRows iQ_columns) (WW nW hw lw kw wl_x40 u38 wG_x40)
      have hPc := hP.mem (fun q h => p9.mem_iff.mpr (List.mem_append_left _ h))
      have hDc := (hD.perm p9).left
      have hKc : va_K (dC, dI) vwCl (tW kw) _ := hK.sub [24] rfl
      have hFc := freeG p9 hD hS hA
      refine va_calli (va_runV (As := []) (rest := []) ⟨hx, hb, hml, hown, hts⟩ (m_X8_isOne l dC dI nW hw lw kw wl_x40 u38 wG_x40 l1_x40 b_wl_x40 b_u38 (by first | with_reducible assumption | omega | (rw [iI_t (by omega) (by omega)]; omega) | decide | assumption) H.size) (cwV 0 hts gwsMX5_shortenTold_2 rfl rfl rfl hd_yX8_isOne_RX8 (by decide +kernel)) (fz_pre (va_recv hK hP (ci := 8) (q0 := 11 + (11 + (5 + (l1_x40)))) rfl (apR rfl (apR rfl (apR rfl (WW_o (by omega)))))) hPc hKc hDc) rfl rfl hl.1 rfl (lv_room (Nat.le_of_ble_eq_true rfl)) dX5_shortenTold_89 (by decide +kernel)) hS (fun q _ h => hFc q h) hFc (fun r39 u t9_ H locs ht hvm hw9 hB9 hz1 hk1 hS => ?_)
      have b_r39 := hw9
      try dsimp only at b_r39
      have p8 := p9
      obtain ⟨hP, hD⟩ := frameG p9 p8 hP hD hk1 hFc (fz_P ht hB9.1) hB9.2
      refine W.cut (pc := 125) (fun H locs ls stk => ∃ (wl_j10 : Nat → Int32) (wb_j10 : Nat → Int32) (wG_j10 : Nat → Nat → Int64), (∀ q : Nat, 0 ≤ (wl_j10 q).toInt ∧ (wl_j10 q).toInt ≤ 14) ∧ (∀ q : Nat, 0 ≤ (wb_j10 q).toInt ∧ (wb_j10 q).toInt ≤ 1) ∧  stk = [] ∧ va_P (dC, dI) vwCl (WO hO aO kO hM hQ hw iO_answered iO_searched iO_searchedRelaxed iO_counted fO_countedCase gO_goalNumber gO_goalScale fO_start fO_column fO_chosen ++ (WM hM aM kM iM_stands iM_variables iM_rows iM_goals iM_differents iM_cases fM_from fM_to fM_whole fM_ways iM_plainRows fM_plainRow fM_kept fM_goalOver fM_goalUnder fM_goalMax fM_different ++ (WQ hQ aQ kQ hw fQ_inside fQ_outside fQ_shut iQ_rows iQ_allRows iQ_columns ++ (WW nW hw lw kw wl_j10 wb_j10 wG_j10)))) H ∧ va_D A (WO hO aO kO hM hQ hw iO_answered iO_searched iO_searchedRelaxed iO_counted fO_countedCase gO_goalNumber gO_goalScale fO_start fO_column fO_chosen ++ (WM hM aM kM iM_stands iM_variables iM_rows iM_goals iM_differents iM_cases fM_from fM_to fM_whole fM_ways iM_plainRows fM_plainRow fM_kept fM_goalOver fM_goalUnder fM_goalMax fM_different ++ (WQ hQ aQ kQ hw fQ_inside fQ_outside fQ_shut iQ_rows iQ_allRows iQ_columns ++ (WW nW hw lw kw wl_j10 wb_j10 wG_j10)))) ∧ va_S A s.heap H locs ∧ lv_has ls 6 [(4, .int l4_x40), (3, .ref (hw l3_x40)), (2, .ref (hw l2_x40)), (1, .ref (hw l1_x40)), (0, .ref (hO 0))]) (fun join10 => ?_) ?_
      · refine lv_if_ne (tgt := 125) hx hb dX5_shortenTold_92 (by decide) (fun c_92 => ?_) (fun c_92 => ?_)
        · have t_92 : r39.toInt ≠ 0 := toI_ne c_92 rfl (by decide : (0 : Int32).toInt = 0)
          have hl : lv_has _ _ ([(4, .int l4_x40), (3, .ref (hw l3_x40)), (2, .ref (hw l2_x40)), (1, .ref (hw l1_x40)), (0, .ref (hO 0))]) := lv_sub hl [0, 1, 2, 3, 4] rfl
          exact join10 _ _ _ _ ⟨wl_x40, u38, wG_x40, b_wl_x40, b_u38, rfl, hP, hD, hS, hl⟩
        · have t_92 : r39.toInt = 0 := toI_nne c_92 rfl (by decide : (0 : Int32).toInt = 0)
          refine lv_aload_n hx hb dX5_shortenTold_95 rfl (lv_at hl 4 rfl) ?_
          refine va_get (D := (dC, dI)) (ci := 5) (v := .ref (hw 426)) (C := RX5) (T := TX5) (N := 19) hx hb hts iwsMX5_shortenTold_in5 hown hK hP 0 rfl rfl 16 (by decide) (hts _ hm_m_X5_shortenTold_1) (fun _ h9 => h9) rfl dX5_shortenTold_96 ?_
          refine lv_aload_n hx hb dX5_shortenTold_99 rfl (lv_at hl 3 rfl) ?_
          refine lv_aload_n hx hb dX5_shortenTold_100 rfl (lv_at hl 1 rfl) ?_
          refine lv_aload_n hx hb dX5_shortenTold_101 rfl (lv_at hl 4 rfl) ?_
          refine va_get (D := (dC, dI)) (ci := 5) (v := .ref (aO 9)) (C := RX5) (T := TX5) (N := 19) hx hb hts iwsMX5_shortenTold_in5 hown hK hP 0 rfl rfl 18 (by decide) (hts _ hm_m_X5_shortenTold_0) (fun _ h9 => h9) rfl dX5_shortenTold_102 ?_
          refine lv_iconst (v := 3) hx hb dX5_shortenTold_105 (by decide) ?_
          refine va_aldq (cA := kO 9) (n := 4) (f := fun q => some (hw (428 + q))) hx hb hK hP 10 9 rfl rfl (show ¬ ((3 : Int32) < 0 ∨ 4 ≤ (3 : Int32).toNatClampNeg) by decide) dX5_shortenTold_106 ?_
          obtain ⟨k44, hk44, b_k44⟩ : ∃ k9 : Nat, k9 = 428 + (3 : Int32).toNatClampNeg ∧ (428 ≤ k9 ∧ k9 < 432 ∧ (k9 : Int) = 428 + 3) := ⟨_, rfl, ald_k (x := (3 : Int32)) (o := 428) (n := 4) (by decide : (3 : Int32).toInt = 3) (by omega) (by omega)⟩
          refine W.eq (g2 := F0 m 107 ls [.ref (hw k44), .ref (hw l3_x40), .ref (hw l1_x40), .ref (hw 426)]) (by rw [hk44]; rfl) ?_
          clear hk44
          have p9 := cj_4_3 (WO hO aO kO hM hQ hw iO_answered iO_searched iO_searchedRelaxed iO_counted fO_countedCase gO_goalNumber gO_goalScale fO_start fO_column fO_chosen) (WM hM aM kM iM_stands iM_variables iM_rows iM_goals iM_differents iM_cases fM_from fM_to fM_whole fM_ways iM_plainRows fM_plainRow fM_kept fM_goalOver fM_goalUnder fM_goalMax fM_different) (WQ hQ aQ kQ hw fQ_inside fQ_outside fQ_shut iQ_rows iQ_allRows iQ_columns) (WW nW hw lw kw wl_x40 u38 wG_x40)
          have hPc := hP.mem (fun q h => p9.mem_iff.mpr (List.mem_append_left _ h))
          have hDc := (hD.perm p9).left
          have hKc : va_K (dC, dI) vwCl (tW kw) _ := hK.sub [24] rfl
          have hFc := freeG p9 hD hS hA
          refine va_callv (va_runV (As := [.ref (hw l1_x40), .ref (hw l3_x40), .ref (hw k44)]) (rest := []) ⟨hx, hb, hml, hown, hts⟩ (m_X8_divide l dC dI nW hw lw kw wl_x40 u38 wG_x40 426 l1_x40 l3_x40 k44 b_wl_x40 b_u38 (by first | with_reducible assumption | omega | (rw [iI_t (by omega) (by omega)]; omega) | decide | assumption) (by first | with_reducible assumption | omega | (rw [iI_t (by omega) (by omega)]; omega) | decide | assumption) (by first | with_reducible assumption | omega | (rw [iI_t (by omega) (by omega)]; omega) | decide | assumption) (by first | with_reducible assumption | omega | (rw [iI_t (by omega) (by omega)]; omega) | decide | assumption) (by omega) H.size) (cwV 3 hts gwsMX5_shortenTold_1 rfl rfl rfl hd_yX8_divide_RX8 (by decide +kernel)) (fz_pre (va_recv hK hP (ci := 8) (q0 := 11 + (11 + (5 + (426)))) rfl (apR rfl (apR rfl (apR rfl (WW_o (by omega)))))) hPc hKc hDc) rfl rfl hl.1 rfl (lv_room (Nat.le_of_ble_eq_true rfl)) dX5_shortenTold_107 (by decide +kernel)) hS (fun q _ h => hFc q h) hFc (fun u t9_ H locs ht hvm hw9 hB9 hz1 hk1 hS => ?_)
          revert u hw9 hB9
          refine fz_p3 ?_
          intro wl_45 wb_45 wG_45 hw9 hB9
          try dsimp only at hw9 hB9
          revert hw9
          refine fz_a2 ?_
          intro b_wl_45 b_wb_45
          have p8 := cj_4_3 (WO hO aO kO hM hQ hw iO_answered iO_searched iO_searchedRelaxed iO_counted fO_countedCase gO_goalNumber gO_goalScale fO_start fO_column fO_chosen) (WM hM aM kM iM_stands iM_variables iM_rows iM_goals iM_differents iM_cases fM_from fM_to fM_whole fM_ways iM_plainRows fM_plainRow fM_kept fM_goalOver fM_goalUnder fM_goalMax fM_different) (WQ hQ aQ kQ hw fQ_inside fQ_outside fQ_shut iQ_rows iQ_allRows iQ_columns) (WW nW hw lw kw wl_45 wb_45 wG_45)
          obtain ⟨hP, hD⟩ := frameG p9 p8 hP hD hk1 hFc (fz_P ht hB9.1) hB9.2
          refine lv_aload_n hx hb dX5_shortenTold_110 rfl (lv_at hl 4 rfl) ?_
          refine va_get (D := (dC, dI)) (ci := 5) (v := .ref (hw 427)) (C := RX5) (T := TX5) (N := 19) hx hb hts iwsMX5_shortenTold_in5 hown hK hP 0 rfl rfl 17 (by decide) (hts _ hm_m_X5_shortenTold_2) (fun _ h9 => h9) rfl dX5_shortenTold_111 ?_
          refine lv_aload_n hx hb dX5_shortenTold_114 rfl (lv_at hl 3 rfl) ?_
          refine lv_aload_n hx hb dX5_shortenTold_115 rfl (lv_at hl 1 rfl) ?_
          refine lv_aload_n hx hb dX5_shortenTold_116 rfl (lv_at hl 4 rfl) ?_
          refine va_get (D := (dC, dI)) (ci := 5) (v := .ref (aO 9)) (C := RX5) (T := TX5) (N := 19) hx hb hts iwsMX5_shortenTold_in5 hown hK hP 0 rfl rfl 18 (by decide) (hts _ hm_m_X5_shortenTold_0) (fun _ h9 => h9) rfl dX5_shortenTold_117 ?_
          refine lv_iconst (v := 3) hx hb dX5_shortenTold_120 (by decide) ?_
          refine va_aldq (cA := kO 9) (n := 4) (f := fun q => some (hw (428 + q))) hx hb hK hP 10 9 rfl rfl (show ¬ ((3 : Int32) < 0 ∨ 4 ≤ (3 : Int32).toNatClampNeg) by decide) dX5_shortenTold_121 ?_
          obtain ⟨k46, hk46, b_k46⟩ : ∃ k9 : Nat, k9 = 428 + (3 : Int32).toNatClampNeg ∧ (428 ≤ k9 ∧ k9 < 432 ∧ (k9 : Int) = 428 + 3) := ⟨_, rfl, ald_k (x := (3 : Int32)) (o := 428) (n := 4) (by decide : (3 : Int32).toInt = 3) (by omega) (by omega)⟩
          refine W.eq (g2 := F0 m 122 ls [.ref (hw k46), .ref (hw l3_x40), .ref (hw l1_x40), .ref (hw 427)]) (by rw [hk46]; rfl) ?_
          clear hk46
          have p9 := cj_4_3 (WO hO aO kO hM hQ hw iO_answered iO_searched iO_searchedRelaxed iO_counted fO_countedCase gO_goalNumber gO_goalScale fO_start fO_column fO_chosen) (WM hM aM kM iM_stands iM_variables iM_rows iM_goals iM_differents iM_cases fM_from fM_to fM_whole fM_ways iM_plainRows fM_plainRow fM_kept fM_goalOver fM_goalUnder fM_goalMax fM_different) (WQ hQ aQ kQ hw fQ_inside fQ_outside fQ_shut iQ_rows iQ_allRows iQ_columns) (WW nW hw lw kw wl_45 wb_45 wG_45)
          have hPc := hP.mem (fun q h => p9.mem_iff.mpr (List.mem_append_left _ h))
          have hDc := (hD.perm p9).left
          have hKc : va_K (dC, dI) vwCl (tW kw) _ := hK.sub [24] rfl
          have hFc := freeG p9 hD hS hA
          refine va_callv (va_runV (As := [.ref (hw l1_x40), .ref (hw l3_x40), .ref (hw k46)]) (rest := []) ⟨hx, hb, hml, hown, hts⟩ (m_X8_divide l dC dI nW hw lw kw wl_45 wb_45 wG_45 427 l1_x40 l3_x40 k46 b_wl_45 b_wb_45 (by first | with_reducible assumption | omega | (rw [iI_t (by omega) (by omega)]; omega) | decide | assumption) (by first | with_reducible assumption | omega | (rw [iI_t (by omega) (by omega)]; omega) | decide | assumption) (by first | with_reducible assumption | omega | (rw [iI_t (by omega) (by omega)]; omega) | decide | assumption) (by first | with_reducible assumption | omega | (rw [iI_t (by omega) (by omega)]; omega) | decide | assumption) (by omega) H.size) (cwV 3 hts gwsMX5_shortenTold_1 rfl rfl rfl hd_yX8_divide_RX8 (by decide +kernel)) (fz_pre (va_recv hK hP (ci := 8) (q0 := 11 + (11 + (5 + (427)))) rfl (apR rfl (apR rfl (apR rfl (WW_o (by omega)))))) hPc hKc hDc) rfl rfl hl.1 rfl (lv_room (Nat.le_of_ble_eq_true rfl)) dX5_shortenTold_122 (by decide +kernel)) hS (fun q _ h => hFc q h) hFc (fun u t9_ H locs ht hvm hw9 hB9 hz1 hk1 hS => ?_)
          revert u hw9 hB9
          refine fz_p3 ?_
          intro wl_47 wb_47 wG_47 hw9 hB9
          try dsimp only at hw9 hB9
          revert hw9
          refine fz_a2 ?_
          intro b_wl_47 b_wb_47
          have p8 := cj_4_3 (WO hO aO kO hM hQ hw iO_answered iO_searched iO_searchedRelaxed iO_counted fO_countedCase gO_goalNumber gO_goalScale fO_start fO_column fO_chosen) (WM hM aM kM iM_stands iM_variables iM_rows iM_goals iM_differents iM_cases fM_from fM_to fM_whole fM_ways iM_plainRows fM_plainRow fM_kept fM_goalOver fM_goalUnder fM_goalMax fM_different) (WQ hQ aQ kQ hw fQ_inside fQ_outside fQ_shut iQ_rows iQ_allRows iQ_columns) (WW nW hw lw kw wl_47 wb_47 wG_47)
          obtain ⟨hP, hD⟩ := frameG p9 p8 hP hD hk1 hFc (fz_P ht hB9.1) hB9.2
          have hl : lv_has _ _ ([(4, .int l4_x40), (3, .ref (hw l3_x40)), (2, .ref (hw l2_x40)), (1, .ref (hw l1_x40)), (0, .ref (hO 0))]) := lv_sub hl [0, 1, 2, 3, 4] rfl
          exact join10 _ _ _ _ ⟨wl_47, wb_47, wG_47, b_wl_47, b_wb_47, rfl, hP, hD, hS, hl⟩
      · intro H locs ls stk
        refine fz_e3 ?_
        intro wl_j10 wb_j10 wG_j10
        refine fz_a7 ?_
        intro b_wl_j10 b_wb_j10 hst9_2 hP hD hS hl
        subst hst9_2
        refine W.widen (k := 0) (n := 0) (by decide +kernel) (by decide +kernel) ?_
        exact W.vret hx hb hr (fun t9_ ht hW => ⟨⟨(wl_j10, wb_j10, wG_j10), rfl, ⟨b_wl_j10, b_wb_j10⟩, by rw [ht]; exact hP, hD⟩, hS.F ht⟩) hS.2.2 dX5_shortenTold_125
theorem dX5_countRows_0 : decode cX5_countRows 0 = .ok (.aload_n 0, 1) := dk_42 (by decide +kernel)
theorem dX5_countRows_1 : decode cX5_countRows 1 = .ok (.getfield 18, 3) := dk_180 (by decide +kernel)
theorem dX5_countRows_4 : decode cX5_countRows 4 = .ok (.iconst (-1), 1) := dk_2 (by decide +kernel)
theorem dX5_countRows_5 : decode cX5_countRows 5 = .ok (.if_icmp .eq 8, 3) := dk_159 (by decide +kernel)
theorem dX5_countRows_8 : decode cX5_countRows 8 = .ok (.aload_n 0, 1) := dk_42 (by decide +kernel)
theorem dX5_countRows_9 : decode cX5_countRows 9 = .ok (.getfield 18, 3) := dk_180 (by decide +kernel)
theorem dX5_countRows_12 : decode cX5_countRows 12 = .ok (.ireturn, 1) := dk_172 (by decide +kernel)
theorem dX5_countRows_13 : decode cX5_countRows 13 = .ok (.iconst 1, 1) := dk_4 (by decide +kernel)
theorem dX5_countRows_14 : decode cX5_countRows 14 = .ok (.istore_n 1, 1) := dk_60 (by decide +kernel)
theorem dX5_countRows_15 : decode cX5_countRows 15 = .ok (.iconst 0, 1) := dk_3 (by decide +kernel)
theorem dX5_countRows_16 : decode cX5_countRows 16 = .ok (.istore_n 2, 1) := dk_61 (by decide +kernel)
theorem dX5_countRows_17 : decode cX5_countRows 17 = .ok (.iload_n 2, 1) := dk_28 (by decide +kernel)
theorem dX5_countRows_18 : decode cX5_countRows 18 = .ok (.aload_n 0, 1) := dk_42 (by decide +kernel)
theorem dX5_countRows_19 : decode cX5_countRows 19 = .ok (.getfield 74, 3) := dk_180 (by decide +kernel)
theorem dX5_countRows_22 : decode cX5_countRows 22 = .ok (.getfield 112, 3) := dk_180 (by decide +kernel)
theorem dX5_countRows_25 : decode cX5_countRows 25 = .ok (.if_icmp .ge 36, 3) := dk_162 (by decide +kernel)
theorem dX5_countRows_28 : decode cX5_countRows 28 = .ok (.iload_n 1, 1) := dk_27 (by decide +kernel)
theorem dX5_countRows_29 : decode cX5_countRows 29 = .ok (.aload_n 0, 1) := dk_42 (by decide +kernel)
theorem dX5_countRows_30 : decode cX5_countRows 30 = .ok (.getfield 74, 3) := dk_180 (by decide +kernel)
theorem dX5_countRows_33 : decode cX5_countRows 33 = .ok (.getfield 143, 3) := dk_180 (by decide +kernel)
theorem dX5_countRows_36 : decode cX5_countRows 36 = .ok (.iload_n 2, 1) := dk_28 (by decide +kernel)
theorem dX5_countRows_37 : decode cX5_countRows 37 = .ok (.baload, 1) := dk_51 (by decide +kernel)
theorem dX5_countRows_38 : decode cX5_countRows 38 = .ok (.ifCond .eq 14, 3) := dk_153 (by decide +kernel)
theorem dX5_countRows_41 : decode cX5_countRows 41 = .ok (.aload_n 0, 1) := dk_42 (by decide +kernel)
theorem dX5_countRows_42 : decode cX5_countRows 42 = .ok (.getfield 74, 3) := dk_180 (by decide +kernel)
theorem dX5_countRows_45 : decode cX5_countRows 45 = .ok (.iload_n 2, 1) := dk_28 (by decide +kernel)
theorem dX5_countRows_46 : decode cX5_countRows 46 = .ok (.invokevirtual 146, 3) := dk_182 (by decide +kernel)
theorem dX5_countRows_49 : decode cX5_countRows 49 = .ok (.goto 4, 3) := dk_167 (by decide +kernel)
theorem dX5_countRows_52 : decode cX5_countRows 52 = .ok (.iconst 1, 1) := dk_4 (by decide +kernel)
theorem dX5_countRows_53 : decode cX5_countRows 53 = .ok (.imul, 1) := dk_104 (by decide +kernel)
theorem dX5_countRows_54 : decode cX5_countRows 54 = .ok (.istore_n 1, 1) := dk_60 (by decide +kernel)
theorem dX5_countRows_55 : decode cX5_countRows 55 = .ok (.iinc 2 1, 3) := dk_132 (by decide +kernel)
theorem dX5_countRows_58 : decode cX5_countRows 58 = .ok (.goto (-41), 3) := dk_167 (by decide +kernel)
theorem dX5_countRows_61 : decode cX5_countRows 61 = .ok (.iload_n 1, 1) := dk_27 (by decide +kernel)
theorem dX5_countRows_62 : decode cX5_countRows 62 = .ok (.ifCond .ne 7, 3) := dk_154 (by decide +kernel)
theorem dX5_countRows_65 : decode cX5_countRows 65 = .ok (.iconst 0, 1) := dk_3 (by decide +kernel)
theorem dX5_countRows_66 : decode cX5_countRows 66 = .ok (.goto 12, 3) := dk_167 (by decide +kernel)
theorem dX5_countRows_69 : decode cX5_countRows 69 = .ok (.aload_n 0, 1) := dk_42 (by decide +kernel)
theorem dX5_countRows_70 : decode cX5_countRows 70 = .ok (.getfield 74, 3) := dk_180 (by decide +kernel)
theorem dX5_countRows_73 : decode cX5_countRows 73 = .ok (.getfield 91, 3) := dk_180 (by decide +kernel)
theorem dX5_countRows_76 : decode cX5_countRows 76 = .ok (.iload_n 1, 1) := dk_27 (by decide +kernel)
theorem dX5_countRows_77 : decode cX5_countRows 77 = .ok (.idiv, 1) := dk_108 (by decide +kernel)
theorem dX5_countRows_78 : decode cX5_countRows 78 = .ok (.istore_n 2, 1) := dk_61 (by decide +kernel)
theorem dX5_countRows_79 : decode cX5_countRows 79 = .ok (.aload_n 0, 1) := dk_42 (by decide +kernel)
theorem dX5_countRows_80 : decode cX5_countRows 80 = .ok (.iconst 0, 1) := dk_3 (by decide +kernel)
theorem dX5_countRows_81 : decode cX5_countRows 81 = .ok (.putfield 18, 3) := dk_181 (by decide +kernel)
theorem dX5_countRows_84 : decode cX5_countRows 84 = .ok (.iconst 0, 1) := dk_3 (by decide +kernel)
theorem dX5_countRows_85 : decode cX5_countRows 85 = .ok (.istore_n 3, 1) := dk_62 (by decide +kernel)
theorem dX5_countRows_86 : decode cX5_countRows 86 = .ok (.iload_n 3, 1) := dk_29 (by decide +kernel)
theorem dX5_countRows_87 : decode cX5_countRows 87 = .ok (.iload_n 1, 1) := dk_27 (by decide +kernel)
theorem dX5_countRows_88 : decode cX5_countRows 88 = .ok (.if_icmp .ge 108, 3) := dk_162 (by decide +kernel)
theorem dX5_countRows_91 : decode cX5_countRows 91 = .ok (.aload_n 0, 1) := dk_42 (by decide +kernel)
theorem dX5_countRows_92 : decode cX5_countRows 92 = .ok (.getfield 18, 3) := dk_180 (by decide +kernel)
theorem dX5_countRows_95 : decode cX5_countRows 95 = .ok (.aload_n 0, 1) := dk_42 (by decide +kernel)
theorem dX5_countRows_96 : decode cX5_countRows 96 = .ok (.getfield 24, 3) := dk_180 (by decide +kernel)
theorem dX5_countRows_99 : decode cX5_countRows 99 = .ok (.arraylength, 1) := dk_190 (by decide +kernel)
theorem dX5_countRows_100 : decode cX5_countRows 100 = .ok (.if_icmp .ge 96, 3) := dk_162 (by decide +kernel)
theorem dX5_countRows_103 : decode cX5_countRows 103 = .ok (.iconst 0, 1) := dk_3 (by decide +kernel)
theorem dX5_countRows_104 : decode cX5_countRows 104 = .ok (.istore 4, 2) := dk_54 (by decide +kernel)
theorem dX5_countRows_106 : decode cX5_countRows 106 = .ok (.iconst 0, 1) := dk_3 (by decide +kernel)
theorem dX5_countRows_107 : decode cX5_countRows 107 = .ok (.istore 5, 2) := dk_54 (by decide +kernel)
theorem dX5_countRows_109 : decode cX5_countRows 109 = .ok (.iload 5, 2) := dk_21 (by decide +kernel)
theorem dX5_countRows_111 : decode cX5_countRows 111 = .ok (.iload_n 2, 1) := dk_28 (by decide +kernel)
theorem dX5_countRows_112 : decode cX5_countRows 112 = .ok (.if_icmp .ge 51, 3) := dk_162 (by decide +kernel)
theorem dX5_countRows_115 : decode cX5_countRows 115 = .ok (.iload 4, 2) := dk_21 (by decide +kernel)
theorem dX5_countRows_117 : decode cX5_countRows 117 = .ok (.ifCond .ne 46, 3) := dk_154 (by decide +kernel)
theorem dX5_countRows_120 : decode cX5_countRows 120 = .ok (.aload_n 0, 1) := dk_42 (by decide +kernel)
theorem dX5_countRows_121 : decode cX5_countRows 121 = .ok (.iload_n 3, 1) := dk_29 (by decide +kernel)
theorem dX5_countRows_122 : decode cX5_countRows 122 = .ok (.iload_n 2, 1) := dk_28 (by decide +kernel)
theorem dX5_countRows_123 : decode cX5_countRows 123 = .ok (.imul, 1) := dk_104 (by decide +kernel)
theorem dX5_countRows_124 : decode cX5_countRows 124 = .ok (.iload 5, 2) := dk_21 (by decide +kernel)
theorem dX5_countRows_126 : decode cX5_countRows 126 = .ok (.iadd, 1) := dk_96 (by decide +kernel)
theorem dX5_countRows_127 : decode cX5_countRows 127 = .ok (.invokevirtual 94, 3) := dk_182 (by decide +kernel)
theorem dX5_countRows_130 : decode cX5_countRows 130 = .ok (.ifCond .eq 24, 3) := dk_153 (by decide +kernel)
theorem dX5_countRows_133 : decode cX5_countRows 133 = .ok (.aload_n 0, 1) := dk_42 (by decide +kernel)
theorem dX5_countRows_134 : decode cX5_countRows 134 = .ok (.iconst 0, 1) := dk_3 (by decide +kernel)
theorem dX5_countRows_135 : decode cX5_countRows 135 = .ok (.iconst 0, 1) := dk_3 (by decide +kernel)
theorem dX5_countRows_136 : decode cX5_countRows 136 = .ok (.invokevirtual 101, 3) := dk_182 (by decide +kernel)
theorem dX5_countRows_139 : decode cX5_countRows 139 = .ok (.ifCond .eq 15, 3) := dk_153 (by decide +kernel)
theorem dX5_countRows_142 : decode cX5_countRows 142 = .ok (.aload_n 0, 1) := dk_42 (by decide +kernel)
theorem dX5_countRows_143 : decode cX5_countRows 143 = .ok (.iconst 0, 1) := dk_3 (by decide +kernel)
theorem dX5_countRows_144 : decode cX5_countRows 144 = .ok (.invokevirtual 105, 3) := dk_182 (by decide +kernel)
theorem dX5_countRows_147 : decode cX5_countRows 147 = .ok (.ifCond .eq 7, 3) := dk_153 (by decide +kernel)
theorem dX5_countRows_150 : decode cX5_countRows 150 = .ok (.iconst 1, 1) := dk_4 (by decide +kernel)
theorem dX5_countRows_151 : decode cX5_countRows 151 = .ok (.goto 4, 3) := dk_167 (by decide +kernel)
theorem dX5_countRows_154 : decode cX5_countRows 154 = .ok (.iconst 0, 1) := dk_3 (by decide +kernel)
theorem dX5_countRows_155 : decode cX5_countRows 155 = .ok (.istore 4, 2) := dk_54 (by decide +kernel)
theorem dX5_countRows_157 : decode cX5_countRows 157 = .ok (.iinc 5 1, 3) := dk_132 (by decide +kernel)
theorem dX5_countRows_160 : decode cX5_countRows 160 = .ok (.goto (-51), 3) := dk_167 (by decide +kernel)
theorem dX5_countRows_163 : decode cX5_countRows 163 = .ok (.iload 4, 2) := dk_21 (by decide +kernel)
theorem dX5_countRows_165 : decode cX5_countRows 165 = .ok (.ifCond .eq 25, 3) := dk_153 (by decide +kernel)
theorem dX5_countRows_168 : decode cX5_countRows 168 = .ok (.aload_n 0, 1) := dk_42 (by decide +kernel)
theorem dX5_countRows_169 : decode cX5_countRows 169 = .ok (.getfield 24, 3) := dk_180 (by decide +kernel)
theorem dX5_countRows_172 : decode cX5_countRows 172 = .ok (.aload_n 0, 1) := dk_42 (by decide +kernel)
theorem dX5_countRows_173 : decode cX5_countRows 173 = .ok (.getfield 18, 3) := dk_180 (by decide +kernel)
theorem dX5_countRows_176 : decode cX5_countRows 176 = .ok (.iload_n 3, 1) := dk_29 (by decide +kernel)
theorem dX5_countRows_177 : decode cX5_countRows 177 = .ok (.iload_n 2, 1) := dk_28 (by decide +kernel)
theorem dX5_countRows_178 : decode cX5_countRows 178 = .ok (.imul, 1) := dk_104 (by decide +kernel)
theorem dX5_countRows_179 : decode cX5_countRows 179 = .ok (.iastore, 1) := dk_79 (by decide +kernel)
theorem dX5_countRows_180 : decode cX5_countRows 180 = .ok (.aload_n 0, 1) := dk_42 (by decide +kernel)
theorem dX5_countRows_181 : decode cX5_countRows 181 = .ok (.dup, 1) := dk_89 (by decide +kernel)
theorem dX5_countRows_182 : decode cX5_countRows 182 = .ok (.getfield 18, 3) := dk_180 (by decide +kernel)
theorem dX5_countRows_185 : decode cX5_countRows 185 = .ok (.iconst 1, 1) := dk_4 (by decide +kernel)
theorem dX5_countRows_186 : decode cX5_countRows 186 = .ok (.iadd, 1) := dk_96 (by decide +kernel)
theorem dX5_countRows_187 : decode cX5_countRows 187 = .ok (.putfield 18, 3) := dk_181 (by decide +kernel)
theorem dX5_countRows_190 : decode cX5_countRows 190 = .ok (.iinc 3 1, 3) := dk_132 (by decide +kernel)
theorem dX5_countRows_193 : decode cX5_countRows 193 = .ok (.goto (-107), 3) := dk_167 (by decide +kernel)
theorem dX5_countRows_196 : decode cX5_countRows 196 = .ok (.aload_n 0, 1) := dk_42 (by decide +kernel)
theorem dX5_countRows_197 : decode cX5_countRows 197 = .ok (.getfield 18, 3) := dk_180 (by decide +kernel)
theorem dX5_countRows_200 : decode cX5_countRows 200 = .ok (.ireturn, 1) := dk_172 (by decide +kernel)
def wsMX5_countRows : List Cond := .code yX5_countRows cX5_countRows 6 (some .int) :: ([.fieldLink RX5 18 "OptimaWorks$Solver" "counted" "I", .fieldLink RX5 74 "OptimaWorks$Solver" "model" "LOptimaWorks$Model;", .fieldLink RX5 112 "OptimaWorks$Model" "variables" "I", .fieldLink RX5 143 "OptimaWorks$Model" "whole" "[Z", .fieldLink RX5 91 "OptimaWorks$Model" "cases" "I", .fieldLink RX5 24 "OptimaWorks$Solver" "countedCase" "[I"] ++ wsX10 ++ wsX50 ++ (wsV RX5 146 RX1 yX1_range wsMX1_range) ++ (wsV RX5 94 RX5 yX5_choose wsMX5_choose) ++ (wsV RX5 101 RX5 yX5_lay wsMX5_lay) ++ (wsV RX5 105 RX5 yX5_settle wsMX5_settle))
theorem iwsMX5_countRows_in1 : ∀ w ∈ wsX10, w ∈ wsMX5_countRows := fun _ h => List.mem_cons_of_mem _ (List.mem_append_left _ (List.mem_append_left _ (List.mem_append_left _ (List.mem_append_left _ (List.mem_append_left _ (List.mem_append_right _ h))))))
theorem iwsMX5_countRows_in5 : ∀ w ∈ wsX50, w ∈ wsMX5_countRows := fun _ h => List.mem_cons_of_mem _ (List.mem_append_left _ (List.mem_append_left _ (List.mem_append_left _ (List.mem_append_left _ (List.mem_append_right _ h)))))
theorem gwsMX5_countRows_0 : GoodIn wsMX5_countRows (wsV RX5 146 RX1 yX1_range wsMX1_range) := goodIn_sub (fun _ h => List.mem_cons_of_mem _ (List.mem_append_left _ (List.mem_append_left _ (List.mem_append_left _ (List.mem_append_right _ h))))) (gdV (by decide +kernel) gdwsMX1_range)
theorem gwsMX5_countRows_1 : GoodIn wsMX5_countRows (wsV RX5 94 RX5 yX5_choose wsMX5_choose) := goodIn_sub (fun _ h => List.mem_cons_of_mem _ (List.mem_append_left _ (List.mem_append_left _ (List.mem_append_right _ h)))) (gdV (by decide +kernel) gdwsMX5_choose)
theorem gwsMX5_countRows_2 : GoodIn wsMX5_countRows (wsV RX5 101 RX5 yX5_lay wsMX5_lay) := goodIn_sub (fun _ h => List.mem_cons_of_mem _ (List.mem_append_left _ (List.mem_append_right _ h))) (gdV (by decide +kernel) gdwsMX5_lay)
theorem gwsMX5_countRows_3 : GoodIn wsMX5_countRows (wsV RX5 105 RX5 yX5_settle wsMX5_settle) := goodIn_sub (fun _ h => List.mem_cons_of_mem _ (List.mem_append_right _ h)) (gdV (by decide +kernel) gdwsMX5_settle)
theorem gdwsMX5_countRows : wsMX5_countRows.all goodWord = true := gdC rfl (gdA (gdA (gdA (gdA (gdA (gdA (by decide +kernel : ([.fieldLink RX5 18 "OptimaWorks$Solver" "counted" "I", .fieldLink RX5 74 "OptimaWorks$Solver" "model" "LOptimaWorks$Model;", .fieldLink RX5 112 "OptimaWorks$Model" "variables" "I", .fieldLink RX5 143 "OptimaWorks$Model" "whole" "[Z", .fieldLink RX5 91 "OptimaWorks$Model" "cases" "I", .fieldLink RX5 24 "OptimaWorks$Solver" "countedCase" "[I"] : List Cond).all goodWord = true) gdwsX10) gdwsX50) (gdV (by decide +kernel) gdwsMX1_range)) (gdV (by decide +kernel) gdwsMX5_choose)) (gdV (by decide +kernel) gdwsMX5_lay)) (gdV (by decide +kernel) gdwsMX5_settle))
theorem hm_m_X5_countRows_0 : (.fieldLink RX5 18 "OptimaWorks$Solver" "counted" "I" : Cond) ∈ wsMX5_countRows := by decide +kernel
theorem hm_m_X5_countRows_1 : (.fieldLink RX5 74 "OptimaWorks$Solver" "model" "LOptimaWorks$Model;" : Cond) ∈ wsMX5_countRows := by decide +kernel
theorem hm_m_X5_countRows_2 : (.fieldLink RX5 24 "OptimaWorks$Solver" "countedCase" "[I" : Cond) ∈ wsMX5_countRows := by decide +kernel
set_option maxHeartbeats 4000000 in
set_option maxRecDepth 100000 in
/-- rows are counted -/
theorem m_X5_countRows (l : Launch) (dC : Nat → ClassId) (dI : Nat → Nat → Nat) (hO : Nat → Nat) (aO : Nat → Nat) (kO : Nat → ClassId) (hM : Nat → Nat) (hQ : Nat → Nat) (hw : Nat → Nat) (iO_answered : Int32) (iO_searched : Int32) (iO_searchedRelaxed : Int32) (iO_counted : Int32) (fO_countedCase : Nat → Int32) (gO_goalNumber : Nat → Int64) (gO_goalScale : Nat → Int64) (fO_start : Nat → Int32) (fO_column : Nat → Int32) (fO_chosen : Nat → Int32) (aM : Nat → Nat) (kM : Nat → ClassId) (iM_stands : Int32) (iM_variables : Int32) (iM_rows : Int32) (iM_goals : Int32) (iM_differents : Int32) (iM_cases : Int32) (fM_from : Nat → Int32) (fM_to : Nat → Int32) (fM_whole : Nat → Int32) (fM_ways : Nat → Int32) (iM_plainRows : Int32) (fM_plainRow : Nat → Int32) (fM_kept : Nat → Int32) (fM_goalOver : Nat → Int32) (fM_goalUnder : Nat → Int32) (fM_goalMax : Nat → Int32) (fM_different : Nat → Int32) (aQ : Nat → Nat) (kQ : Nat → ClassId) (fQ_inside : Nat → Int32) (fQ_outside : Nat → Int32) (fQ_shut : Nat → Int32) (iQ_rows : Int32) (iQ_allRows : Int32) (iQ_columns : Int32) (nW : Nat) (lw : Nat → Nat) (kw : ClassId) (wl : Nat → Int32) (wb : Nat → Int32) (wG : Nat → Nat → Int64) (b_iO_answered : 0 ≤ iO_answered.toInt ∧ iO_answered.toInt ≤ 1) (b_iO_searched : 0 ≤ iO_searched.toInt ∧ iO_searched.toInt ≤ 1) (b_iO_searchedRelaxed : 0 ≤ iO_searchedRelaxed.toInt ∧ iO_searchedRelaxed.toInt ≤ 1) (b_iO_counted : (-1) ≤ iO_counted.toInt ∧ iO_counted.toInt ≤ 64) (b_fO_countedCase : ∀ q : Nat, 0 ≤ (fO_countedCase q).toInt ∧ (fO_countedCase q).toInt ≤ 200000) (b_fO_column : ∀ q : Nat, (-1) ≤ (fO_column q).toInt ∧ (fO_column q).toInt ≤ 8) (b_fO_chosen : ∀ q : Nat, 0 ≤ (fO_chosen q).toInt ∧ (fO_chosen q).toInt ≤ 2) (b_iM_stands : 0 ≤ iM_stands.toInt ∧ iM_stands.toInt ≤ 1) (b_iM_variables : 0 ≤ iM_variables.toInt ∧ iM_variables.toInt ≤ 8) (b_iM_rows : 0 ≤ iM_rows.toInt ∧ iM_rows.toInt ≤ 12) (b_iM_goals : 0 ≤ iM_goals.toInt ∧ iM_goals.toInt ≤ 3) (b_iM_differents : 0 ≤ iM_differents.toInt ∧ iM_differents.toInt ≤ 8) (b_iM_cases : 0 ≤ iM_cases.toInt ∧ iM_cases.toInt ≤ 200000) (b_fM_ways : ∀ q : Nat, 0 ≤ (fM_ways q).toInt ∧ (fM_ways q).toInt ≤ 3) (b_iM_plainRows : 0 ≤ iM_plainRows.toInt ∧ iM_plainRows.toInt ≤ 12) (b_fM_plainRow : ∀ q : Nat, 0 ≤ (fM_plainRow q).toInt ∧ (fM_plainRow q).toInt ≤ 11) (b_pr : iM_plainRows.toInt ≤ iM_rows.toInt) (b_iQ_rows : 0 ≤ iQ_rows.toInt ∧ iQ_rows.toInt ≤ 40) (b_iQ_allRows : 0 ≤ iQ_allRows.toInt ∧ iQ_allRows.toInt ≤ 40) (b_iQ_columns : 0 ≤ iQ_columns.toInt ∧ iQ_columns.toInt ≤ 40) (b_tb : TbO iQ_rows iQ_allRows iQ_columns) (b_wl : ∀ q : Nat, 0 ≤ (wl q).toInt ∧ (wl q).toInt ≤ 14) (b_wb : ∀ q : Nat, 0 ≤ (wb q).toInt ∧ (wb q).toInt ≤ 1) (hnW : 432 ≤ nW) (sz : Nat) : Met l yX5_countRows wsMX5_countRows ({ frames := 7, cells := 0, slots := 0, locals := 178 }) (va_Pc [.ref (hO 0)] (fun U => U.heap.size = sz ∧ va_P (dC, dI) vwCl (WO hO aO kO hM hQ hw iO_answered iO_searched iO_searchedRelaxed iO_counted fO_countedCase gO_goalNumber gO_goalScale fO_start fO_column fO_chosen ++ (WM hM aM kM iM_stands iM_variables iM_rows iM_goals iM_differents iM_cases fM_from fM_to fM_whole fM_ways iM_plainRows fM_plainRow fM_kept fM_goalOver fM_goalUnder fM_goalMax fM_different ++ (WQ hQ aQ kQ hw fQ_inside fQ_outside fQ_shut iQ_rows iQ_allRows iQ_columns ++ (WW nW hw lw kw wl wb wG)))) U.heap ∧ va_K (dC, dI) vwCl (tO kO ++ (tM kM ++ (tQ kQ ++ (tW kw)))) U ∧ va_D (fun _ => True) (WO hO aO kO hM hQ hw iO_answered iO_searched iO_searchedRelaxed iO_counted fO_countedCase gO_goalNumber gO_goalScale fO_start fO_column fO_chosen ++ (WM hM aM kM iM_stands iM_variables iM_rows iM_goals iM_differents iM_cases fM_from fM_to fM_whole fM_ways iM_plainRows fM_plainRow fM_kept fM_goalOver fM_goalUnder fM_goalMax fM_different ++ (WQ hQ aQ kQ hw fQ_inside fQ_outside fQ_shut iQ_rows iQ_allRows iQ_columns ++ (WW nW hw lw kw wl wb wG)))))) (va_Qi (fun (r : Int32) (u : (Int32) × (Nat → Int32) × (Nat → Int32) × (Nat → Int32) × (Nat → Int32) × (Nat → Int32) × (Nat → Int32) × (Nat → Int32) × (Int32) × (Int32) × (Int32) × (Nat → Int32) × (Nat → Int32) × (Nat → Nat → Int64)) => ((-1) ≤ (u.1).toInt ∧ (u.1).toInt ≤ 64) ∧ (∀ q : Nat, 0 ≤ ((u.2.1) q).toInt ∧ ((u.2.1) q).toInt ≤ 200000) ∧ (∀ q : Nat, (-1) ≤ ((u.2.2.2.1) q).toInt ∧ ((u.2.2.2.1) q).toInt ≤ 8) ∧ (∀ q : Nat, 0 ≤ ((u.2.2.2.2.1) q).toInt ∧ ((u.2.2.2.2.1) q).toInt ≤ 2) ∧ (0 ≤ (u.2.2.2.2.2.2.2.2.1).toInt ∧ (u.2.2.2.2.2.2.2.2.1).toInt ≤ 40) ∧ (0 ≤ (u.2.2.2.2.2.2.2.2.2.1).toInt ∧ (u.2.2.2.2.2.2.2.2.2.1).toInt ≤ 40) ∧ (0 ≤ (u.2.2.2.2.2.2.2.2.2.2.1).toInt ∧ (u.2.2.2.2.2.2.2.2.2.2.1).toInt ≤ 40) ∧ (∀ q : Nat, 0 ≤ ((u.2.2.2.2.2.2.2.2.2.2.2.1) q).toInt ∧ ((u.2.2.2.2.2.2.2.2.2.2.2.1) q).toInt ≤ 14) ∧ (∀ q : Nat, 0 ≤ ((u.2.2.2.2.2.2.2.2.2.2.2.2.1) q).toInt ∧ ((u.2.2.2.2.2.2.2.2.2.2.2.2.1) q).toInt ≤ 1) ∧ (TbO (u.2.2.2.2.2.2.2.2.1) (u.2.2.2.2.2.2.2.2.2.1) (u.2.2.2.2.2.2.2.2.2.2.1)) ∧ ((-1) ≤ r.toInt ∧ r.toInt ≤ 64)) (fun (u : (Int32) × (Nat → Int32) × (Nat → Int32) × (Nat → Int32) × (Nat → Int32) × (Nat → Int32) × (Nat → Int32) × (Nat → Int32) × (Int32) × (Int32) × (Int32) × (Nat → Int32) × (Nat → Int32) × (Nat → Nat → Int64)) t => va_P (dC, dI) vwCl (WO hO aO kO hM hQ hw iO_answered iO_searched iO_searchedRelaxed (u.1) (u.2.1) gO_goalNumber gO_goalScale (u.2.2.1) (u.2.2.2.1) (u.2.2.2.2.1) ++ (WM hM aM kM iM_stands iM_variables iM_rows iM_goals iM_differents iM_cases fM_from fM_to fM_whole fM_ways iM_plainRows fM_plainRow fM_kept fM_goalOver fM_goalUnder fM_goalMax fM_different ++ (WQ hQ aQ kQ hw (u.2.2.2.2.2.1) (u.2.2.2.2.2.2.1) (u.2.2.2.2.2.2.2.1) (u.2.2.2.2.2.2.2.2.1) (u.2.2.2.2.2.2.2.2.2.1) (u.2.2.2.2.2.2.2.2.2.2.1) ++ (WW nW hw lw kw (u.2.2.2.2.2.2.2.2.2.2.2.1) (u.2.2.2.2.2.2.2.2.2.2.2.2.1) (u.2.2.2.2.2.2.2.2.2.2.2.2.2))))) t.heap ∧ va_D (va_A (WO hO aO kO hM hQ hw iO_answered iO_searched iO_searchedRelaxed iO_counted fO_countedCase gO_goalNumber gO_goalScale fO_start fO_column fO_chosen ++ (WM hM aM kM iM_stands iM_variables iM_rows iM_goals iM_differents iM_cases fM_from fM_to fM_whole fM_ways iM_plainRows fM_plainRow fM_kept fM_goalOver fM_goalUnder fM_goalMax fM_different ++ (WQ hQ aQ kQ hw fQ_inside fQ_outside fQ_shut iQ_rows iQ_allRows iQ_columns ++ (WW nW hw lw kw wl wb wG)))) sz) (WO hO aO kO hM hQ hw iO_answered iO_searched iO_searchedRelaxed (u.1) (u.2.1) gO_goalNumber gO_goalScale (u.2.2.1) (u.2.2.2.1) (u.2.2.2.2.1) ++ (WM hM aM kM iM_stands iM_variables iM_rows iM_goals iM_differents iM_cases fM_from fM_to fM_whole fM_ways iM_plainRows fM_plainRow fM_kept fM_goalOver fM_goalUnder fM_goalMax fM_different ++ (WQ hQ aQ kQ hw (u.2.2.2.2.2.1) (u.2.2.2.2.2.2.1) (u.2.2.2.2.2.2.2.1) (u.2.2.2.2.2.2.2.2.1) (u.2.2.2.2.2.2.2.2.2.1) (u.2.2.2.2.2.2.2.2.2.2.1) ++ (WW nW hw lw kw (u.2.2.2.2.2.2.2.2.2.2.2.1) (u.2.2.2.2.2.2.2.2.2.2.2.2.1) (u.2.2.2.2.2.2.2.2.2.2.2.2.2)))))) (va_A (WO hO aO kO hM hQ hw iO_answered iO_searched iO_searchedRelaxed iO_counted fO_countedCase gO_goalNumber gO_goalScale fO_start fO_column fO_chosen ++ (WM hM aM kM iM_stands iM_variables iM_rows iM_goals iM_differents iM_cases fM_from fM_to fM_whole fM_ways iM_plainRows fM_plainRow fM_kept fM_goalOver fM_goalUnder fM_goalMax fM_different ++ (WQ hQ aQ kQ hw fQ_inside fQ_outside fQ_shut iQ_rows iQ_allRows iQ_columns ++ (WW nW hw lw kw wl wb wG)))) sz)) 0 0 (va_A (WO hO aO kO hM hQ hw iO_answered iO_searched iO_searchedRelaxed iO_counted fO_countedCase gO_goalNumber gO_goalScale fO_start fO_column fO_chosen ++ (WM hM aM kM iM_stands iM_variables iM_rows iM_goals iM_differents iM_cases fM_from fM_to fM_whole fM_ways iM_plainRows fM_plainRow fM_kept fM_goalOver fM_goalUnder fM_goalMax fM_different ++ (WQ hQ aQ kQ hw fQ_inside fQ_outside fQ_shut iQ_rows iQ_allRows iQ_columns ++ (WW nW hw lw kw wl wb wG)))) sz) := by
  refine Met.ofW (cc := cX5_countRows) (maxL := 6) (ret := (some .int)) (by decide) rfl ?_
  intro p e s m args below meth c s₁ B hml hv
  obtain ⟨rfl, hsz, hP, hK, hD0⟩ := hv
  have hx := B.exec
  have hb := B.bytes
  have hr := B.returns
  have hts := atoms_spec (ws := wsMX5_countRows) B.pre
  have hown : s.vm.findClass RX5 = some m.cls := findClass_of_methodNamed B.named
  have hlocks := B.notSynchronized
  subst hsz
  have hD := hD0.self (sz := s.heap.size)
  generalize hAe : va_A (WO hO aO kO hM hQ hw iO_answered iO_searched iO_searchedRelaxed iO_counted fO_countedCase gO_goalNumber gO_goalScale fO_start fO_column fO_chosen ++ (WM hM aM kM iM_stands iM_variables iM_rows iM_goals iM_differents iM_cases fM_from fM_to fM_whole fM_ways iM_plainRows fM_plainRow fM_kept fM_goalOver fM_goalUnder fM_goalMax fM_different ++ (WQ hQ aQ kQ hw fQ_inside fQ_outside fQ_shut iQ_rows iQ_allRows iQ_columns ++ (WW nW hw lw kw wl wb wG)))) s.heap.size = A at hD ⊢
  have hA : ∀ q : Nat, s.heap.size ≤ q → A q := fun q h => by rw [← hAe]; exact Or.inr h
  have hS : va_S A s.heap s.heap [] := va_S.rf
  have hl := lv_entry ([.ref (hO 0)]) (n := 6) (Nat.le_of_ble_eq_true rfl)
  rw [lg_entry_eq]
  generalize (lg_sl ([.ref (hO 0)]) ++ List.replicate (6 - (lg_sl ([.ref (hO 0)])).length) Slot.unset).toArray = ls at hl ⊢
  have hl : lv_has ls 6 [(0, .ref (hO 0))] := hl
  refine lv_aload_n hx hb dX5_countRows_0 rfl (lv_at hl 0 rfl) ?_
  refine va_get (D := (dC, dI)) (ci := 5) (v := .int iO_counted) (C := RX5) (T := TX5) (N := 19) hx hb hts iwsMX5_countRows_in5 hown hK hP 0 rfl rfl 5 (by decide) (hts _ hm_m_X5_countRows_0) (fun _ h9 => h9) rfl dX5_countRows_1 ?_
  refine lv_iconst (v := (-1)) hx hb dX5_countRows_4 (by decide) ?_
  refine lv_icmp_eq (tgt := 13) hx hb dX5_countRows_5 (by decide) (fun c_5 => ?_) (fun c_5 => ?_)
  · have t_5 : iO_counted.toInt = (-1) := toI_eq c_5 rfl (by decide : ((-1) : Int32).toInt = (-1))
    refine lv_iconst (v := 1) hx hb dX5_countRows_13 (by decide) ?_
    refine lv_istore_n hx hb dX5_countRows_14 rfl hl (by decide) rfl (fun ls (hl : lv_has ls _ ([(1, .int 1), (0, .ref (hO 0))])) => ?_)
    refine lv_iconst (v := 0) hx hb dX5_countRows_15 (by decide) ?_
    refine lv_istore_n hx hb dX5_countRows_16 rfl hl (by decide) rfl (fun ls (hl : lv_has ls _ ([(2, .int 0), (1, .int 1), (0, .ref (hO 0))])) => ?_)
    have hl : lv_has _ _ ([(2, .int 0), (1, .int 1), (0, .ref (hO 0))]) := lv_sub hl [0, 1, 2] rfl
    refine (fun (loop : ∀ (n9 : Nat) (l2_x17 : Int32) (l1_x17 : Int32) (H : Heap) (locs : List Loc) (ls : Array Slot), (0 ≤ l2_x17.toInt ∧ l2_x17.toInt ≤ 8) → (8 - l2_x17.toInt < ((n9 : Nat) : Int)) → va_P (dC, dI) vwCl (WO hO aO kO hM hQ hw iO_answered iO_searched iO_searchedRelaxed iO_counted fO_countedCase gO_goalNumber gO_goalScale fO_start fO_column fO_chosen ++ (WM hM aM kM iM_stands iM_variables iM_rows iM_goals iM_differents iM_cases fM_from fM_to fM_whole fM_ways iM_plainRows fM_plainRow fM_kept fM_goalOver fM_goalUnder fM_goalMax fM_different ++ (WQ hQ aQ kQ hw fQ_inside fQ_outside fQ_shut iQ_rows iQ_allRows iQ_columns ++ (WW nW hw lw kw wl wb wG)))) H → va_D A (WO hO aO kO hM hQ hw iO_answered iO_searched iO_searchedRelaxed iO_counted fO_countedCase gO_goalNumber gO_goalScale fO_start fO_column fO_chosen ++ (WM hM aM kM iM_stands iM_variables iM_rows iM_goals iM_differents iM_cases fM_from fM_to fM_whole fM_ways iM_plainRows fM_plainRow fM_kept fM_goalOver fM_goalUnder fM_goalMax fM_different ++ (WQ hQ aQ kQ hw fQ_inside fQ_outside fQ_shut iQ_rows iQ_allRows iQ_columns ++ (WW nW hw lw kw wl wb wG)))) → va_S A s.heap H locs → lv_has ls 6 [(2, .int l2_x17), (1, .int l1_x17), (0, .ref (hO 0))] → W p l e _ s m _ below meth c H locs 0 0 _ (F0 m 17 ls [])) => loop (9) 0 1 _ _ _ (show 0 ≤ (0 : Int32).toInt ∧ (0 : Int32).toInt ≤ 8 from by decide) ((by have e9 : (0 : Int32).toInt = 0 := (by decide : (0 : Int32).toInt = 0); omega)) hP hD hS hl) ?_
    intro n9
    induction n9 with
    | zero => intro l2_x17 l1_x17 H locs ls b_l2_x17 hf9; exact False.elim (by omega)
    | succ n9 ihx17 =>
      intro l2_x17 l1_x17 H locs ls b_l2_x17 hfx17 hP hD hS hl
      refine lv_iload_n hx hb dX5_countRows_17 rfl (lv_at hl 0 rfl) ?_
      refine lv_aload_n hx hb dX5_countRows_18 rfl (lv_at hl 2 rfl) ?_
      refine va_get (D := (dC, dI)) (ci := 5) (v := .ref (hM 0)) (C := RX5) (T := TX5) (N := 19) hx hb hts iwsMX5_countRows_in5 hown hK hP 0 rfl rfl 0 (by decide) (hts _ hm_m_X5_countRows_1) (fun _ h9 => h9) rfl dX5_countRows_19 ?_
      refine va_get (D := (dC, dI)) (ci := 1) (v := .int iM_variables) (C := RX1) (T := TX1) (N := 17) hx hb hts iwsMX5_countRows_in1 hown hK hP 11 rfl rfl 1 (by decide) (hts (.fieldLink RX5 112 "OptimaWorks$Model" "variables" "I") (by decide +kernel)) (fun _ h9 => h9) rfl dX5_countRows_22 ?_
      refine lv_icmp_ge (tgt := 61) hx hb dX5_countRows_25 (by decide) (fun c_25 => ?_) (fun c_25 => ?_)
      · have t_25 : l2_x17.toInt ≥ iM_variables.toInt := toI_ge c_25 rfl rfl
        refine lv_iload_n hx hb dX5_countRows_61 rfl (lv_at hl 1 rfl) ?_
        refine W.cut (pc := 78) (fun H locs ls stk => ∃ (k0_j305 : Int32), (0 < l1_x17.toInt → 0 ≤ k0_j305.toInt ∧ k0_j305.toInt * l1_x17.toInt ≤ 200000) ∧  stk = [.int k0_j305] ∧ va_P (dC, dI) vwCl (WO hO aO kO hM hQ hw iO_answered iO_searched iO_searchedRelaxed iO_counted fO_countedCase gO_goalNumber gO_goalScale fO_start fO_column fO_chosen ++ (WM hM aM kM iM_stands iM_variables iM_rows iM_goals iM_differents iM_cases fM_from fM_to fM_whole fM_ways iM_plainRows fM_plainRow fM_kept fM_goalOver fM_goalUnder fM_goalMax fM_different ++ (WQ hQ aQ kQ hw fQ_inside fQ_outside fQ_shut iQ_rows iQ_allRows iQ_columns ++ (WW nW hw lw kw wl wb wG)))) H ∧ va_D A (WO hO aO kO hM hQ hw iO_answered iO_searched iO_searchedRelaxed iO_counted fO_countedCase gO_goalNumber gO_goalScale fO_start fO_column fO_chosen ++ (WM hM aM kM iM_stands iM_variables iM_rows iM_goals iM_differents iM_cases fM_from fM_to fM_whole fM_ways iM_plainRows fM_plainRow fM_kept fM_goalOver fM_goalUnder fM_goalMax fM_different ++ (WQ hQ aQ kQ hw fQ_inside fQ_outside fQ_shut iQ_rows iQ_allRows iQ_columns ++ (WW nW hw lw kw wl wb wG)))) ∧ va_S A s.heap H locs ∧ lv_has ls 6 [(2, .int l2_x17), (1, .int l1_x17), (0, .ref (hO 0))]) (fun join305 => ?_) ?_
        · refine lv_if_ne (tgt := 69) hx hb dX5_countRows_62 (by decide) (fun c_62 => ?_) (fun c_62 => ?_)
          · have t_62 : l1_x17.toInt ≠ 0 := toI_ne c_62 rfl (by decide : (0 : Int32).toInt = 0)
            refine lv_aload_n hx hb dX5_countRows_69 rfl (lv_at hl 2 rfl) ?_
            refine va_get (D := (dC, dI)) (ci := 5) (v := .ref (hM 0)) (C := RX5) (T := TX5) (N := 19) hx hb hts iwsMX5_countRows_in5 hown hK hP 0 rfl rfl 0 (by decide) (hts _ hm_m_X5_countRows_1) (fun _ h9 => h9) rfl dX5_countRows_70 ?_
            refine va_get (D := (dC, dI)) (ci := 1) (v := .int iM_cases) (C := RX1) (T := TX1) (N := 17) hx hb hts iwsMX5_countRows_in1 hown hK hP 11 rfl rfl 5 (by decide) (hts (.fieldLink RX5 91 "OptimaWorks$Model" "cases" "I") (by decide +kernel)) (fun _ h9 => h9) rfl dX5_countRows_73 ?_
            refine lv_iload_n hx hb dX5_countRows_76 rfl (lv_at hl 1 rfl) ?_
            refine lv_idiv hx hb dX5_countRows_77 (nz_i (x := l1_x17) rfl (by omega)) ?_
            refine lv_topi (fun v619 hv619 => ?_)
            have b_v619 : 0 < l1_x17.toInt → 0 ≤ v619.toInt ∧ v619.toInt * l1_x17.toInt ≤ iM_cases.toInt := by rw [hv619]; exact idiv_mul rfl rfl (by omega)
            clear hv619
            have hl : lv_has _ _ ([(2, .int l2_x17), (1, .int l1_x17), (0, .ref (hO 0))]) := lv_sub hl [0, 1, 2] rfl
            exact join305 _ _ _ _ ⟨v619, (show 0 < l1_x17.toInt → 0 ≤ v619.toInt ∧ v619.toInt * l1_x17.toInt ≤ 200000 from by first | (intro h9; exfalso; omega) | (intro h9; have h8 := b_v619 h9; exact ⟨h8.1, by omega⟩)), rfl, hP, hD, hS, hl⟩
          · have t_62 : l1_x17.toInt = 0 := toI_nne c_62 rfl (by decide : (0 : Int32).toInt = 0)
            refine lv_iconst (v := 0) hx hb dX5_countRows_65 (by decide) ?_
            refine lv_goto (tgt := 78) hx hb dX5_countRows_66 (by decide) ?_
            have hl : lv_has _ _ ([(2, .int l2_x17), (1, .int l1_x17), (0, .ref (hO 0))]) := lv_sub hl [0, 1, 2] rfl
            exact join305 _ _ _ _ ⟨0, (show 0 < l1_x17.toInt → 0 ≤ (0 : Int32).toInt ∧ (0 : Int32).toInt * l1_x17.toInt ≤ 200000 from by intro h9; exfalso; omega), rfl, hP, hD, hS, hl⟩
        · rintro H locs ls stk ⟨k0_j305, hcb, rfl, hP, hD, hS, hl⟩
          refine lv_istore_n hx hb dX5_countRows_78 rfl hl (by decide) rfl (fun ls (hl : lv_has ls _ ([(2, .int k0_j305), (1, .int l1_x17), (0, .ref (hO 0))])) => ?_)
          refine lv_aload_n hx hb dX5_countRows_79 rfl (lv_at hl 2 rfl) ?_
          refine lv_iconst (v := 0) hx hb dX5_countRows_80 (by decide) ?_
          refine va_put (D := (dC, dI)) (ci := 5) (v := .int 0) (ty := .int) (C := RX5) (T := TX5) (N := 19) hx hb hts iwsMX5_countRows_in5 tyX5 tyX5_ok nmX5 hown hK hP hD hS 0 rfl rfl 5 (by decide) (hts _ hm_m_X5_countRows_0) (fun _ h9 => h9) rfl (by decide +kernel) rfl rfl (Nat.le_of_ble_eq_true rfl) dX5_countRows_81 (fun H locs hP hD hS => ?_)
          have hP : va_P (dC, dI) vwCl (WO hO aO kO hM hQ hw iO_answered iO_searched iO_searchedRelaxed 0 fO_countedCase gO_goalNumber gO_goalScale fO_start fO_column fO_chosen ++ (WM hM aM kM iM_stands iM_variables iM_rows iM_goals iM_differents iM_cases fM_from fM_to fM_whole fM_ways iM_plainRows fM_plainRow fM_kept fM_goalOver fM_goalUnder fM_goalMax fM_different ++ (WQ hQ aQ kQ hw fQ_inside fQ_outside fQ_shut iQ_rows iQ_allRows iQ_columns ++ (WW nW hw lw kw wl wb wG)))) H := hP
          have hD := fz_sd hP (hD) rfl
          have w1_ := i32_r l1_x17
          have w2_ := i32_r k0_j305
          refine lv_iconst (v := 0) hx hb dX5_countRows_84 (by decide) ?_
          refine lv_istore_n hx hb dX5_countRows_85 rfl hl (by decide) rfl (fun ls (hl : lv_has ls _ ([(3, .int 0), (2, .int k0_j305), (1, .int l1_x17), (0, .ref (hO 0))])) => ?_)
          have hl : lv_has _ _ ([(3, .int 0), (2, .int k0_j305), (1, .int l1_x17), (0, .ref (hO 0))]) := lv_sub hl [0, 1, 2, 3] rfl
          refine (fun (loop : ∀ (n9 : Nat) (iO_counted_x86 : Int32) (fO_countedCase_x86 : Nat → Int32) (fO_start_x86 : Nat → Int32) (fO_column_x86 : Nat → Int32) (fO_chosen_x86 : Nat → Int32) (fQ_inside_x86 : Nat → Int32) (fQ_outside_x86 : Nat → Int32) (fQ_shut_x86 : Nat → Int32) (iQ_rows_x86 : Int32) (iQ_allRows_x86 : Int32) (iQ_columns_x86 : Int32) (wl_x86 : Nat → Int32) (wb_x86 : Nat → Int32) (wG_x86 : Nat → Nat → Int64) (l3_x86 : Int32) (H : Heap) (locs : List Loc) (ls : Array Slot), ((-1) ≤ iO_counted_x86.toInt ∧ iO_counted_x86.toInt ≤ 64) → (∀ q : Nat, 0 ≤ (fO_countedCase_x86 q).toInt ∧ (fO_countedCase_x86 q).toInt ≤ 200000) → (∀ q : Nat, (-1) ≤ (fO_column_x86 q).toInt ∧ (fO_column_x86 q).toInt ≤ 8) → (∀ q : Nat, 0 ≤ (fO_chosen_x86 q).toInt ∧ (fO_chosen_x86 q).toInt ≤ 2) → (0 ≤ iQ_rows_x86.toInt ∧ iQ_rows_x86.toInt ≤ 40) → (0 ≤ iQ_allRows_x86.toInt ∧ iQ_allRows_x86.toInt ≤ 40) → (0 ≤ iQ_columns_x86.toInt ∧ iQ_columns_x86.toInt ≤ 40) → (∀ q : Nat, 0 ≤ (wl_x86 q).toInt ∧ (wl_x86 q).toInt ≤ 14) → (∀ q : Nat, 0 ≤ (wb_x86 q).toInt ∧ (wb_x86 q).toInt ≤ 1) → (0 ≤ l3_x86.toInt ∧ l3_x86.toInt ≤ 2147483647) → (TbO iQ_rows_x86 iQ_allRows_x86 iQ_columns_x86) → (0 ≤ iO_counted_x86.toInt) → (2147483647 - l3_x86.toInt < ((n9 : Nat) : Int)) → va_P (dC, dI) vwCl (WO hO aO kO hM hQ hw iO_answered iO_searched iO_searchedRelaxed iO_counted_x86 fO_countedCase_x86 gO_goalNumber gO_goalScale fO_start_x86 fO_column_x86 fO_chosen_x86 ++ (WM hM aM kM iM_stands iM_variables iM_rows iM_goals iM_differents iM_cases fM_from fM_to fM_whole fM_ways iM_plainRows fM_plainRow fM_kept fM_goalOver fM_goalUnder fM_goalMax fM_different ++ (WQ hQ aQ kQ hw fQ_inside_x86 fQ_outside_x86 fQ_shut_x86 iQ_rows_x86 iQ_allRows_x86 iQ_columns_x86 ++ (WW nW hw lw kw wl_x86 wb_x86 wG_x86)))) H → va_D A (WO hO aO kO hM hQ hw iO_answered iO_searched iO_searchedRelaxed iO_counted_x86 fO_countedCase_x86 gO_goalNumber gO_goalScale fO_start_x86 fO_column_x86 fO_chosen_x86 ++ (WM hM aM kM iM_stands iM_variables iM_rows iM_goals iM_differents iM_cases fM_from fM_to fM_whole fM_ways iM_plainRows fM_plainRow fM_kept fM_goalOver fM_goalUnder fM_goalMax fM_different ++ (WQ hQ aQ kQ hw fQ_inside_x86 fQ_outside_x86 fQ_shut_x86 iQ_rows_x86 iQ_allRows_x86 iQ_columns_x86 ++ (WW nW hw lw kw wl_x86 wb_x86 wG_x86)))) → va_S A s.heap H locs → lv_has ls 6 [(3, .int l3_x86), (2, .int k0_j305), (1, .int l1_x17), (0, .ref (hO 0))] → W p l e _ s m _ below meth c H locs 0 0 _ (F0 m 86 ls [])) => loop (2147483648) 0 fO_countedCase fO_start fO_column fO_chosen fQ_inside fQ_outside fQ_shut iQ_rows iQ_allRows iQ_columns wl wb wG 0 _ _ _ (show (-1) ≤ (0 : Int32).toInt ∧ (0 : Int32).toInt ≤ 64 from by decide) b_fO_countedCase b_fO_column b_fO_chosen (b_iQ_rows) (b_iQ_allRows) (b_iQ_columns) b_wl b_wb (show 0 ≤ (0 : Int32).toInt ∧ (0 : Int32).toInt ≤ 2147483647 from by decide) (by first | with_reducible assumption | omega | assumption) (show 0 ≤ (0 : Int32).toInt from by first | decide | omega) ((by have e9 : (0 : Int32).toInt = 0 := (by decide : (0 : Int32).toInt = 0); omega)) hP hD hS hl) ?_
          intro n9
          induction n9 with
          | zero => intro iO_counted_x86 fO_countedCase_x86 fO_start_x86 fO_column_x86 fO_chosen_x86 fQ_inside_x86 fQ_outside_x86 fQ_shut_x86 iQ_rows_x86 iQ_allRows_x86 iQ_columns_x86 wl_x86 wb_x86 wG_x86 l3_x86 H locs ls b_iO_counted_x86 b_fO_countedCase_x86 b_fO_column_x86 b_fO_chosen_x86 b_iQ_rows_x86 b_iQ_allRows_x86 b_iQ_columns_x86 b_wl_x86 b_wb_x86 b_l3_x86 b_tb_x86 hc0 hf9; exact False.elim (by omega)
          | succ n9 ihx86 =>
            intro iO_counted_x86 fO_countedCase_x86 fO_start_x86 fO_column_x86 fO_chosen_x86 fQ_inside_x86 fQ_outside_x86 fQ_shut_x86 iQ_rows_x86 iQ_allRows_x86 iQ_columns_x86 wl_x86 wb_x86 wG_x86 l3_x86 H locs ls b_iO_counted_x86 b_fO_countedCase_x86 b_fO_column_x86 b_fO_chosen_x86 b_iQ_rows_x86 b_iQ_allRows_x86 b_iQ_columns_x86 b_wl_x86 b_wb_x86 b_l3_x86 b_tb_x86 hc0 hfx86 hP hD hS hl
            refine lv_iload_n hx hb dX5_countRows_86 rfl (lv_at hl 0 rfl) ?_
            refine lv_iload_n hx hb dX5_countRows_87 rfl (lv_at hl 2 rfl) ?_
            refine W.cut (pc := 196) (fun H locs ls stk =>  stk = [] ∧ va_P (dC, dI) vwCl (WO hO aO kO hM hQ hw iO_answered iO_searched iO_searchedRelaxed iO_counted_x86 fO_countedCase_x86 gO_goalNumber gO_goalScale fO_start_x86 fO_column_x86 fO_chosen_x86 ++ (WM hM aM kM iM_stands iM_variables iM_rows iM_goals iM_differents iM_cases fM_from fM_to fM_whole fM_ways iM_plainRows fM_plainRow fM_kept fM_goalOver fM_goalUnder fM_goalMax fM_different ++ (WQ hQ aQ kQ hw fQ_inside_x86 fQ_outside_x86 fQ_shut_x86 iQ_rows_x86 iQ_allRows_x86 iQ_columns_x86 ++ (WW nW hw lw kw wl_x86 wb_x86 wG_x86)))) H ∧ va_D A (WO hO aO kO hM hQ hw iO_answered iO_searched iO_searchedRelaxed iO_counted_x86 fO_countedCase_x86 gO_goalNumber gO_goalScale fO_start_x86 fO_column_x86 fO_chosen_x86 ++ (WM hM aM kM iM_stands iM_variables iM_rows iM_goals iM_differents iM_cases fM_from fM_to fM_whole fM_ways iM_plainRows fM_plainRow fM_kept fM_goalOver fM_goalUnder fM_goalMax fM_different ++ (WQ hQ aQ kQ hw fQ_inside_x86 fQ_outside_x86 fQ_shut_x86 iQ_rows_x86 iQ_allRows_x86 iQ_columns_x86 ++ (WW nW hw lw kw wl_x86 wb_x86 wG_x86)))) ∧ va_S A s.heap H locs ∧ lv_has ls 6 [(3, .int l3_x86), (2, .int k0_j305), (1, .int l1_x17), (0, .ref (hO 0))]) (fun join357 => ?_) ?_
            · refine lv_icmp_ge (tgt := 196) hx hb dX5_countRows_88 (by decide) (fun c_88 => ?_) (fun c_88 => ?_)
              · have t_88 : l3_x86.toInt ≥ l1_x17.toInt := toI_ge c_88 rfl rfl
                have hl : lv_has _ _ ([(3, .int l3_x86), (2, .int k0_j305), (1, .int l1_x17), (0, .ref (hO 0))]) := lv_sub hl [0, 1, 2, 3] rfl
                exact join357 _ _ _ _ ⟨rfl, hP, hD, hS, hl⟩
              · have t_88 : ¬ l3_x86.toInt ≥ l1_x17.toInt := toI_nge c_88 rfl rfl
                refine lv_aload_n hx hb dX5_countRows_91 rfl (lv_at hl 3 rfl) ?_
                refine va_get (D := (dC, dI)) (ci := 5) (v := .int iO_counted_x86) (C := RX5) (T := TX5) (N := 19) hx hb hts iwsMX5_countRows_in5 hown hK hP 0 rfl rfl 5 (by decide) (hts _ hm_m_X5_countRows_0) (fun _ h9 => h9) rfl dX5_countRows_92 ?_
                refine lv_aload_n hx hb dX5_countRows_95 rfl (lv_at hl 3 rfl) ?_
                refine va_get (D := (dC, dI)) (ci := 5) (v := .ref (aO 0)) (C := RX5) (T := TX5) (N := 19) hx hb hts iwsMX5_countRows_in5 hown hK hP 0 rfl rfl 6 (by decide) (hts _ hm_m_X5_countRows_2) (fun _ h9 => h9) rfl dX5_countRows_96 ?_
                refine va_alen hx hb hK hP 1 0 rfl rfl (v := 64) rfl dX5_countRows_99 ?_
                refine lv_icmp_ge (tgt := 196) hx hb dX5_countRows_100 (by decide) (fun c_100 => ?_) (fun c_100 => ?_)
                · have t_100 : iO_counted_x86.toInt ≥ 64 := toI_ge c_100 rfl (by decide : (64 : Int32).toInt = 64)
                  have hl : lv_has _ _ ([(3, .int l3_x86), (2, .int k0_j305), (1, .int l1_x17), (0, .ref (hO 0))]) := lv_sub hl [0, 1, 2, 3] rfl
                  exact join357 _ _ _ _ ⟨rfl, hP, hD, hS, hl⟩
                · have t_100 : ¬ iO_counted_x86.toInt ≥ 64 := toI_nge c_100 rfl (by decide : (64 : Int32).toInt = 64)
                  refine lv_iconst (v := 0) hx hb dX5_countRows_103 (by decide) ?_
                  refine lv_istore hx hb dX5_countRows_104 hl (by decide) rfl (fun ls (hl : lv_has ls _ ([(4, .int 0), (3, .int l3_x86), (2, .int k0_j305), (1, .int l1_x17), (0, .ref (hO 0))])) => ?_)
                  refine lv_iconst (v := 0) hx hb dX5_countRows_106 (by decide) ?_
                  refine lv_istore hx hb dX5_countRows_107 hl (by decide) rfl (fun ls (hl : lv_has ls _ ([(5, .int 0), (4, .int 0), (3, .int l3_x86), (2, .int k0_j305), (1, .int l1_x17), (0, .ref (hO 0))])) => ?_)
                  have hl : lv_has _ _ ([(5, .int 0), (4, .int 0), (3, .int l3_x86), (2, .int k0_j305), (1, .int l1_x17), (0, .ref (hO 0))]) := lv_sub hl [0, 1, 2, 3, 4, 5] rfl
                  refine (fun (loop : ∀ (n9 : Nat) (fO_start_x109 : Nat → Int32) (fO_column_x109 : Nat → Int32) (fO_chosen_x109 : Nat → Int32) (fQ_inside_x109 : Nat → Int32) (fQ_outside_x109 : Nat → Int32) (fQ_shut_x109 : Nat → Int32) (iQ_rows_x109 : Int32) (iQ_allRows_x109 : Int32) (iQ_columns_x109 : Int32) (wl_x109 : Nat → Int32) (wb_x109 : Nat → Int32) (wG_x109 : Nat → Nat → Int64) (l5_x109 : Int32) (l4_x109 : Int32) (H : Heap) (locs : List Loc) (ls : Array Slot), (∀ q : Nat, (-1) ≤ (fO_column_x109 q).toInt ∧ (fO_column_x109 q).toInt ≤ 8) → (∀ q : Nat, 0 ≤ (fO_chosen_x109 q).toInt ∧ (fO_chosen_x109 q).toInt ≤ 2) → (0 ≤ iQ_rows_x109.toInt ∧ iQ_rows_x109.toInt ≤ 40) → (0 ≤ iQ_allRows_x109.toInt ∧ iQ_allRows_x109.toInt ≤ 40) → (0 ≤ iQ_columns_x109.toInt ∧ iQ_columns_x109.toInt ≤ 40) → (∀ q : Nat, 0 ≤ (wl_x109 q).toInt ∧ (wl_x109 q).toInt ≤ 14) → (∀ q : Nat, 0 ≤ (wb_x109 q).toInt ∧ (wb_x109 q).toInt ≤ 1) → (0 ≤ l5_x109.toInt ∧ l5_x109.toInt ≤ 2147483647) → (0 ≤ l4_x109.toInt ∧ l4_x109.toInt ≤ 1) → (TbO iQ_rows_x109 iQ_allRows_x109 iQ_columns_x109) → (2147483647 - l5_x109.toInt < ((n9 : Nat) : Int)) → va_P (dC, dI) vwCl (WO hO aO kO hM hQ hw iO_answered iO_searched iO_searchedRelaxed iO_counted_x86 fO_countedCase_x86 gO_goalNumber gO_goalScale fO_start_x109 fO_column_x109 fO_chosen_x109 ++ (WM hM aM kM iM_stands iM_variables iM_rows iM_goals iM_differents iM_cases fM_from fM_to fM_whole fM_ways iM_plainRows fM_plainRow fM_kept fM_goalOver fM_goalUnder fM_goalMax fM_different ++ (WQ hQ aQ kQ hw fQ_inside_x109 fQ_outside_x109 fQ_shut_x109 iQ_rows_x109 iQ_allRows_x109 iQ_columns_x109 ++ (WW nW hw lw kw wl_x109 wb_x109 wG_x109)))) H → va_D A (WO hO aO kO hM hQ hw iO_answered iO_searched iO_searchedRelaxed iO_counted_x86 fO_countedCase_x86 gO_goalNumber gO_goalScale fO_start_x109 fO_column_x109 fO_chosen_x109 ++ (WM hM aM kM iM_stands iM_variables iM_rows iM_goals iM_differents iM_cases fM_from fM_to fM_whole fM_ways iM_plainRows fM_plainRow fM_kept fM_goalOver fM_goalUnder fM_goalMax fM_different ++ (WQ hQ aQ kQ hw fQ_inside_x109 fQ_outside_x109 fQ_shut_x109 iQ_rows_x109 iQ_allRows_x109 iQ_columns_x109 ++ (WW nW hw lw kw wl_x109 wb_x109 wG_x109)))) → va_S A s.heap H locs → lv_has ls 6 [(5, .int l5_x109), (4, .int l4_x109), (3, .int l3_x86), (2, .int k0_j305), (1, .int l1_x17), (0, .ref (hO 0))] → W p l e _ s m _ below meth c H locs 0 0 _ (F0 m 109 ls [])) => loop (2147483648) fO_start_x86 fO_column_x86 fO_chosen_x86 fQ_inside_x86 fQ_outside_x86 fQ_shut_x86 iQ_rows_x86 iQ_allRows_x86 iQ_columns_x86 wl_x86 wb_x86 wG_x86 0 0 _ _ _ b_fO_column_x86 b_fO_chosen_x86 (b_iQ_rows_x86) (b_iQ_allRows_x86) (b_iQ_columns_x86) b_wl_x86 b_wb_x86 (show 0 ≤ (0 : Int32).toInt ∧ (0 : Int32).toInt ≤ 2147483647 from by decide) (show 0 ≤ (0 : Int32).toInt ∧ (0 : Int32).toInt ≤ 1 from by decide) (by first | with_reducible assumption | omega | assumption) ((by have e9 : (0 : Int32).toInt = 0 := (by decide : (0 : Int32).toInt = 0); omega)) hP hD hS hl) ?_
                  intro n9
                  induction n9 with
                  | zero => intro fO_start_x109 fO_column_x109 fO_chosen_x109 fQ_inside_x109 fQ_outside_x109 fQ_shut_x109 iQ_rows_x109 iQ_allRows_x109 iQ_columns_x109 wl_x109 wb_x109 wG_x109 l5_x109 l4_x109 H locs ls b_fO_column_x109 b_fO_chosen_x109 b_iQ_rows_x109 b_iQ_allRows_x109 b_iQ_columns_x109 b_wl_x109 b_wb_x109 b_l5_x109 b_l4_x109 b_tb_x109 hf9; exact False.elim (by omega)
                  | succ n9 ihx109 =>
                    intro fO_start_x109 fO_column_x109 fO_chosen_x109 fQ_inside_x109 fQ_outside_x109 fQ_shut_x109 iQ_rows_x109 iQ_allRows_x109 iQ_columns_x109 wl_x109 wb_x109 wG_x109 l5_x109 l4_x109 H locs ls b_fO_column_x109 b_fO_chosen_x109 b_iQ_rows_x109 b_iQ_allRows_x109 b_iQ_columns_x109 b_wl_x109 b_wb_x109 b_l5_x109 b_l4_x109 b_tb_x109 hfx109 hP hD hS hl
                    refine lv_iload hx hb dX5_countRows_109 (lv_at hl 0 rfl) ?_
                    refine lv_iload_n hx hb dX5_countRows_111 rfl (lv_at hl 3 rfl) ?_
                    refine W.cut (pc := 163) (fun H locs ls stk =>  stk = [] ∧ va_P (dC, dI) vwCl (WO hO aO kO hM hQ hw iO_answered iO_searched iO_searchedRelaxed iO_counted_x86 fO_countedCase_x86 gO_goalNumber gO_goalScale fO_start_x109 fO_column_x109 fO_chosen_x109 ++ (WM hM aM kM iM_stands iM_variables iM_rows iM_goals iM_differents iM_cases fM_from fM_to fM_whole fM_ways iM_plainRows fM_plainRow fM_kept fM_goalOver fM_goalUnder fM_goalMax fM_different ++ (WQ hQ aQ kQ hw fQ_inside_x109 fQ_outside_x109 fQ_shut_x109 iQ_rows_x109 iQ_allRows_x109 iQ_columns_x109 ++ (WW nW hw lw kw wl_x109 wb_x109 wG_x109)))) H ∧ va_D A (WO hO aO kO hM hQ hw iO_answered iO_searched iO_searchedRelaxed iO_counted_x86 fO_countedCase_x86 gO_goalNumber gO_goalScale fO_start_x109 fO_column_x109 fO_chosen_x109 ++ (WM hM aM kM iM_stands iM_variables iM_rows iM_goals iM_differents iM_cases fM_from fM_to fM_whole fM_ways iM_plainRows fM_plainRow fM_kept fM_goalOver fM_goalUnder fM_goalMax fM_different ++ (WQ hQ aQ kQ hw fQ_inside_x109 fQ_outside_x109 fQ_shut_x109 iQ_rows_x109 iQ_allRows_x109 iQ_columns_x109 ++ (WW nW hw lw kw wl_x109 wb_x109 wG_x109)))) ∧ va_S A s.heap H locs ∧ lv_has ls 6 [(5, .int l5_x109), (4, .int l4_x109), (3, .int l3_x86), (2, .int k0_j305), (1, .int l1_x17), (0, .ref (hO 0))]) (fun join365 => ?_) ?_
                    · refine lv_icmp_ge (tgt := 163) hx hb dX5_countRows_112 (by decide) (fun c_112 => ?_) (fun c_112 => ?_)
                      · have t_112 : l5_x109.toInt ≥ k0_j305.toInt := toI_ge c_112 rfl rfl
                        have hl : lv_has _ _ ([(5, .int l5_x109), (4, .int l4_x109), (3, .int l3_x86), (2, .int k0_j305), (1, .int l1_x17), (0, .ref (hO 0))]) := lv_sub hl [0, 1, 2, 3, 4, 5] rfl
                        exact join365 _ _ _ _ ⟨rfl, hP, hD, hS, hl⟩
                      · have t_112 : ¬ l5_x109.toInt ≥ k0_j305.toInt := toI_nge c_112 rfl rfl
                        refine lv_iload hx hb dX5_countRows_115 (lv_at hl 1 rfl) ?_
                        refine lv_if_ne (tgt := 163) hx hb dX5_countRows_117 (by decide) (fun c_117 => ?_) (fun c_117 => ?_)
                        · have t_117 : l4_x109.toInt ≠ 0 := toI_ne c_117 rfl (by decide : (0 : Int32).toInt = 0)
                          have hl : lv_has _ _ ([(5, .int l5_x109), (4, .int l4_x109), (3, .int l3_x86), (2, .int k0_j305), (1, .int l1_x17), (0, .ref (hO 0))]) := lv_sub hl [0, 1, 2, 3, 4, 5] rfl
                          exact join365 _ _ _ _ ⟨rfl, hP, hD, hS, hl⟩
                        · have t_117 : l4_x109.toInt = 0 := toI_nne c_117 rfl (by decide : (0 : Int32).toInt = 0)
                          refine lv_aload_n hx hb dX5_countRows_120 rfl (lv_at hl 5 rfl) ?_
                          refine lv_iload_n hx hb dX5_countRows_121 rfl (lv_at hl 2 rfl) ?_
                          refine lv_iload_n hx hb dX5_countRows_122 rfl (lv_at hl 3 rfl) ?_
                          refine lv_imul hx hb dX5_countRows_123 ?_
                          refine lv_topi (fun y931 hy931 => ?_)
                          obtain rfl : (iI (l3_x86.toInt * k0_j305.toInt)) = y931 := (hy931.trans (iI_mul2 (iI_of _) (iI_of _))).symm
                          refine lv_iload hx hb dX5_countRows_124 (lv_at hl 0 rfl) ?_
                          refine lv_iadd hx hb dX5_countRows_126 ?_
                          refine lv_topi (fun y932 hy932 => ?_)
                          obtain rfl : (iI ((l3_x86.toInt * k0_j305.toInt) + l5_x109.toInt)) = y932 := (hy932.trans (iI_add2 rfl (iI_of _))).symm
                          have hFc := allFree hD hS hA
                          refine va_calli (va_runV (As := [.int (iI ((l3_x86.toInt * k0_j305.toInt) + l5_x109.toInt))]) (rest := []) ⟨hx, hb, hml, hown, hts⟩ (m_X5_choose l dC dI hO aO kO hM hQ hw iO_answered iO_searched iO_searchedRelaxed iO_counted_x86 fO_countedCase_x86 gO_goalNumber gO_goalScale fO_start_x109 fO_column_x109 fO_chosen_x109 aM kM iM_stands iM_variables iM_rows iM_goals iM_differents iM_cases fM_from fM_to fM_whole fM_ways iM_plainRows fM_plainRow fM_kept fM_goalOver fM_goalUnder fM_goalMax fM_different aQ kQ fQ_inside_x109 fQ_outside_x109 fQ_shut_x109 iQ_rows_x109 iQ_allRows_x109 iQ_columns_x109 nW lw kw wl_x109 wb_x109 wG_x109 (iI ((l3_x86.toInt * k0_j305.toInt) + l5_x109.toInt)) (b_iO_answered) (b_iO_searched) (b_iO_searchedRelaxed) (b_iO_counted_x86) b_fO_countedCase_x86 b_fO_column_x109 b_fO_chosen_x109 (b_iM_stands) (b_iM_variables) (b_iM_rows) (b_iM_goals) (b_iM_differents) (b_iM_cases) b_fM_ways (b_iM_plainRows) b_fM_plainRow (by first | with_reducible assumption | omega | assumption) (b_iQ_rows_x109) (b_iQ_allRows_x109) (b_iQ_columns_x109) (by first | with_reducible assumption | omega | assumption) b_wl_x109 b_wb_x109 ((by have h9 := cnt_ix (i := l3_x86.toInt) (j := l5_x109.toInt) (w := l1_x17.toInt) (c := k0_j305.toInt) hcb (by omega) (by omega) (by omega) (by omega); rw [iI_t (by omega) (by omega)]; exact h9)) (by omega) H.size) (cwV 1 hts gwsMX5_countRows_1 rfl rfl rfl hd_yX5_choose_RX5 (by decide +kernel)) (fz_pre (va_recv hK hP (ci := 5) (q0 := 0) rfl rfl) hP hK hD) rfl rfl hl.1 rfl (lv_room (Nat.le_of_ble_eq_true rfl)) dX5_countRows_127 (by decide +kernel)) hS (fun q _ h => hFc q h) hFc (fun r933 u t9_ H locs ht hvm hw9 hB9 hz1 hk1 hS => ?_)
                          revert u hw9 hB9
                          refine fz_p2 ?_
                          intro fO_start_933 fO_chosen_933 hw9 hB9
                          try dsimp only at hw9 hB9
                          revert hw9
                          refine fz_a2 ?_
                          intro b_fO_chosen_933 b_r933
                          have hP : va_P (dC, dI) vwCl (WO hO aO kO hM hQ hw iO_answered iO_searched iO_searchedRelaxed iO_counted_x86 fO_countedCase_x86 gO_goalNumber gO_goalScale fO_start_933 fO_column_x109 fO_chosen_933 ++ (WM hM aM kM iM_stands iM_variables iM_rows iM_goals iM_differents iM_cases fM_from fM_to fM_whole fM_ways iM_plainRows fM_plainRow fM_kept fM_goalOver fM_goalUnder fM_goalMax fM_different ++ (WQ hQ aQ kQ hw fQ_inside_x109 fQ_outside_x109 fQ_shut_x109 iQ_rows_x109 iQ_allRows_x109 iQ_columns_x109 ++ (WW nW hw lw kw wl_x109 wb_x109 wG_x109)))) H := fz_P ht hB9.1
                          have hD := fz_sd hP (hB9.2.weaken (fun _ q _ h => hFc q.1 h)) rfl
                          refine W.cut (pc := 155) (fun H locs ls stk => ∃ (fO_start_j366 : Nat → Int32) (fO_column_j366 : Nat → Int32) (fQ_inside_j366 : Nat → Int32) (fQ_outside_j366 : Nat → Int32) (fQ_shut_j366 : Nat → Int32) (iQ_rows_j366 : Int32) (iQ_allRows_j366 : Int32) (iQ_columns_j366 : Int32) (wl_j366 : Nat → Int32) (wb_j366 : Nat → Int32) (wG_j366 : Nat → Nat → Int64) (k0_j366 : Int32), (∀ q : Nat, (-1) ≤ (fO_column_j366 q).toInt ∧ (fO_column_j366 q).toInt ≤ 8) ∧ (0 ≤ iQ_rows_j366.toInt ∧ iQ_rows_j366.toInt ≤ 40) ∧ (0 ≤ iQ_allRows_j366.toInt ∧ iQ_allRows_j366.toInt ≤ 40) ∧ (0 ≤ iQ_columns_j366.toInt ∧ iQ_columns_j366.toInt ≤ 40) ∧ (∀ q : Nat, 0 ≤ (wl_j366 q).toInt ∧ (wl_j366 q).toInt ≤ 14) ∧ (∀ q : Nat, 0 ≤ (wb_j366 q).toInt ∧ (wb_j366 q).toInt ≤ 1) ∧ (TbO iQ_rows_j366 iQ_allRows_j366 iQ_columns_j366) ∧ (0 ≤ k0_j366.toInt ∧ k0_j366.toInt ≤ 1) ∧  stk = [.int k0_j366] ∧ va_P (dC, dI) vwCl (WO hO aO kO hM hQ hw iO_answered iO_searched iO_searchedRelaxed iO_counted_x86 fO_countedCase_x86 gO_goalNumber gO_goalScale fO_start_j366 fO_column_j366 fO_chosen_933 ++ (WM hM aM kM iM_stands iM_variables iM_rows iM_goals iM_differents iM_cases fM_from fM_to fM_whole fM_ways iM_plainRows fM_plainRow fM_kept fM_goalOver fM_goalUnder fM_goalMax fM_different ++ (WQ hQ aQ kQ hw fQ_inside_j366 fQ_outside_j366 fQ_shut_j366 iQ_rows_j366 iQ_allRows_j366 iQ_columns_j366 ++ (WW nW hw lw kw wl_j366 wb_j366 wG_j366)))) H ∧ va_D A (WO hO aO kO hM hQ hw iO_answered iO_searched iO_searchedRelaxed iO_counted_x86 fO_countedCase_x86 gO_goalNumber gO_goalScale fO_start_j366 fO_column_j366 fO_chosen_933 ++ (WM hM aM kM iM_stands iM_variables iM_rows iM_goals iM_differents iM_cases fM_from fM_to fM_whole fM_ways iM_plainRows fM_plainRow fM_kept fM_goalOver fM_goalUnder fM_goalMax fM_different ++ (WQ hQ aQ kQ hw fQ_inside_j366 fQ_outside_j366 fQ_shut_j366 iQ_rows_j366 iQ_allRows_j366 iQ_columns_j366 ++ (WW nW hw lw kw wl_j366 wb_j366 wG_j366)))) ∧ va_S A s.heap H locs ∧ lv_has ls 6 [(5, .int l5_x109), (4, .int l4_x109), (3, .int l3_x86), (2, .int k0_j305), (1, .int l1_x17), (0, .ref (hO 0))]) (fun join366 => ?_) ?_
                          · refine lv_if_eq (tgt := 154) hx hb dX5_countRows_130 (by decide) (fun c_130 => ?_) (fun c_130 => ?_)
                            · have t_130 : r933.toInt = 0 := toI_eq c_130 rfl (by decide : (0 : Int32).toInt = 0)
                              refine lv_iconst (v := 0) hx hb dX5_countRows_154 (by decide) ?_
                              have hl : lv_has _ _ ([(5, .int l5_x109), (4, .int l4_x109), (3, .int l3_x86), (2, .int k0_j305), (1, .int l1_x17), (0, .ref (hO 0))]) := lv_sub hl [0, 1, 2, 3, 4, 5] rfl
                              exact join366 _ _ _ _ ⟨fO_start_933, fO_column_x109, fQ_inside_x109, fQ_outside_x109, fQ_shut_x109, iQ_rows_x109, iQ_allRows_x109, iQ_columns_x109, wl_x109, wb_x109, wG_x109, 0, b_fO_column_x109, (b_iQ_rows_x109), (b_iQ_allRows_x109), (b_iQ_columns_x109), b_wl_x109, b_wb_x109, (by first | with_reducible assumption | omega | assumption), (show 0 ≤ (0 : Int32).toInt ∧ (0 : Int32).toInt ≤ 1 from by decide), rfl, hP, hD, hS, hl⟩
                            · have t_130 : ¬ r933.toInt = 0 := toI_neq c_130 rfl (by decide : (0 : Int32).toInt = 0)
                              refine lv_aload_n hx hb dX5_countRows_133 rfl (lv_at hl 5 rfl) ?_
                              refine lv_iconst (v := 0) hx hb dX5_countRows_134 (by decide) ?_
                              refine lv_iconst (v := 0) hx hb dX5_countRows_135 (by decide) ?_
                              have hFc := allFree hD hS hA
                              refine va_calli (va_runV (As := [.int 0, .int 0]) (rest := []) ⟨hx, hb, hml, hown, hts⟩ (m_X5_lay l dC dI hO aO kO hM hQ hw iO_answered iO_searched iO_searchedRelaxed iO_counted_x86 fO_countedCase_x86 gO_goalNumber gO_goalScale fO_start_933 fO_column_x109 fO_chosen_933 aM kM iM_stands iM_variables iM_rows iM_goals iM_differents iM_cases fM_from fM_to fM_whole fM_ways iM_plainRows fM_plainRow fM_kept fM_goalOver fM_goalUnder fM_goalMax fM_different aQ kQ fQ_inside_x109 fQ_outside_x109 fQ_shut_x109 iQ_rows_x109 iQ_allRows_x109 iQ_columns_x109 nW lw kw wl_x109 wb_x109 wG_x109 0 0 (b_iO_answered) (b_iO_searched) (b_iO_searchedRelaxed) (b_iO_counted_x86) b_fO_countedCase_x86 b_fO_column_x109 b_fO_chosen_933 (b_iM_stands) (b_iM_variables) (b_iM_rows) (b_iM_goals) (b_iM_differents) (b_iM_cases) b_fM_ways (b_iM_plainRows) b_fM_plainRow (by first | with_reducible assumption | omega | assumption) (b_iQ_rows_x109) (b_iQ_allRows_x109) (b_iQ_columns_x109) (by first | with_reducible assumption | omega | assumption) b_wl_x109 b_wb_x109 (show 0 ≤ (0 : Int32).toInt ∧ (0 : Int32).toInt ≤ 3 from by decide) (by omega) H.size) (cwV 2 hts gwsMX5_countRows_2 rfl rfl rfl hd_yX5_lay_RX5 (by decide +kernel)) (fz_pre (va_recv hK hP (ci := 5) (q0 := 0) rfl rfl) hP hK hD) rfl rfl hl.1 rfl (lv_room (Nat.le_of_ble_eq_true rfl)) dX5_countRows_136 (by decide +kernel)) hS (fun q _ h => hFc q h) hFc (fun r936 u t9_ H locs ht hvm hw9 hB9 hz1 hk1 hS => ?_)
                              revert u hw9 hB9
                              refine fz_p11 ?_
                              intro fO_start_936 fO_column_936 fQ_inside_936 fQ_outside_936 fQ_shut_936 iQ_rows_936 iQ_allRows_936 iQ_columns_936 wl_936 wb_936 wG_936 hw9 hB9
                              try dsimp only at hw9 hB9
                              revert hw9
                              refine fz_a10 ?_
                              intro b_fO_column_936 b_iQ_rows_936 b_iQ_allRows_936 b_iQ_columns_936 b_wl_936 b_wb_936 b_tb_936 b_r936 f936_0 f936_1
                              have hP : va_P (dC, dI) vwCl (WO hO aO kO hM hQ hw iO_answered iO_searched iO_searchedRelaxed iO_counted_x86 fO_countedCase_x86 gO_goalNumber gO_goalScale fO_start_936 fO_column_936 fO_chosen_933 ++ (WM hM aM kM iM_stands iM_variables iM_rows iM_goals iM_differents iM_cases fM_from fM_to fM_whole fM_ways iM_plainRows fM_plainRow fM_kept fM_goalOver fM_goalUnder fM_goalMax fM_different ++ (WQ hQ aQ kQ hw fQ_inside_936 fQ_outside_936 fQ_shut_936 iQ_rows_936 iQ_allRows_936 iQ_columns_936 ++ (WW nW hw lw kw wl_936 wb_936 wG_936)))) H := fz_P ht hB9.1
                              have hD := fz_sd hP (hB9.2.weaken (fun _ q _ h => hFc q.1 h)) rfl
                              refine lv_if_eq (tgt := 154) hx hb dX5_countRows_139 (by decide) (fun c_139 => ?_) (fun c_139 => ?_)
                              · have t_139 : r936.toInt = 0 := toI_eq c_139 rfl (by decide : (0 : Int32).toInt = 0)
                                refine lv_iconst (v := 0) hx hb dX5_countRows_154 (by decide) ?_
                                have hl : lv_has _ _ ([(5, .int l5_x109), (4, .int l4_x109), (3, .int l3_x86), (2, .int k0_j305), (1, .int l1_x17), (0, .ref (hO 0))]) := lv_sub hl [0, 1, 2, 3, 4, 5] rfl
                                exact join366 _ _ _ _ ⟨fO_start_936, fO_column_936, fQ_inside_936, fQ_outside_936, fQ_shut_936, iQ_rows_936, iQ_allRows_936, iQ_columns_936, wl_936, wb_936, wG_936, 0, b_fO_column_936, (b_iQ_rows_936), (b_iQ_allRows_936), (b_iQ_columns_936), b_wl_936, b_wb_936, (by first | with_reducible assumption | omega | assumption), (show 0 ≤ (0 : Int32).toInt ∧ (0 : Int32).toInt ≤ 1 from by decide), rfl, hP, hD, hS, hl⟩
                              · have t_139 : ¬ r936.toInt = 0 := toI_neq c_139 rfl (by decide : (0 : Int32).toInt = 0)
                                refine lv_aload_n hx hb dX5_countRows_142 rfl (lv_at hl 5 rfl) ?_
                                refine lv_iconst (v := 0) hx hb dX5_countRows_143 (by decide) ?_
                                have hFc := allFree hD hS hA
                                refine va_calli (va_runV (As := [.int 0]) (rest := []) ⟨hx, hb, hml, hown, hts⟩ (m_X5_settle l dC dI hO aO kO hM hQ hw iO_answered iO_searched iO_searchedRelaxed iO_counted_x86 fO_countedCase_x86 gO_goalNumber gO_goalScale fO_start_936 fO_column_936 fO_chosen_933 aM kM iM_stands iM_variables iM_rows iM_goals iM_differents iM_cases fM_from fM_to fM_whole fM_ways iM_plainRows fM_plainRow fM_kept fM_goalOver fM_goalUnder fM_goalMax fM_different aQ kQ fQ_inside_936 fQ_outside_936 fQ_shut_936 iQ_rows_936 iQ_allRows_936 iQ_columns_936 nW lw kw wl_936 wb_936 wG_936 0 (b_iO_answered) (b_iO_searched) (b_iO_searchedRelaxed) (b_iO_counted_x86) b_fO_countedCase_x86 b_fO_column_936 b_fO_chosen_933 (b_iM_stands) (b_iM_variables) (b_iM_rows) (b_iM_goals) (b_iM_differents) (b_iM_cases) b_fM_ways (b_iM_plainRows) b_fM_plainRow (by first | with_reducible assumption | omega | assumption) (b_iQ_rows_936) (b_iQ_allRows_936) (b_iQ_columns_936) (by first | with_reducible assumption | omega | assumption) b_wl_936 b_wb_936 (by omega) (by omega) H.size) (cwV 1 hts gwsMX5_countRows_3 rfl rfl rfl hd_yX5_settle_RX5 (by decide +kernel)) (fz_pre (va_recv hK hP (ci := 5) (q0 := 0) rfl rfl) hP hK hD) rfl rfl hl.1 rfl (lv_room (Nat.le_of_ble_eq_true rfl)) dX5_countRows_144 (by decide +kernel)) hS (fun q _ h => hFc q h) hFc (fun r937 u t9_ H locs ht hvm hw9 hB9 hz1 hk1 hS => ?_)
                                revert u hw9 hB9
                                refine fz_p6 ?_
                                intro fQ_inside_937 fQ_outside_937 fQ_shut_937 wl_937 wb_937 wG_937 hw9 hB9
                                try dsimp only at hw9 hB9
                                revert hw9
                                refine fz_a3 ?_
                                intro b_wl_937 b_wb_937 b_r937
                                have hP : va_P (dC, dI) vwCl (WO hO aO kO hM hQ hw iO_answered iO_searched iO_searchedRelaxed iO_counted_x86 fO_countedCase_x86 gO_goalNumber gO_goalScale fO_start_936 fO_column_936 fO_chosen_933 ++ (WM hM aM kM iM_stands iM_variables iM_rows iM_goals iM_differents iM_cases fM_from fM_to fM_whole fM_ways iM_plainRows fM_plainRow fM_kept fM_goalOver fM_goalUnder fM_goalMax fM_different ++ (WQ hQ aQ kQ hw fQ_inside_937 fQ_outside_937 fQ_shut_937 iQ_rows_936 iQ_allRows_936 iQ_columns_936 ++ (WW nW hw lw kw wl_937 wb_937 wG_937)))) H := fz_P ht hB9.1
                                have hD := fz_sd hP (hB9.2.weaken (fun _ q _ h => hFc q.1 h)) rfl
                                refine lv_if_eq (tgt := 154) hx hb dX5_countRows_147 (by decide) (fun c_147 => ?_) (fun c_147 => ?_)
                                · have t_147 : r937.toInt = 0 := toI_eq c_147 rfl (by decide : (0 : Int32).toInt = 0)
                                  refine lv_iconst (v := 0) hx hb dX5_countRows_154 (by decide) ?_
                                  have hl : lv_has _ _ ([(5, .int l5_x109), (4, .int l4_x109), (3, .int l3_x86), (2, .int k0_j305), (1, .int l1_x17), (0, .ref (hO 0))]) := lv_sub hl [0, 1, 2, 3, 4, 5] rfl
                                  exact join366 _ _ _ _ ⟨fO_start_936, fO_column_936, fQ_inside_937, fQ_outside_937, fQ_shut_937, iQ_rows_936, iQ_allRows_936, iQ_columns_936, wl_937, wb_937, wG_937, 0, b_fO_column_936, (b_iQ_rows_936), (b_iQ_allRows_936), (b_iQ_columns_936), b_wl_937, b_wb_937, (by first | with_reducible assumption | omega | assumption), (show 0 ≤ (0 : Int32).toInt ∧ (0 : Int32).toInt ≤ 1 from by decide), rfl, hP, hD, hS, hl⟩
                                · have t_147 : ¬ r937.toInt = 0 := toI_neq c_147 rfl (by decide : (0 : Int32).toInt = 0)
                                  refine lv_iconst (v := 1) hx hb dX5_countRows_150 (by decide) ?_
                                  refine lv_goto (tgt := 155) hx hb dX5_countRows_151 (by decide) ?_
                                  have hl : lv_has _ _ ([(5, .int l5_x109), (4, .int l4_x109), (3, .int l3_x86), (2, .int k0_j305), (1, .int l1_x17), (0, .ref (hO 0))]) := lv_sub hl [0, 1, 2, 3, 4, 5] rfl
                                  exact join366 _ _ _ _ ⟨fO_start_936, fO_column_936, fQ_inside_937, fQ_outside_937, fQ_shut_937, iQ_rows_936, iQ_allRows_936, iQ_columns_936, wl_937, wb_937, wG_937, 1, b_fO_column_936, (b_iQ_rows_936), (b_iQ_allRows_936), (b_iQ_columns_936), b_wl_937, b_wb_937, (by first | with_reducible assumption | omega | assumption), (show 0 ≤ (1 : Int32).toInt ∧ (1 : Int32).toInt ≤ 1 from by decide), rfl, hP, hD, hS, hl⟩
                          · intro H locs ls stk
                            refine fz_e12 ?_
                            intro fO_start_j366 fO_column_j366 fQ_inside_j366 fQ_outside_j366 fQ_shut_j366 iQ_rows_j366 iQ_allRows_j366 iQ_columns_j366 wl_j366 wb_j366 wG_j366 k0_j366
                            refine fz_a13 ?_
                            intro b_fO_column_j366 b_iQ_rows_j366 b_iQ_allRows_j366 b_iQ_columns_j366 b_wl_j366 b_wb_j366 b_tb_j366 b_k0_j366 hst9_8 hP hD hS hl
                            subst hst9_8
                            refine lv_istore hx hb dX5_countRows_155 hl (by decide) rfl (fun ls (hl : lv_has ls _ ([(4, .int k0_j366), (5, .int l5_x109), (3, .int l3_x86), (2, .int k0_j305), (1, .int l1_x17), (0, .ref (hO 0))])) => ?_)
                            refine lv_iinc (v := (iI (l5_x109.toInt + 1))) hx hb dX5_countRows_157 hl (k := 1) rfl (iI_add2 (iI_of _) (by decide : (1 : Int32) = iI 1)) (by decide) rfl (fun ls (hl : lv_has ls _ ([(5, .int (iI (l5_x109.toInt + 1))), (4, .int k0_j366), (3, .int l3_x86), (2, .int k0_j305), (1, .int l1_x17), (0, .ref (hO 0))])) => ?_)
                            refine lv_goto (tgt := 109) hx hb dX5_countRows_160 (by decide) ?_
                            have hl : lv_has _ _ ([(5, .int (iI (l5_x109.toInt + 1))), (4, .int k0_j366), (3, .int l3_x86), (2, .int k0_j305), (1, .int l1_x17), (0, .ref (hO 0))]) := lv_sub hl [0, 1, 2, 3, 4, 5] rfl
                            exact ihx109 fO_start_j366 fO_column_j366 fO_chosen_933 fQ_inside_j366 fQ_outside_j366 fQ_shut_j366 iQ_rows_j366 iQ_allRows_j366 iQ_columns_j366 wl_j366 wb_j366 wG_j366 (iI (l5_x109.toInt + 1)) k0_j366 _ _ _ b_fO_column_j366 b_fO_chosen_933 (b_iQ_rows_j366) (b_iQ_allRows_j366) (b_iQ_columns_j366) b_wl_j366 b_wb_j366 (iI_rng (Int.le_trans (by decide) (Int.add_le_add (b_l5_x109.1) (Int.le_refl _))) (by omega) (by decide) (by decide)) (b_k0_j366) (by first | with_reducible assumption | omega | assumption) (by have e9 : ((iI (l5_x109.toInt + 1))).toInt = (l5_x109.toInt + 1) := (iI_t (Int.le_trans (by decide) (Int.add_le_add (b_l5_x109.1) (Int.le_refl _))) (by omega)); omega) hP hD hS hl
                    · rintro H locs ls stk ⟨rfl, hP, hD, hS, hl⟩
                      refine lv_iload hx hb dX5_countRows_163 (lv_at hl 1 rfl) ?_
                      refine W.cut (pc := 190) (fun H locs ls stk => ∃ (iO_counted_j367 : Int32) (fO_countedCase_j367 : Nat → Int32), ((-1) ≤ iO_counted_j367.toInt ∧ iO_counted_j367.toInt ≤ 64) ∧ (∀ q : Nat, 0 ≤ (fO_countedCase_j367 q).toInt ∧ (fO_countedCase_j367 q).toInt ≤ 200000) ∧ (0 ≤ iO_counted_j367.toInt) ∧  stk = [] ∧ va_P (dC, dI) vwCl (WO hO aO kO hM hQ hw iO_answered iO_searched iO_searchedRelaxed iO_counted_j367 fO_countedCase_j367 gO_goalNumber gO_goalScale fO_start_x109 fO_column_x109 fO_chosen_x109 ++ (WM hM aM kM iM_stands iM_variables iM_rows iM_goals iM_differents iM_cases fM_from fM_to fM_whole fM_ways iM_plainRows fM_plainRow fM_kept fM_goalOver fM_goalUnder fM_goalMax fM_different ++ (WQ hQ aQ kQ hw fQ_inside_x109 fQ_outside_x109 fQ_shut_x109 iQ_rows_x109 iQ_allRows_x109 iQ_columns_x109 ++ (WW nW hw lw kw wl_x109 wb_x109 wG_x109)))) H ∧ va_D A (WO hO aO kO hM hQ hw iO_answered iO_searched iO_searchedRelaxed iO_counted_j367 fO_countedCase_j367 gO_goalNumber gO_goalScale fO_start_x109 fO_column_x109 fO_chosen_x109 ++ (WM hM aM kM iM_stands iM_variables iM_rows iM_goals iM_differents iM_cases fM_from fM_to fM_whole fM_ways iM_plainRows fM_plainRow fM_kept fM_goalOver fM_goalUnder fM_goalMax fM_different ++ (WQ hQ aQ kQ hw fQ_inside_x109 fQ_outside_x109 fQ_shut_x109 iQ_rows_x109 iQ_allRows_x109 iQ_columns_x109 ++ (WW nW hw lw kw wl_x109 wb_x109 wG_x109)))) ∧ va_S A s.heap H locs ∧ lv_has ls 6 [(5, .int l5_x109), (4, .int l4_x109), (3, .int l3_x86), (2, .int k0_j305), (1, .int l1_x17), (0, .ref (hO 0))]) (fun join367 => ?_) ?_
                      · refine lv_if_eq (tgt := 190) hx hb dX5_countRows_165 (by decide) (fun c_165 => ?_) (fun c_165 => ?_)
                        · have t_165 : l4_x109.toInt = 0 := toI_eq c_165 rfl (by decide : (0 : Int32).toInt = 0)
                          have hl : lv_has _ _ ([(5, .int l5_x109), (4, .int l4_x109), (3, .int l3_x86), (2, .int k0_j305), (1, .int l1_x17), (0, .ref (hO 0))]) := lv_sub hl [0, 1, 2, 3, 4, 5] rfl
                          exact join367 _ _ _ _ ⟨iO_counted_x86, fO_countedCase_x86, (b_iO_counted_x86), b_fO_countedCase_x86, (show 0 ≤ iO_counted_x86.toInt from by (try rw [iI_t (by omega) (by omega)]); omega), rfl, hP, hD, hS, hl⟩
                        · have t_165 : ¬ l4_x109.toInt = 0 := toI_neq c_165 rfl (by decide : (0 : Int32).toInt = 0)
                          refine lv_aload_n hx hb dX5_countRows_168 rfl (lv_at hl 5 rfl) ?_
                          refine va_get (D := (dC, dI)) (ci := 5) (v := .ref (aO 0)) (C := RX5) (T := TX5) (N := 19) hx hb hts iwsMX5_countRows_in5 hown hK hP 0 rfl rfl 6 (by decide) (hts _ hm_m_X5_countRows_2) (fun _ h9 => h9) rfl dX5_countRows_169 ?_
                          refine lv_aload_n hx hb dX5_countRows_172 rfl (lv_at hl 5 rfl) ?_
                          refine va_get (D := (dC, dI)) (ci := 5) (v := .int iO_counted_x86) (C := RX5) (T := TX5) (N := 19) hx hb hts iwsMX5_countRows_in5 hown hK hP 0 rfl rfl 5 (by decide) (hts _ hm_m_X5_countRows_0) (fun _ h9 => h9) rfl dX5_countRows_173 ?_
                          refine lv_iload_n hx hb dX5_countRows_176 rfl (lv_at hl 2 rfl) ?_
                          refine lv_iload_n hx hb dX5_countRows_177 rfl (lv_at hl 3 rfl) ?_
                          refine lv_imul hx hb dX5_countRows_178 ?_
                          refine lv_topi (fun y941 hy941 => ?_)
                          obtain rfl : (iI (l3_x86.toInt * k0_j305.toInt)) = y941 := (hy941.trans (iI_mul2 (iI_of _) (iI_of _))).symm
                          refine va_iast (cA := kO 0) (n := 64) (f := fO_countedCase_x86) hx hb hK hP hD hS 1 0 rfl rfl (vp_in_iff.mpr ⟨(by omega), (by omega)⟩) dX5_countRows_179 (fun H locs hP hD hS => ?_)
                          obtain ⟨u942, hu942⟩ : ∃ f9, f9 = upd fO_countedCase_x86 (iO_counted_x86).toNatClampNeg (iI (l3_x86.toInt * k0_j305.toInt)) := ⟨_, rfl⟩
                          have hP : va_P (dC, dI) vwCl (WO hO aO kO hM hQ hw iO_answered iO_searched iO_searchedRelaxed iO_counted_x86 u942 gO_goalNumber gO_goalScale fO_start_x109 fO_column_x109 fO_chosen_x109 ++ (WM hM aM kM iM_stands iM_variables iM_rows iM_goals iM_differents iM_cases fM_from fM_to fM_whole fM_ways iM_plainRows fM_plainRow fM_kept fM_goalOver fM_goalUnder fM_goalMax fM_different ++ (WQ hQ aQ kQ hw fQ_inside_x109 fQ_outside_x109 fQ_shut_x109 iQ_rows_x109 iQ_allRows_x109 iQ_columns_x109 ++ (WW nW hw lw kw wl_x109 wb_x109 wG_x109)))) H := by rw [hu942]; exact hP
                          have hD : va_D A (WO hO aO kO hM hQ hw iO_answered iO_searched iO_searchedRelaxed iO_counted_x86 u942 gO_goalNumber gO_goalScale fO_start_x109 fO_column_x109 fO_chosen_x109 ++ (WM hM aM kM iM_stands iM_variables iM_rows iM_goals iM_differents iM_cases fM_from fM_to fM_whole fM_ways iM_plainRows fM_plainRow fM_kept fM_goalOver fM_goalUnder fM_goalMax fM_different ++ (WQ hQ aQ kQ hw fQ_inside_x109 fQ_outside_x109 fQ_shut_x109 iQ_rows_x109 iQ_allRows_x109 iQ_columns_x109 ++ (WW nW hw lw kw wl_x109 wb_x109 wG_x109)))) := by rw [hu942]; exact hD
                          have b_u942 : ∀ q : Nat, 0 ≤ (u942 q).toInt ∧ (u942 q).toInt ≤ 200000 := by rw [hu942]; exact upd_r b_fO_countedCase_x86 (by have h9 := cnt_ix0 (i := l3_x86.toInt) (w := l1_x17.toInt) (c := k0_j305.toInt) hcb (by omega) (by omega); rw [iI_t (by omega) (by omega)]; exact h9)
                          clear hu942
                          refine lv_aload_n hx hb dX5_countRows_180 rfl (lv_at hl 5 rfl) ?_
                          refine lv_dup hx hb dX5_countRows_181 rfl ?_
                          refine va_get (D := (dC, dI)) (ci := 5) (v := .int iO_counted_x86) (C := RX5) (T := TX5) (N := 19) hx hb hts iwsMX5_countRows_in5 hown hK hP 0 rfl rfl 5 (by decide) (hts _ hm_m_X5_countRows_0) (fun _ h9 => h9) rfl dX5_countRows_182 ?_
                          refine lv_iconst (v := 1) hx hb dX5_countRows_185 (by decide) ?_
                          refine lv_iadd hx hb dX5_countRows_186 ?_
                          refine lv_topi (fun y943 hy943 => ?_)
                          obtain rfl : (iI (iO_counted_x86.toInt + 1)) = y943 := (hy943.trans (iI_add2 (iI_of _) (by decide : (1 : Int32) = iI 1))).symm
                          refine va_put (D := (dC, dI)) (ci := 5) (v := .int (iI (iO_counted_x86.toInt + 1))) (ty := .int) (C := RX5) (T := TX5) (N := 19) hx hb hts iwsMX5_countRows_in5 tyX5 tyX5_ok nmX5 hown hK hP hD hS 0 rfl rfl 5 (by decide) (hts _ hm_m_X5_countRows_0) (fun _ h9 => h9) rfl (by decide +kernel) rfl rfl (Nat.le_of_ble_eq_true rfl) dX5_countRows_187 (fun H locs hP hD hS => ?_)
                          have hP : va_P (dC, dI) vwCl (WO hO aO kO hM hQ hw iO_answered iO_searched iO_searchedRelaxed (iI (iO_counted_x86.toInt + 1)) u942 gO_goalNumber gO_goalScale fO_start_x109 fO_column_x109 fO_chosen_x109 ++ (WM hM aM kM iM_stands iM_variables iM_rows iM_goals iM_differents iM_cases fM_from fM_to fM_whole fM_ways iM_plainRows fM_plainRow fM_kept fM_goalOver fM_goalUnder fM_goalMax fM_different ++ (WQ hQ aQ kQ hw fQ_inside_x109 fQ_outside_x109 fQ_shut_x109 iQ_rows_x109 iQ_allRows_x109 iQ_columns_x109 ++ (WW nW hw lw kw wl_x109 wb_x109 wG_x109)))) H := hP
                          have hD := fz_sd hP (hD) rfl
                          have hl : lv_has _ _ ([(5, .int l5_x109), (4, .int l4_x109), (3, .int l3_x86), (2, .int k0_j305), (1, .int l1_x17), (0, .ref (hO 0))]) := lv_sub hl [0, 1, 2, 3, 4, 5] rfl
                          exact join367 _ _ _ _ ⟨(iI (iO_counted_x86.toInt + 1)), u942, (iI_rng (Int.le_trans (by decide) (Int.add_le_add (b_iO_counted_x86.1) (Int.le_refl _))) (by omega) (by decide) (by decide)), b_u942, (show 0 ≤ (iI (iO_counted_x86.toInt + 1)).toInt from by (try rw [iI_t (by omega) (by omega)]); omega), rfl, hP, hD, hS, hl⟩
                      · intro H locs ls stk
                        refine fz_e2 ?_
                        intro iO_counted_j367 fO_countedCase_j367
                        refine fz_a8 ?_
                        intro b_iO_counted_j367 b_fO_countedCase_j367 hc1 hst9_3 hP hD hS hl
                        subst hst9_3
                        refine lv_iinc (v := (iI (l3_x86.toInt + 1))) hx hb dX5_countRows_190 hl (k := 2) rfl (iI_add2 (iI_of _) (by decide : (1 : Int32) = iI 1)) (by decide) rfl (fun ls (hl : lv_has ls _ ([(3, .int (iI (l3_x86.toInt + 1))), (5, .int l5_x109), (4, .int l4_x109), (2, .int k0_j305), (1, .int l1_x17), (0, .ref (hO 0))])) => ?_)
                        refine lv_goto (tgt := 86) hx hb dX5_countRows_193 (by decide) ?_
                        have hl : lv_has _ _ ([(3, .int (iI (l3_x86.toInt + 1))), (2, .int k0_j305), (1, .int l1_x17), (0, .ref (hO 0))]) := lv_sub hl [0, 3, 4, 5] rfl
                        exact ihx86 iO_counted_j367 fO_countedCase_j367 fO_start_x109 fO_column_x109 fO_chosen_x109 fQ_inside_x109 fQ_outside_x109 fQ_shut_x109 iQ_rows_x109 iQ_allRows_x109 iQ_columns_x109 wl_x109 wb_x109 wG_x109 (iI (l3_x86.toInt + 1)) _ _ _ (b_iO_counted_j367) b_fO_countedCase_j367 b_fO_column_x109 b_fO_chosen_x109 (b_iQ_rows_x109) (b_iQ_allRows_x109) (b_iQ_columns_x109) b_wl_x109 b_wb_x109 (iI_rng (Int.le_trans (by decide) (Int.add_le_add (b_l3_x86.1) (Int.le_refl _))) (by omega) (by decide) (by decide)) (by first | with_reducible assumption | omega | assumption) (show 0 ≤ iO_counted_j367.toInt from by (try rw [iI_t (by omega) (by omega)]); omega) (by have e9 : ((iI (l3_x86.toInt + 1))).toInt = (l3_x86.toInt + 1) := (iI_t (Int.le_trans (by decide) (Int.add_le_add (b_l3_x86.1) (Int.le_refl _))) (by omega)); omega) hP hD hS hl
            · rintro H locs ls stk ⟨rfl, hP, hD, hS, hl⟩
              refine lv_aload_n hx hb dX5_countRows_196 rfl (lv_at hl 3 rfl) ?_
              refine va_get (D := (dC, dI)) (ci := 5) (v := .int iO_counted_x86) (C := RX5) (T := TX5) (N := 19) hx hb hts iwsMX5_countRows_in5 hown hK hP 0 rfl rfl 5 (by decide) (hts _ hm_m_X5_countRows_0) (fun _ h9 => h9) rfl dX5_countRows_197 ?_
              refine W.widen (k := 0) (n := 0) (by decide +kernel) (by decide +kernel) ?_
              exact W.iret (v := iO_counted_x86) hx hb hr (fun t9_ ht hW => ⟨⟨iO_counted_x86, (iO_counted_x86, fO_countedCase_x86, fO_start_x86, fO_column_x86, fO_chosen_x86, fQ_inside_x86, fQ_outside_x86, fQ_shut_x86, iQ_rows_x86, iQ_allRows_x86, iQ_columns_x86, wl_x86, wb_x86, wG_x86), rfl, ⟨b_iO_counted_x86, b_fO_countedCase_x86, b_fO_column_x86, b_fO_chosen_x86, b_iQ_rows_x86, b_iQ_allRows_x86, b_iQ_columns_x86, b_wl_x86, b_wb_x86, (by (try dsimp only); exact (by first | with_reducible assumption | omega | assumption)), (b_iO_counted_x86)⟩, by rw [ht]; exact hP, hD⟩, hS.F ht⟩) hS.2.2 dX5_countRows_200
      · have t_25 : ¬ l2_x17.toInt ≥ iM_variables.toInt := toI_nge c_25 rfl rfl
        refine lv_iload_n hx hb dX5_countRows_28 rfl (lv_at hl 1 rfl) ?_
        refine lv_aload_n hx hb dX5_countRows_29 rfl (lv_at hl 2 rfl) ?_
        refine va_get (D := (dC, dI)) (ci := 5) (v := .ref (hM 0)) (C := RX5) (T := TX5) (N := 19) hx hb hts iwsMX5_countRows_in5 hown hK hP 0 rfl rfl 0 (by decide) (hts _ hm_m_X5_countRows_1) (fun _ h9 => h9) rfl dX5_countRows_30 ?_
        refine va_get (D := (dC, dI)) (ci := 1) (v := .ref (aM 2)) (C := RX1) (T := TX1) (N := 17) hx hb hts iwsMX5_countRows_in1 hown hK hP 11 rfl rfl 8 (by decide) (hts (.fieldLink RX5 143 "OptimaWorks$Model" "whole" "[Z") (by decide +kernel)) (fun _ h9 => h9) rfl dX5_countRows_33 ?_
        refine lv_iload_n hx hb dX5_countRows_36 rfl (lv_at hl 0 rfl) ?_
        refine va_zald (cA := kM 2) (n := 8) (f := fM_whole) hx hb hK hP 14 12 rfl rfl (vp_in_iff.mpr ⟨b_l2_x17.1, (Int.lt_of_lt_of_le (Int.not_le.mp t_25) (Int.le_trans b_iM_variables.2 (by decide)))⟩) dX5_countRows_37 ?_
        refine lv_topi (fun v944 hv944 => ?_)
        clear hv944
        refine W.cut (pc := 53) (fun H locs ls stk => ∃ (k0_j368 : Int32),  stk = [.int k0_j368, .int l1_x17] ∧ va_P (dC, dI) vwCl (WO hO aO kO hM hQ hw iO_answered iO_searched iO_searchedRelaxed iO_counted fO_countedCase gO_goalNumber gO_goalScale fO_start fO_column fO_chosen ++ (WM hM aM kM iM_stands iM_variables iM_rows iM_goals iM_differents iM_cases fM_from fM_to fM_whole fM_ways iM_plainRows fM_plainRow fM_kept fM_goalOver fM_goalUnder fM_goalMax fM_different ++ (WQ hQ aQ kQ hw fQ_inside fQ_outside fQ_shut iQ_rows iQ_allRows iQ_columns ++ (WW nW hw lw kw wl wb wG)))) H ∧ va_D A (WO hO aO kO hM hQ hw iO_answered iO_searched iO_searchedRelaxed iO_counted fO_countedCase gO_goalNumber gO_goalScale fO_start fO_column fO_chosen ++ (WM hM aM kM iM_stands iM_variables iM_rows iM_goals iM_differents iM_cases fM_from fM_to fM_whole fM_ways iM_plainRows fM_plainRow fM_kept fM_goalOver fM_goalUnder fM_goalMax fM_different ++ (WQ hQ aQ kQ hw fQ_inside fQ_outside fQ_shut iQ_rows iQ_allRows iQ_columns ++ (WW nW hw lw kw wl wb wG)))) ∧ va_S A s.heap H locs ∧ lv_has ls 6 [(2, .int l2_x17), (1, .int l1_x17), (0, .ref (hO 0))]) (fun join368 => ?_) ?_
        · refine lv_if_eq (tgt := 52) hx hb dX5_countRows_38 (by decide) (fun c_38 => ?_) (fun c_38 => ?_)
          · have t_38 : v944.toInt = 0 := toI_eq c_38 rfl (by decide : (0 : Int32).toInt = 0)
            refine lv_iconst (v := 1) hx hb dX5_countRows_52 (by decide) ?_
            have hl : lv_has _ _ ([(2, .int l2_x17), (1, .int l1_x17), (0, .ref (hO 0))]) := lv_sub hl [0, 1, 2] rfl
            exact join368 _ _ _ _ ⟨1, rfl, hP, hD, hS, hl⟩
          · have t_38 : ¬ v944.toInt = 0 := toI_neq c_38 rfl (by decide : (0 : Int32).toInt = 0)
            refine lv_aload_n hx hb dX5_countRows_41 rfl (lv_at hl 2 rfl) ?_
            refine va_get (D := (dC, dI)) (ci := 5) (v := .ref (hM 0)) (C := RX5) (T := TX5) (N := 19) hx hb hts iwsMX5_countRows_in5 hown hK hP 0 rfl rfl 0 (by decide) (hts _ hm_m_X5_countRows_1) (fun _ h9 => h9) rfl dX5_countRows_42 ?_
            refine lv_iload_n hx hb dX5_countRows_45 rfl (lv_at hl 0 rfl) ?_
            have p9 := cj_4_1 (WO hO aO kO hM hQ hw iO_answered iO_searched iO_searchedRelaxed iO_counted fO_countedCase gO_goalNumber gO_goalScale fO_start fO_column fO_chosen) (WM hM aM kM iM_stands iM_variables iM_rows iM_goals iM_differents iM_cases fM_from fM_to fM_whole fM_ways iM_plainRows fM_plainRow fM_kept fM_goalOver fM_goalUnder fM_goalMax fM_different) (WQ hQ aQ kQ hw fQ_inside fQ_outside fQ_shut iQ_rows iQ_allRows iQ_columns) (WW nW hw lw kw wl wb wG)
            have hPc := hP.mem (fun q h => p9.mem_iff.mpr (List.mem_append_left _ h))
            have hDc := (hD.perm p9).left
            have hKc : va_K (dC, dI) vwCl (tM kM) _ := hK.sub [10, 11, 12, 13, 14, 15, 16, 17, 18, 19] rfl
            have hFc := freeG p9 hD hS hA
            refine va_calli (va_runV (As := [.int l2_x17]) (rest := [.int l1_x17]) ⟨hx, hb, hml, hown, hts⟩ (m_X1_range l dC dI hM aM kM iM_stands iM_variables iM_rows iM_goals iM_differents iM_cases fM_from fM_to fM_whole fM_ways iM_plainRows fM_plainRow fM_kept fM_goalOver fM_goalUnder fM_goalMax fM_different l2_x17 (b_iM_stands) (b_iM_variables) (b_iM_rows) (b_iM_goals) (b_iM_differents) (b_iM_cases) b_fM_ways (b_iM_plainRows) b_fM_plainRow (by first | with_reducible assumption | omega | assumption) (by first | exact b_l2_x17 | with_reducible assumption | exact ⟨by omega, by omega⟩ | assumption) H.size) (cwV 1 hts gwsMX5_countRows_0 rfl rfl rfl hd_yX1_range_RX1 (by decide +kernel)) (fz_pre (va_recv hK hP (ci := 1) (q0 := 11) rfl rfl) hPc hKc hDc) rfl rfl hl.1 rfl (lv_room (Nat.le_of_ble_eq_true rfl)) dX5_countRows_46 (by decide +kernel)) hS (fun q _ h => hFc q h) hFc (fun r946 u t9_ H locs ht hvm hw9 hB9 hz1 hk1 hS => ?_)
            clear hw9
            have p8 := p9
            obtain ⟨hP, hD⟩ := frameG p9 p8 hP hD hk1 hFc (fz_P ht hB9.1) hB9.2
            refine lv_goto (tgt := 53) hx hb dX5_countRows_49 (by decide) ?_
            have hl : lv_has _ _ ([(2, .int l2_x17), (1, .int l1_x17), (0, .ref (hO 0))]) := lv_sub hl [0, 1, 2] rfl
            exact join368 _ _ _ _ ⟨r946, rfl, hP, hD, hS, hl⟩
        · rintro H locs ls stk ⟨k0_j368, rfl, hP, hD, hS, hl⟩
          refine lv_imul hx hb dX5_countRows_53 ?_
          refine lv_topi (fun y947 hy947 => ?_)
          obtain rfl : (iI (l1_x17.toInt * k0_j368.toInt)) = y947 := (hy947.trans (iI_mul2 (iI_of _) (iI_of _))).symm
          refine lv_istore_n hx hb dX5_countRows_54 rfl hl (by decide) rfl (fun ls (hl : lv_has ls _ ([(1, .int (iI (l1_x17.toInt * k0_j368.toInt))), (2, .int l2_x17), (0, .ref (hO 0))])) => ?_)
          refine lv_iinc (v := (iI (l2_x17.toInt + 1))) hx hb dX5_countRows_55 hl (k := 1) rfl (iI_add2 (iI_of _) (by decide : (1 : Int32) = iI 1)) (by decide) rfl (fun ls (hl : lv_has ls _ ([(2, .int (iI (l2_x17.toInt + 1))), (1, .int (iI (l1_x17.toInt * k0_j368.toInt))), (0, .ref (hO 0))])) => ?_)
          refine lv_goto (tgt := 17) hx hb dX5_countRows_58 (by decide) ?_
          have hl : lv_has _ _ ([(2, .int (iI (l2_x17.toInt + 1))), (1, .int (iI (l1_x17.toInt * k0_j368.toInt))), (0, .ref (hO 0))]) := lv_sub hl [0, 1, 2] rfl
          exact ihx17 (iI (l2_x17.toInt + 1)) (iI (l1_x17.toInt * k0_j368.toInt)) _ _ _ (iI_rng (Int.le_trans (by decide) (Int.add_le_add (b_l2_x17.1) (Int.le_refl _))) (by omega) (by decide) (by decide)) (by have e9 : ((iI (l2_x17.toInt + 1))).toInt = (l2_x17.toInt + 1) := (iI_t (Int.le_trans (by decide) (Int.add_le_add (b_l2_x17.1) (Int.le_refl _))) (Int.le_trans (Int.add_le_add (b_l2_x17.2) (Int.le_refl _)) (by decide))); omega) hP hD hS hl
  · have t_5 : ¬ iO_counted.toInt = (-1) := toI_neq c_5 rfl (by decide : ((-1) : Int32).toInt = (-1))
    refine lv_aload_n hx hb dX5_countRows_8 rfl (lv_at hl 0 rfl) ?_
    refine va_get (D := (dC, dI)) (ci := 5) (v := .int iO_counted) (C := RX5) (T := TX5) (N := 19) hx hb hts iwsMX5_countRows_in5 hown hK hP 0 rfl rfl 5 (by decide) (hts _ hm_m_X5_countRows_0) (fun _ h9 => h9) rfl dX5_countRows_9 ?_
    refine W.widen (k := 0) (n := 0) (by decide +kernel) (by decide +kernel) ?_
    exact W.iret (v := iO_counted) hx hb hr (fun t9_ ht hW => ⟨⟨iO_counted, (iO_counted, fO_countedCase, fO_start, fO_column, fO_chosen, fQ_inside, fQ_outside, fQ_shut, iQ_rows, iQ_allRows, iQ_columns, wl, wb, wG), rfl, ⟨b_iO_counted, b_fO_countedCase, b_fO_column, b_fO_chosen, b_iQ_rows, b_iQ_allRows, b_iQ_columns, b_wl, b_wb, (by (try dsimp only); exact (by first | with_reducible assumption | omega | assumption)), (b_iO_counted)⟩, by rw [ht]; exact hP, hD⟩, hS.F ht⟩) hS.2.2 dX5_countRows_12
theorem dX5_countedNumber_0 : decode cX5_countedNumber 0 = .ok (.aload_n 0, 1) := dk_42 (by decide +kernel)
theorem dX5_countedNumber_1 : decode cX5_countedNumber 1 = .ok (.aload_n 0, 1) := dk_42 (by decide +kernel)
theorem dX5_countedNumber_2 : decode cX5_countedNumber 2 = .ok (.getfield 24, 3) := dk_180 (by decide +kernel)
theorem dX5_countedNumber_5 : decode cX5_countedNumber 5 = .ok (.iload_n 1, 1) := dk_27 (by decide +kernel)
theorem dX5_countedNumber_6 : decode cX5_countedNumber 6 = .ok (.iaload, 1) := dk_46 (by decide +kernel)
theorem dX5_countedNumber_7 : decode cX5_countedNumber 7 = .ok (.invokevirtual 94, 3) := dk_182 (by decide +kernel)
theorem dX5_countedNumber_10 : decode cX5_countedNumber 10 = .ok (.pop, 1) := dk_87 (by decide +kernel)
theorem dX5_countedNumber_11 : decode cX5_countedNumber 11 = .ok (.aload_n 0, 1) := dk_42 (by decide +kernel)
theorem dX5_countedNumber_12 : decode cX5_countedNumber 12 = .ok (.getfield 35, 3) := dk_180 (by decide +kernel)
theorem dX5_countedNumber_15 : decode cX5_countedNumber 15 = .ok (.iload_n 2, 1) := dk_28 (by decide +kernel)
theorem dX5_countedNumber_16 : decode cX5_countedNumber 16 = .ok (.iaload, 1) := dk_46 (by decide +kernel)
theorem dX5_countedNumber_17 : decode cX5_countedNumber 17 = .ok (.ireturn, 1) := dk_172 (by decide +kernel)
def wsMX5_countedNumber : List Cond := .code yX5_countedNumber cX5_countedNumber 3 (some .int) :: ([.fieldLink RX5 24 "OptimaWorks$Solver" "countedCase" "[I", .fieldLink RX5 35 "OptimaWorks$Solver" "start" "[I"] ++ wsX50 ++ (wsV RX5 94 RX5 yX5_choose wsMX5_choose))
theorem iwsMX5_countedNumber_in5 : ∀ w ∈ wsX50, w ∈ wsMX5_countedNumber := fun _ h => List.mem_cons_of_mem _ (List.mem_append_left _ (List.mem_append_right _ h))
theorem gwsMX5_countedNumber_0 : GoodIn wsMX5_countedNumber (wsV RX5 94 RX5 yX5_choose wsMX5_choose) := goodIn_sub (fun _ h => List.mem_cons_of_mem _ (List.mem_append_right _ h)) (gdV (by decide +kernel) gdwsMX5_choose)
theorem gdwsMX5_countedNumber : wsMX5_countedNumber.all goodWord = true := gdC rfl (gdA (gdA (by decide +kernel : ([.fieldLink RX5 24 "OptimaWorks$Solver" "countedCase" "[I", .fieldLink RX5 35 "OptimaWorks$Solver" "start" "[I"] : List Cond).all goodWord = true) gdwsX50) (gdV (by decide +kernel) gdwsMX5_choose))
set_option maxHeartbeats 4000000 in
set_option maxRecDepth 100000 in
/-- a number of a counted row -/
theorem m_X5_countedNumber (l : Launch) (dC : Nat → ClassId) (dI : Nat → Nat → Nat) (hO : Nat → Nat) (aO : Nat → Nat) (kO : Nat → ClassId) (hM : Nat → Nat) (hQ : Nat → Nat) (hw : Nat → Nat) (iO_answered : Int32) (iO_searched : Int32) (iO_searchedRelaxed : Int32) (iO_counted : Int32) (fO_countedCase : Nat → Int32) (gO_goalNumber : Nat → Int64) (gO_goalScale : Nat → Int64) (fO_start : Nat → Int32) (fO_column : Nat → Int32) (fO_chosen : Nat → Int32) (aM : Nat → Nat) (kM : Nat → ClassId) (iM_stands : Int32) (iM_variables : Int32) (iM_rows : Int32) (iM_goals : Int32) (iM_differents : Int32) (iM_cases : Int32) (fM_from : Nat → Int32) (fM_to : Nat → Int32) (fM_whole : Nat → Int32) (fM_ways : Nat → Int32) (iM_plainRows : Int32) (fM_plainRow : Nat → Int32) (fM_kept : Nat → Int32) (fM_goalOver : Nat → Int32) (fM_goalUnder : Nat → Int32) (fM_goalMax : Nat → Int32) (fM_different : Nat → Int32) (aQ : Nat → Nat) (kQ : Nat → ClassId) (fQ_inside : Nat → Int32) (fQ_outside : Nat → Int32) (fQ_shut : Nat → Int32) (iQ_rows : Int32) (iQ_allRows : Int32) (iQ_columns : Int32) (nW : Nat) (lw : Nat → Nat) (kw : ClassId) (wl : Nat → Int32) (wb : Nat → Int32) (wG : Nat → Nat → Int64) (p1 : Int32) (p2 : Int32) (b_iO_answered : 0 ≤ iO_answered.toInt ∧ iO_answered.toInt ≤ 1) (b_iO_searched : 0 ≤ iO_searched.toInt ∧ iO_searched.toInt ≤ 1) (b_iO_searchedRelaxed : 0 ≤ iO_searchedRelaxed.toInt ∧ iO_searchedRelaxed.toInt ≤ 1) (b_iO_counted : (-1) ≤ iO_counted.toInt ∧ iO_counted.toInt ≤ 64) (b_fO_countedCase : ∀ q : Nat, 0 ≤ (fO_countedCase q).toInt ∧ (fO_countedCase q).toInt ≤ 200000) (b_fO_column : ∀ q : Nat, (-1) ≤ (fO_column q).toInt ∧ (fO_column q).toInt ≤ 8) (b_fO_chosen : ∀ q : Nat, 0 ≤ (fO_chosen q).toInt ∧ (fO_chosen q).toInt ≤ 2) (b_iM_stands : 0 ≤ iM_stands.toInt ∧ iM_stands.toInt ≤ 1) (b_iM_variables : 0 ≤ iM_variables.toInt ∧ iM_variables.toInt ≤ 8) (b_iM_rows : 0 ≤ iM_rows.toInt ∧ iM_rows.toInt ≤ 12) (b_iM_goals : 0 ≤ iM_goals.toInt ∧ iM_goals.toInt ≤ 3) (b_iM_differents : 0 ≤ iM_differents.toInt ∧ iM_differents.toInt ≤ 8) (b_iM_cases : 0 ≤ iM_cases.toInt ∧ iM_cases.toInt ≤ 200000) (b_fM_ways : ∀ q : Nat, 0 ≤ (fM_ways q).toInt ∧ (fM_ways q).toInt ≤ 3) (b_iM_plainRows : 0 ≤ iM_plainRows.toInt ∧ iM_plainRows.toInt ≤ 12) (b_fM_plainRow : ∀ q : Nat, 0 ≤ (fM_plainRow q).toInt ∧ (fM_plainRow q).toInt ≤ 11) (b_pr : iM_plainRows.toInt ≤ iM_rows.toInt) (b_iQ_rows : 0 ≤ iQ_rows.toInt ∧ iQ_rows.toInt ≤ 40) (b_iQ_allRows : 0 ≤ iQ_allRows.toInt ∧ iQ_allRows.toInt ≤ 40) (b_iQ_columns : 0 ≤ iQ_columns.toInt ∧ iQ_columns.toInt ≤ 40) (b_tb : TbO iQ_rows iQ_allRows iQ_columns) (b_wl : ∀ q : Nat, 0 ≤ (wl q).toInt ∧ (wl q).toInt ≤ 14) (b_wb : ∀ q : Nat, 0 ≤ (wb q).toInt ∧ (wb q).toInt ≤ 1) (b_p1 : 0 ≤ p1.toInt ∧ p1.toInt ≤ 63) (b_p2 : 0 ≤ p2.toInt ∧ p2.toInt ≤ 7) (hnW : 432 ≤ nW) (sz : Nat) : Met l yX5_countedNumber wsMX5_countedNumber ({ frames := 3, cells := 0, slots := 0, locals := 68 }) (va_Pc [.ref (hO 0), .int p1, .int p2] (fun U => U.heap.size = sz ∧ va_P (dC, dI) vwCl (WO hO aO kO hM hQ hw iO_answered iO_searched iO_searchedRelaxed iO_counted fO_countedCase gO_goalNumber gO_goalScale fO_start fO_column fO_chosen ++ (WM hM aM kM iM_stands iM_variables iM_rows iM_goals iM_differents iM_cases fM_from fM_to fM_whole fM_ways iM_plainRows fM_plainRow fM_kept fM_goalOver fM_goalUnder fM_goalMax fM_different ++ (WQ hQ aQ kQ hw fQ_inside fQ_outside fQ_shut iQ_rows iQ_allRows iQ_columns ++ (WW nW hw lw kw wl wb wG)))) U.heap ∧ va_K (dC, dI) vwCl (tO kO ++ (tM kM ++ (tQ kQ ++ (tW kw)))) U ∧ va_D (fun _ => True) (WO hO aO kO hM hQ hw iO_answered iO_searched iO_searchedRelaxed iO_counted fO_countedCase gO_goalNumber gO_goalScale fO_start fO_column fO_chosen ++ (WM hM aM kM iM_stands iM_variables iM_rows iM_goals iM_differents iM_cases fM_from fM_to fM_whole fM_ways iM_plainRows fM_plainRow fM_kept fM_goalOver fM_goalUnder fM_goalMax fM_different ++ (WQ hQ aQ kQ hw fQ_inside fQ_outside fQ_shut iQ_rows iQ_allRows iQ_columns ++ (WW nW hw lw kw wl wb wG)))))) (va_Qi (fun (r : Int32) (u : (Nat → Int32) × (Nat → Int32)) => (∀ q : Nat, 0 ≤ ((u.2) q).toInt ∧ ((u.2) q).toInt ≤ 2)) (fun (u : (Nat → Int32) × (Nat → Int32)) t => va_P (dC, dI) vwCl (WO hO aO kO hM hQ hw iO_answered iO_searched iO_searchedRelaxed iO_counted fO_countedCase gO_goalNumber gO_goalScale (u.1) fO_column (u.2) ++ (WM hM aM kM iM_stands iM_variables iM_rows iM_goals iM_differents iM_cases fM_from fM_to fM_whole fM_ways iM_plainRows fM_plainRow fM_kept fM_goalOver fM_goalUnder fM_goalMax fM_different ++ (WQ hQ aQ kQ hw fQ_inside fQ_outside fQ_shut iQ_rows iQ_allRows iQ_columns ++ (WW nW hw lw kw wl wb wG)))) t.heap ∧ va_D (va_A (WO hO aO kO hM hQ hw iO_answered iO_searched iO_searchedRelaxed iO_counted fO_countedCase gO_goalNumber gO_goalScale fO_start fO_column fO_chosen ++ (WM hM aM kM iM_stands iM_variables iM_rows iM_goals iM_differents iM_cases fM_from fM_to fM_whole fM_ways iM_plainRows fM_plainRow fM_kept fM_goalOver fM_goalUnder fM_goalMax fM_different ++ (WQ hQ aQ kQ hw fQ_inside fQ_outside fQ_shut iQ_rows iQ_allRows iQ_columns ++ (WW nW hw lw kw wl wb wG)))) sz) (WO hO aO kO hM hQ hw iO_answered iO_searched iO_searchedRelaxed iO_counted fO_countedCase gO_goalNumber gO_goalScale (u.1) fO_column (u.2) ++ (WM hM aM kM iM_stands iM_variables iM_rows iM_goals iM_differents iM_cases fM_from fM_to fM_whole fM_ways iM_plainRows fM_plainRow fM_kept fM_goalOver fM_goalUnder fM_goalMax fM_different ++ (WQ hQ aQ kQ hw fQ_inside fQ_outside fQ_shut iQ_rows iQ_allRows iQ_columns ++ (WW nW hw lw kw wl wb wG))))) (va_A (WO hO aO kO hM hQ hw iO_answered iO_searched iO_searchedRelaxed iO_counted fO_countedCase gO_goalNumber gO_goalScale fO_start fO_column fO_chosen ++ (WM hM aM kM iM_stands iM_variables iM_rows iM_goals iM_differents iM_cases fM_from fM_to fM_whole fM_ways iM_plainRows fM_plainRow fM_kept fM_goalOver fM_goalUnder fM_goalMax fM_different ++ (WQ hQ aQ kQ hw fQ_inside fQ_outside fQ_shut iQ_rows iQ_allRows iQ_columns ++ (WW nW hw lw kw wl wb wG)))) sz)) 0 0 (va_A (WO hO aO kO hM hQ hw iO_answered iO_searched iO_searchedRelaxed iO_counted fO_countedCase gO_goalNumber gO_goalScale fO_start fO_column fO_chosen ++ (WM hM aM kM iM_stands iM_variables iM_rows iM_goals iM_differents iM_cases fM_from fM_to fM_whole fM_ways iM_plainRows fM_plainRow fM_kept fM_goalOver fM_goalUnder fM_goalMax fM_different ++ (WQ hQ aQ kQ hw fQ_inside fQ_outside fQ_shut iQ_rows iQ_allRows iQ_columns ++ (WW nW hw lw kw wl wb wG)))) sz) := by
  refine Met.ofW (cc := cX5_countedNumber) (maxL := 3) (ret := (some .int)) (by decide) rfl ?_
  intro p e s m args below meth c s₁ B hml hv
  obtain ⟨rfl, hsz, hP, hK, hD0⟩ := hv
  have hx := B.exec
  have hb := B.bytes
  have hr := B.returns
  have hts := atoms_spec (ws := wsMX5_countedNumber) B.pre
  have hown : s.vm.findClass RX5 = some m.cls := findClass_of_methodNamed B.named
  have hlocks := B.notSynchronized
  subst hsz
  have hD := hD0.self (sz := s.heap.size)
  generalize hAe : va_A (WO hO aO kO hM hQ hw iO_answered iO_searched iO_searchedRelaxed iO_counted fO_countedCase gO_goalNumber gO_goalScale fO_start fO_column fO_chosen ++ (WM hM aM kM iM_stands iM_variables iM_rows iM_goals iM_differents iM_cases fM_from fM_to fM_whole fM_ways iM_plainRows fM_plainRow fM_kept fM_goalOver fM_goalUnder fM_goalMax fM_different ++ (WQ hQ aQ kQ hw fQ_inside fQ_outside fQ_shut iQ_rows iQ_allRows iQ_columns ++ (WW nW hw lw kw wl wb wG)))) s.heap.size = A at hD ⊢
  have hA : ∀ q : Nat, s.heap.size ≤ q → A q := fun q h => by rw [← hAe]; exact Or.inr h
  have hS : va_S A s.heap s.heap [] := va_S.rf
  have hl := lv_entry ([.ref (hO 0), .int p1, .int p2]) (n := 3) (Nat.le_of_ble_eq_true rfl)
  rw [lg_entry_eq]
  generalize (lg_sl ([.ref (hO 0), .int p1, .int p2]) ++ List.replicate (3 - (lg_sl ([.ref (hO 0), .int p1, .int p2])).length) Slot.unset).toArray = ls at hl ⊢
  have hl : lv_has ls 3 [(0, .ref (hO 0)), (1, .int p1), (2, .int p2)] := hl
  refine lv_aload_n hx hb dX5_countedNumber_0 rfl (lv_at hl 0 rfl) ?_
  refine lv_aload_n hx hb dX5_countedNumber_1 rfl (lv_at hl 0 rfl) ?_
  refine va_get (D := (dC, dI)) (ci := 5) (v := .ref (aO 0)) (C := RX5) (T := TX5) (N := 19) hx hb hts iwsMX5_countedNumber_in5 hown hK hP 0 rfl rfl 6 (by decide) (hts (.fieldLink RX5 24 "OptimaWorks$Solver" "countedCase" "[I") (by decide +kernel)) (fun _ h9 => h9) rfl dX5_countedNumber_2 ?_
  refine lv_iload_n hx hb dX5_countedNumber_5 rfl (lv_at hl 1 rfl) ?_
  refine va_iald (cA := kO 0) (n := 64) (f := fO_countedCase) hx hb hK hP 1 0 rfl rfl (vp_in_iff.mpr ⟨b_p1.1, (Int.lt_of_le_of_lt (b_p1.2) (by decide))⟩) dX5_countedNumber_6 ?_
  refine lv_topi (fun v1 hv1 => ?_)
  have b_v1 : 0 ≤ v1.toInt ∧ v1.toInt ≤ 200000 := by rw [hv1]; exact b_fO_countedCase _
  clear hv1
  have hFc := allFree hD hS hA
  refine va_calli (va_runV (As := [.int v1]) (rest := []) ⟨hx, hb, hml, hown, hts⟩ (m_X5_choose l dC dI hO aO kO hM hQ hw iO_answered iO_searched iO_searchedRelaxed iO_counted fO_countedCase gO_goalNumber gO_goalScale fO_start fO_column fO_chosen aM kM iM_stands iM_variables iM_rows iM_goals iM_differents iM_cases fM_from fM_to fM_whole fM_ways iM_plainRows fM_plainRow fM_kept fM_goalOver fM_goalUnder fM_goalMax fM_different aQ kQ fQ_inside fQ_outside fQ_shut iQ_rows iQ_allRows iQ_columns nW lw kw wl wb wG v1 (b_iO_answered) (b_iO_searched) (b_iO_searchedRelaxed) (b_iO_counted) b_fO_countedCase b_fO_column b_fO_chosen (b_iM_stands) (b_iM_variables) (b_iM_rows) (b_iM_goals) (b_iM_differents) (b_iM_cases) b_fM_ways (b_iM_plainRows) b_fM_plainRow (by first | with_reducible assumption | omega | assumption) (b_iQ_rows) (b_iQ_allRows) (b_iQ_columns) (by first | with_reducible assumption | omega | assumption) b_wl b_wb (b_v1) (by omega) s.heap.size) (cwV 1 hts gwsMX5_countedNumber_0 rfl rfl rfl hd_yX5_choose_RX5 (by decide +kernel)) (fz_pre (va_recv hK hP (ci := 5) (q0 := 0) rfl rfl) hP hK hD) rfl rfl hl.1 rfl (lv_room (Nat.le_of_ble_eq_true rfl)) dX5_countedNumber_7 (by decide +kernel)) hS (fun q _ h => hFc q h) hFc (fun r2 u t9_ H locs ht hvm hw9 hB9 hz1 hk1 hS => ?_)
  revert u hw9 hB9
  refine fz_p2 ?_
  intro fO_start_2 fO_chosen_2 hw9 hB9
  try dsimp only at hw9 hB9
  revert hw9
  refine fz_a2 ?_
  intro b_fO_chosen_2 b_r2
  have hP : va_P (dC, dI) vwCl (WO hO aO kO hM hQ hw iO_answered iO_searched iO_searchedRelaxed iO_counted fO_countedCase gO_goalNumber gO_goalScale fO_start_2 fO_column fO_chosen_2 ++ (WM hM aM kM iM_stands iM_variables iM_rows iM_goals iM_differents iM_cases fM_from fM_to fM_whole fM_ways iM_plainRows fM_plainRow fM_kept fM_goalOver fM_goalUnder fM_goalMax fM_different ++ (WQ hQ aQ kQ hw fQ_inside fQ_outside fQ_shut iQ_rows iQ_allRows iQ_columns ++ (WW nW hw lw kw wl wb wG)))) H := fz_P ht hB9.1
  have hD := fz_sd hP (hB9.2.weaken (fun _ q _ h => hFc q.1 h)) rfl
  refine lv_pop hx hb dX5_countedNumber_10 rfl ?_
  refine lv_aload_n hx hb dX5_countedNumber_11 rfl (lv_at hl 0 rfl) ?_
  refine va_get (D := (dC, dI)) (ci := 5) (v := .ref (aO 3)) (C := RX5) (T := TX5) (N := 19) hx hb hts iwsMX5_countedNumber_in5 hown hK hP 0 rfl rfl 9 (by decide) (hts (.fieldLink RX5 35 "OptimaWorks$Solver" "start" "[I") (by decide +kernel)) (fun _ h9 => h9) rfl dX5_countedNumber_12 ?_
  refine lv_iload_n hx hb dX5_countedNumber_15 rfl (lv_at hl 2 rfl) ?_
  refine va_iald (cA := kO 3) (n := 8) (f := fO_start_2) hx hb hK hP 4 3 rfl rfl (vp_in_iff.mpr ⟨b_p2.1, (Int.lt_of_le_of_lt (b_p2.2) (by decide))⟩) dX5_countedNumber_16 ?_
  refine lv_topi (fun v3 hv3 => ?_)
  clear hv3
  refine W.widen (k := 0) (n := 0) (by decide +kernel) (by decide +kernel) ?_
  exact W.iret (v := v3) hx hb hr (fun t9_ ht hW => ⟨⟨v3, (fO_start_2, fO_chosen_2), rfl, b_fO_chosen_2, by rw [ht]; exact hP, hD⟩, hS.F ht⟩) hS.2.2 dX5_countedNumber_17
end
section
/-! the prover's measures -/
theorem ix9 {i j c : Int} (h0 : 0 ≤ i) (h1 : i ≤ 39) (h2 : 0 ≤ c) (h3 : c ≤ 9) (h4 : 0 ≤ j) (h5 : j ≤ 9) : 0 ≤ i * (c + 1) + j ∧ i * (c + 1) + j < 400 := by
  have h : i * (c + 1) ≤ i * 10 := Int.mul_le_mul_of_nonneg_left (by omega) h0
  have h9 : 0 ≤ i * (c + 1) := Int.mul_nonneg h0 (by omega)
  omega
/-- the needs of the columns are needs -/
def NdOc (f : Nat → Int32) (c n : Int) : Prop := ∀ j : Nat, (j : Int) < c → 0 ≤ (f j).toInt ∧ (f j).toInt < n
theorem NdOc.push {f f' : Nat → Int32} {c c' x : Int32} {n : Int} (h : NdOc f c.toInt n) (hf : f' = upd f c.toNatClampNeg x) (hx : 0 ≤ x.toInt) (hx2 : x.toInt < n) (h0 : 0 ≤ c.toInt) (hc : c'.toInt = c.toInt + 1) : NdOc f' c'.toInt n := fun q hq => by
  have hc2 : c.toNatClampNeg = c.toInt.toNat := rfl
  rw [hf, hc2]
  by_cases e : q = c.toInt.toNat
  · rw [e, pk_us]; exact ⟨hx, hx2⟩
  · rw [pk_un e]; exact h q (by omega)
theorem NdOc.at {f : Nat → Int32} {c n : Int} {i : Int32} (h : NdOc f c n) (h0 : 0 ≤ i.toInt) (h1 : i.toInt < c) : 0 ≤ (f i.toNatClampNeg).toInt ∧ (f i.toNatClampNeg).toInt < n := h i.toInt.toNat (by omega)
theorem NdOc.zero {f : Nat → Int32} {n : Int} : NdOc f (0 : Int32).toInt n := fun q hq => by have h9 : (0 : Int32).toInt = 0 := (by decide); omega
theorem mul9 {X C : Int} (h0 : 0 ≤ X) (h1 : X ≤ 9) (h2 : 0 ≤ C) (h3 : C ≤ 40) : (X + (0 : Int32).toInt) * (C + 1) ≤ 400 := by
  rw [show (0 : Int32).toInt = 0 by decide, Int.add_zero]
  have h : X * (C + 1) ≤ X * 41 := Int.mul_le_mul_of_nonneg_left (by omega) h0
  omega
theorem mul49 {X C : Int} (h0 : 0 ≤ X) (h1 : X ≤ 40) (h2 : 0 ≤ C) (h3 : C ≤ 9) : (X + (0 : Int32).toInt) * (C + 1) ≤ 400 := by
  rw [show (0 : Int32).toInt = 0 by decide, Int.add_zero]
  have h : X * (C + 1) ≤ X * 10 := Int.mul_le_mul_of_nonneg_left (by omega) h0
  omega
end

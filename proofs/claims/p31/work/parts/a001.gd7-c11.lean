section
theorem gdA {a b : List Cond} (h1 : a.all goodWord = true) (h2 : b.all goodWord = true) : (a ++ b).all goodWord = true := by rw [List.all_append, h1, h2]; rfl
theorem gdC {c : Cond} {a : List Cond} (h1 : goodWord c = true) (h2 : a.all goodWord = true) : (c :: a).all goodWord = true := by rw [List.all_cons, h1, h2]; rfl
theorem gdV {own C : String} {idx : Nat} {y : MethodName} {ws : List Cond} (h1 : ([.methodLink own idx y, .instanceMethod y, .selects C y y, .initialized C] : List Cond).all goodWord = true) (h2 : ws.all goodWord = true) : (wsV own idx C y ws).all goodWord = true := gdA h1 h2
theorem gdS {own : String} {idx : Nat} {y : MethodName} {ws : List Cond} (h1 : ([.methodLink own idx y, .static y, .initialized y.cls] : List Cond).all goodWord = true) (h2 : ws.all goodWord = true) : (va_wsS own idx y ws).all goodWord = true := gdA h1 h2
theorem gdwsX120 : wsX120.all goodWord = true := by decide +kernel
theorem gdwsRX12_sign : wsRX12_sign.all goodWord = true := gdC rfl (gdA (by decide +kernel : ([.fieldLink RX12 7 "OptimaWorksModel" "big" "[I"] : List Cond).all goodWord = true) gdwsX120)
theorem gdwsRX12_turn : wsRX12_turn.all goodWord = true := gdC rfl (gdA (by decide +kernel : ([.fieldLink RX12 7 "OptimaWorksModel" "big" "[I"] : List Cond).all goodWord = true) gdwsX120)
theorem gdwsRX12_copy : wsRX12_copy.all goodWord = true := gdC rfl (gdA (by decide +kernel : ([.fieldLink RX12 7 "OptimaWorksModel" "big" "[I"] : List Cond).all goodWord = true) gdwsX120)
theorem gdwsRX12_at : wsRX12_at.all goodWord = true := gdC rfl (gdA (by decide +kernel : ([.fieldLink RX12 396 "OptimaWorksModel" "columns" "I"] : List Cond).all goodWord = true) gdwsX120)
theorem gdwsRX12_place1 : wsRX12_place1.all goodWord = true := gdC rfl (gdA (by decide +kernel : ([.fieldLink RX12 396 "OptimaWorksModel" "columns" "I"] : List Cond).all goodWord = true) gdwsX120)
theorem gdwsRX12_exchange : wsRX12_exchange.all goodWord = true := gdC rfl (gdA (by decide +kernel : ([.fieldLink RX12 23 "OptimaWorksModel" "columnOf" "[I", .fieldLink RX12 26 "OptimaWorksModel" "rowOf" "[I"] : List Cond).all goodWord = true) gdwsX120)
theorem gdwsRX12_put : wsRX12_put.all goodWord = true := gdC rfl (gdA (by decide +kernel : ([.fieldLink RX12 7 "OptimaWorksModel" "big" "[I", .constantLong RX12 351 268435455] : List Cond).all goodWord = true) gdwsX120)
theorem gdwsRX12_bare : wsRX12_bare.all goodWord = true := gdC rfl (gdA (by decide +kernel : ([.fieldLink RX12 7 "OptimaWorksModel" "big" "[I"] : List Cond).all goodWord = true) gdwsX120)
theorem gdwsRX12_compare : wsRX12_compare.all goodWord = true := gdC rfl (gdA (gdA (gdA (by decide +kernel : ([] : List Cond).all goodWord = true) gdwsX120) (gdV (by decide +kernel) gdwsRX12_sign)) (gdV (by decide +kernel) gdwsRX12_bare))
theorem gdwsRX12_carry : wsRX12_carry.all goodWord = true := gdC rfl (gdA (by decide +kernel : ([.fieldLink RX12 7 "OptimaWorksModel" "big" "[I", .constantLong RX12 351 268435455, .fieldLink RX12 13 "OptimaWorksModel" "sum" "[J"] : List Cond).all goodWord = true) gdwsX120)
theorem gdwsRX12_add : wsRX12_add.all goodWord = true := gdC rfl (gdA (gdA (gdA (gdA (by decide +kernel : ([.fieldLink RX12 7 "OptimaWorksModel" "big" "[I", .fieldLink RX12 13 "OptimaWorksModel" "sum" "[J"] : List Cond).all goodWord = true) gdwsX120) (gdV (by decide +kernel) gdwsRX12_sign)) (gdV (by decide +kernel) gdwsRX12_carry)) (gdV (by decide +kernel) gdwsRX12_bare))
theorem gdwsRX12_times : wsRX12_times.all goodWord = true := gdC rfl (gdA (gdA (gdA (by decide +kernel : ([.fieldLink RX12 7 "OptimaWorksModel" "big" "[I", .fieldLink RX12 13 "OptimaWorksModel" "sum" "[J", .constantLong RX12 351 268435455] : List Cond).all goodWord = true) gdwsX120) (gdV (by decide +kernel) gdwsRX12_sign)) (gdV (by decide +kernel) gdwsRX12_carry))
theorem gdwsRX12_isMore : wsRX12_isMore.all goodWord = true := gdC rfl (gdA (by decide +kernel : ([.fieldLink RX12 17 "OptimaWorksModel" "rest" "[I", .fieldLink RX12 20 "OptimaWorksModel" "less" "[I"] : List Cond).all goodWord = true) gdwsX120)
end
section
/-- out of the arithmetic's sight -/
def Hid (P : Prop) : Prop := P
theorem Hid.out {P : Prop} (h : Hid P) : P := h
end
section
theorem hd_yX12_copy_RX12 : yX12_copy.cls = RX12 ∧ yX12_copy.cls ≠ "java/lang/invoke/MethodHandle" ∧ yX12_copy.cls ≠ "java/lang/invoke/VarHandle" ∧ (parseMethodDescriptor yX12_copy.desc).map (fun d => d.parameters.length) = some 2 := by decide +kernel
theorem hd_yX12_put_RX12 : yX12_put.cls = RX12 ∧ yX12_put.cls ≠ "java/lang/invoke/MethodHandle" ∧ yX12_put.cls ≠ "java/lang/invoke/VarHandle" ∧ (parseMethodDescriptor yX12_put.desc).map (fun d => d.parameters.length) = some 2 := by decide +kernel
theorem hd_yX12_isMore_RX12 : yX12_isMore.cls = RX12 ∧ yX12_isMore.cls ≠ "java/lang/invoke/MethodHandle" ∧ yX12_isMore.cls ≠ "java/lang/invoke/VarHandle" ∧ (parseMethodDescriptor yX12_isMore.desc).map (fun d => d.parameters.length) = some 1 := by decide +kernel
theorem dX12_divide_0 : decode cX12_divide 0 = .ok (.aload_n 0, 1) := dk_42 (by decide +kernel)
theorem dX12_divide_1 : decode cX12_divide 1 = .ok (.getfield 7, 3) := dk_180 (by decide +kernel)
theorem dX12_divide_4 : decode cX12_divide 4 = .ok (.bipush 24, 2) := dk_16 (by decide +kernel)
theorem dX12_divide_6 : decode cX12_divide 6 = .ok (.iload_n 3, 1) := dk_29 (by decide +kernel)
theorem dX12_divide_7 : decode cX12_divide 7 = .ok (.imul, 1) := dk_104 (by decide +kernel)
theorem dX12_divide_8 : decode cX12_divide 8 = .ok (.iconst 1, 1) := dk_4 (by decide +kernel)
theorem dX12_divide_9 : decode cX12_divide 9 = .ok (.iadd, 1) := dk_96 (by decide +kernel)
theorem dX12_divide_10 : decode cX12_divide 10 = .ok (.iaload, 1) := dk_46 (by decide +kernel)
theorem dX12_divide_11 : decode cX12_divide 11 = .ok (.istore 5, 2) := dk_54 (by decide +kernel)
theorem dX12_divide_13 : decode cX12_divide 13 = .ok (.aload_n 0, 1) := dk_42 (by decide +kernel)
theorem dX12_divide_14 : decode cX12_divide 14 = .ok (.getfield 7, 3) := dk_180 (by decide +kernel)
theorem dX12_divide_17 : decode cX12_divide 17 = .ok (.bipush 24, 2) := dk_16 (by decide +kernel)
theorem dX12_divide_19 : decode cX12_divide 19 = .ok (.iload 4, 2) := dk_21 (by decide +kernel)
theorem dX12_divide_21 : decode cX12_divide 21 = .ok (.imul, 1) := dk_104 (by decide +kernel)
theorem dX12_divide_22 : decode cX12_divide 22 = .ok (.iconst 1, 1) := dk_4 (by decide +kernel)
theorem dX12_divide_23 : decode cX12_divide 23 = .ok (.iadd, 1) := dk_96 (by decide +kernel)
theorem dX12_divide_24 : decode cX12_divide 24 = .ok (.iaload, 1) := dk_46 (by decide +kernel)
theorem dX12_divide_25 : decode cX12_divide 25 = .ok (.istore 6, 2) := dk_54 (by decide +kernel)
theorem dX12_divide_27 : decode cX12_divide 27 = .ok (.aload_n 0, 1) := dk_42 (by decide +kernel)
theorem dX12_divide_28 : decode cX12_divide 28 = .ok (.iload_n 3, 1) := dk_29 (by decide +kernel)
theorem dX12_divide_29 : decode cX12_divide 29 = .ok (.invokevirtual 353, 3) := dk_182 (by decide +kernel)
theorem dX12_divide_32 : decode cX12_divide 32 = .ok (.istore 7, 2) := dk_54 (by decide +kernel)
theorem dX12_divide_34 : decode cX12_divide 34 = .ok (.aload_n 0, 1) := dk_42 (by decide +kernel)
theorem dX12_divide_35 : decode cX12_divide 35 = .ok (.iload 4, 2) := dk_21 (by decide +kernel)
theorem dX12_divide_37 : decode cX12_divide 37 = .ok (.invokevirtual 353, 3) := dk_182 (by decide +kernel)
theorem dX12_divide_40 : decode cX12_divide 40 = .ok (.istore 8, 2) := dk_54 (by decide +kernel)
theorem dX12_divide_42 : decode cX12_divide 42 = .ok (.iload 5, 2) := dk_21 (by decide +kernel)
theorem dX12_divide_44 : decode cX12_divide 44 = .ok (.iload 6, 2) := dk_21 (by decide +kernel)
theorem dX12_divide_46 : decode cX12_divide 46 = .ok (.if_icmp .lt 13, 3) := dk_161 (by decide +kernel)
theorem dX12_divide_49 : decode cX12_divide 49 = .ok (.aload_n 0, 1) := dk_42 (by decide +kernel)
theorem dX12_divide_50 : decode cX12_divide 50 = .ok (.iload_n 3, 1) := dk_29 (by decide +kernel)
theorem dX12_divide_51 : decode cX12_divide 51 = .ok (.iload 4, 2) := dk_21 (by decide +kernel)
theorem dX12_divide_53 : decode cX12_divide 53 = .ok (.invokevirtual 357, 3) := dk_182 (by decide +kernel)
theorem dX12_divide_56 : decode cX12_divide 56 = .ok (.ifCond .ge 16, 3) := dk_156 (by decide +kernel)
theorem dX12_divide_59 : decode cX12_divide 59 = .ok (.aload_n 0, 1) := dk_42 (by decide +kernel)
theorem dX12_divide_60 : decode cX12_divide 60 = .ok (.iload_n 2, 1) := dk_28 (by decide +kernel)
theorem dX12_divide_61 : decode cX12_divide 61 = .ok (.iload_n 3, 1) := dk_29 (by decide +kernel)
theorem dX12_divide_62 : decode cX12_divide 62 = .ok (.invokevirtual 365, 3) := dk_182 (by decide +kernel)
theorem dX12_divide_65 : decode cX12_divide 65 = .ok (.aload_n 0, 1) := dk_42 (by decide +kernel)
theorem dX12_divide_66 : decode cX12_divide 66 = .ok (.iload_n 1, 1) := dk_27 (by decide +kernel)
theorem dX12_divide_67 : decode cX12_divide 67 = .ok (.lconst 0, 1) := dk_9 (by decide +kernel)
theorem dX12_divide_68 : decode cX12_divide 68 = .ok (.invokevirtual 369, 3) := dk_182 (by decide +kernel)
theorem dX12_divide_71 : decode cX12_divide 71 = .ok (.return_, 1) := dk_177 (by decide +kernel)
theorem dX12_divide_72 : decode cX12_divide 72 = .ok (.iconst 0, 1) := dk_3 (by decide +kernel)
theorem dX12_divide_73 : decode cX12_divide 73 = .ok (.istore 9, 2) := dk_54 (by decide +kernel)
theorem dX12_divide_75 : decode cX12_divide 75 = .ok (.iload 9, 2) := dk_21 (by decide +kernel)
theorem dX12_divide_77 : decode cX12_divide 77 = .ok (.iload 6, 2) := dk_21 (by decide +kernel)
theorem dX12_divide_79 : decode cX12_divide 79 = .ok (.iconst 1, 1) := dk_4 (by decide +kernel)
theorem dX12_divide_80 : decode cX12_divide 80 = .ok (.iadd, 1) := dk_96 (by decide +kernel)
theorem dX12_divide_81 : decode cX12_divide 81 = .ok (.if_icmp .gt 17, 3) := dk_163 (by decide +kernel)
theorem dX12_divide_84 : decode cX12_divide 84 = .ok (.aload_n 0, 1) := dk_42 (by decide +kernel)
theorem dX12_divide_85 : decode cX12_divide 85 = .ok (.getfield 17, 3) := dk_180 (by decide +kernel)
theorem dX12_divide_88 : decode cX12_divide 88 = .ok (.iload 9, 2) := dk_21 (by decide +kernel)
theorem dX12_divide_90 : decode cX12_divide 90 = .ok (.iconst 0, 1) := dk_3 (by decide +kernel)
theorem dX12_divide_91 : decode cX12_divide 91 = .ok (.iastore, 1) := dk_79 (by decide +kernel)
theorem dX12_divide_92 : decode cX12_divide 92 = .ok (.iinc 9 1, 3) := dk_132 (by decide +kernel)
theorem dX12_divide_95 : decode cX12_divide 95 = .ok (.goto (-20), 3) := dk_167 (by decide +kernel)
theorem dX12_divide_98 : decode cX12_divide 98 = .ok (.iconst 0, 1) := dk_3 (by decide +kernel)
theorem dX12_divide_99 : decode cX12_divide 99 = .ok (.istore 9, 2) := dk_54 (by decide +kernel)
theorem dX12_divide_101 : decode cX12_divide 101 = .ok (.iload 9, 2) := dk_21 (by decide +kernel)
theorem dX12_divide_103 : decode cX12_divide 103 = .ok (.iload 5, 2) := dk_21 (by decide +kernel)
theorem dX12_divide_105 : decode cX12_divide 105 = .ok (.if_icmp .ge 17, 3) := dk_162 (by decide +kernel)
theorem dX12_divide_108 : decode cX12_divide 108 = .ok (.aload_n 0, 1) := dk_42 (by decide +kernel)
theorem dX12_divide_109 : decode cX12_divide 109 = .ok (.getfield 13, 3) := dk_180 (by decide +kernel)
theorem dX12_divide_112 : decode cX12_divide 112 = .ok (.iload 9, 2) := dk_21 (by decide +kernel)
theorem dX12_divide_114 : decode cX12_divide 114 = .ok (.lconst 0, 1) := dk_9 (by decide +kernel)
theorem dX12_divide_115 : decode cX12_divide 115 = .ok (.lastore, 1) := dk_80 (by decide +kernel)
theorem dX12_divide_116 : decode cX12_divide 116 = .ok (.iinc 9 1, 3) := dk_132 (by decide +kernel)
theorem dX12_divide_119 : decode cX12_divide 119 = .ok (.goto (-18), 3) := dk_167 (by decide +kernel)
theorem dX12_divide_122 : decode cX12_divide 122 = .ok (.iconst 0, 1) := dk_3 (by decide +kernel)
theorem dX12_divide_123 : decode cX12_divide 123 = .ok (.istore 9, 2) := dk_54 (by decide +kernel)
theorem dX12_divide_125 : decode cX12_divide 125 = .ok (.iload 9, 2) := dk_21 (by decide +kernel)
theorem dX12_divide_127 : decode cX12_divide 127 = .ok (.iload 6, 2) := dk_21 (by decide +kernel)
theorem dX12_divide_129 : decode cX12_divide 129 = .ok (.if_icmp .ge 31, 3) := dk_162 (by decide +kernel)
theorem dX12_divide_132 : decode cX12_divide 132 = .ok (.aload_n 0, 1) := dk_42 (by decide +kernel)
theorem dX12_divide_133 : decode cX12_divide 133 = .ok (.getfield 20, 3) := dk_180 (by decide +kernel)
theorem dX12_divide_136 : decode cX12_divide 136 = .ok (.iload 9, 2) := dk_21 (by decide +kernel)
theorem dX12_divide_138 : decode cX12_divide 138 = .ok (.aload_n 0, 1) := dk_42 (by decide +kernel)
theorem dX12_divide_139 : decode cX12_divide 139 = .ok (.getfield 7, 3) := dk_180 (by decide +kernel)
theorem dX12_divide_142 : decode cX12_divide 142 = .ok (.bipush 24, 2) := dk_16 (by decide +kernel)
theorem dX12_divide_144 : decode cX12_divide 144 = .ok (.iload 4, 2) := dk_21 (by decide +kernel)
theorem dX12_divide_146 : decode cX12_divide 146 = .ok (.imul, 1) := dk_104 (by decide +kernel)
theorem dX12_divide_147 : decode cX12_divide 147 = .ok (.iconst 2, 1) := dk_5 (by decide +kernel)
theorem dX12_divide_148 : decode cX12_divide 148 = .ok (.iadd, 1) := dk_96 (by decide +kernel)
theorem dX12_divide_149 : decode cX12_divide 149 = .ok (.iload 9, 2) := dk_21 (by decide +kernel)
theorem dX12_divide_151 : decode cX12_divide 151 = .ok (.iadd, 1) := dk_96 (by decide +kernel)
theorem dX12_divide_152 : decode cX12_divide 152 = .ok (.iaload, 1) := dk_46 (by decide +kernel)
theorem dX12_divide_153 : decode cX12_divide 153 = .ok (.iastore, 1) := dk_79 (by decide +kernel)
theorem dX12_divide_154 : decode cX12_divide 154 = .ok (.iinc 9 1, 3) := dk_132 (by decide +kernel)
theorem dX12_divide_157 : decode cX12_divide 157 = .ok (.goto (-32), 3) := dk_167 (by decide +kernel)
theorem dX12_divide_160 : decode cX12_divide 160 = .ok (.iload 6, 2) := dk_21 (by decide +kernel)
theorem dX12_divide_162 : decode cX12_divide 162 = .ok (.iconst 1, 1) := dk_4 (by decide +kernel)
theorem dX12_divide_163 : decode cX12_divide 163 = .ok (.if_icmp .ne 106, 3) := dk_160 (by decide +kernel)
theorem dX12_divide_166 : decode cX12_divide 166 = .ok (.lconst 0, 1) := dk_9 (by decide +kernel)
theorem dX12_divide_167 : decode cX12_divide 167 = .ok (.lstore 9, 2) := dk_55 (by decide +kernel)
theorem dX12_divide_169 : decode cX12_divide 169 = .ok (.iload 5, 2) := dk_21 (by decide +kernel)
theorem dX12_divide_171 : decode cX12_divide 171 = .ok (.iconst 1, 1) := dk_4 (by decide +kernel)
theorem dX12_divide_172 : decode cX12_divide 172 = .ok (.isub, 1) := dk_100 (by decide +kernel)
theorem dX12_divide_173 : decode cX12_divide 173 = .ok (.istore 11, 2) := dk_54 (by decide +kernel)
theorem dX12_divide_175 : decode cX12_divide 175 = .ok (.iload 11, 2) := dk_21 (by decide +kernel)
theorem dX12_divide_177 : decode cX12_divide 177 = .ok (.ifCond .lt 61, 3) := dk_155 (by decide +kernel)
theorem dX12_divide_180 : decode cX12_divide 180 = .ok (.lload 9, 2) := dk_22 (by decide +kernel)
theorem dX12_divide_182 : decode cX12_divide 182 = .ok (.bipush 28, 2) := dk_16 (by decide +kernel)
theorem dX12_divide_184 : decode cX12_divide 184 = .ok (.lshl, 1) := dk_121 (by decide +kernel)
theorem dX12_divide_185 : decode cX12_divide 185 = .ok (.aload_n 0, 1) := dk_42 (by decide +kernel)
theorem dX12_divide_186 : decode cX12_divide 186 = .ok (.getfield 7, 3) := dk_180 (by decide +kernel)
theorem dX12_divide_189 : decode cX12_divide 189 = .ok (.bipush 24, 2) := dk_16 (by decide +kernel)
theorem dX12_divide_191 : decode cX12_divide 191 = .ok (.iload_n 3, 1) := dk_29 (by decide +kernel)
theorem dX12_divide_192 : decode cX12_divide 192 = .ok (.imul, 1) := dk_104 (by decide +kernel)
theorem dX12_divide_193 : decode cX12_divide 193 = .ok (.iconst 2, 1) := dk_5 (by decide +kernel)
theorem dX12_divide_194 : decode cX12_divide 194 = .ok (.iadd, 1) := dk_96 (by decide +kernel)
theorem dX12_divide_195 : decode cX12_divide 195 = .ok (.iload 11, 2) := dk_21 (by decide +kernel)
theorem dX12_divide_197 : decode cX12_divide 197 = .ok (.iadd, 1) := dk_96 (by decide +kernel)
theorem dX12_divide_198 : decode cX12_divide 198 = .ok (.iaload, 1) := dk_46 (by decide +kernel)
theorem dX12_divide_199 : decode cX12_divide 199 = .ok (.i2l, 1) := dk_133 (by decide +kernel)
theorem dX12_divide_200 : decode cX12_divide 200 = .ok (.lor, 1) := dk_129 (by decide +kernel)
theorem dX12_divide_201 : decode cX12_divide 201 = .ok (.lstore 12, 2) := dk_55 (by decide +kernel)
theorem dX12_divide_203 : decode cX12_divide 203 = .ok (.aload_n 0, 1) := dk_42 (by decide +kernel)
theorem dX12_divide_204 : decode cX12_divide 204 = .ok (.getfield 13, 3) := dk_180 (by decide +kernel)
theorem dX12_divide_207 : decode cX12_divide 207 = .ok (.iload 11, 2) := dk_21 (by decide +kernel)
theorem dX12_divide_209 : decode cX12_divide 209 = .ok (.lload 12, 2) := dk_22 (by decide +kernel)
theorem dX12_divide_211 : decode cX12_divide 211 = .ok (.aload_n 0, 1) := dk_42 (by decide +kernel)
theorem dX12_divide_212 : decode cX12_divide 212 = .ok (.getfield 20, 3) := dk_180 (by decide +kernel)
theorem dX12_divide_215 : decode cX12_divide 215 = .ok (.iconst 0, 1) := dk_3 (by decide +kernel)
theorem dX12_divide_216 : decode cX12_divide 216 = .ok (.iaload, 1) := dk_46 (by decide +kernel)
theorem dX12_divide_217 : decode cX12_divide 217 = .ok (.i2l, 1) := dk_133 (by decide +kernel)
theorem dX12_divide_218 : decode cX12_divide 218 = .ok (.ldiv, 1) := dk_109 (by decide +kernel)
theorem dX12_divide_219 : decode cX12_divide 219 = .ok (.lastore, 1) := dk_80 (by decide +kernel)
theorem dX12_divide_220 : decode cX12_divide 220 = .ok (.lload 12, 2) := dk_22 (by decide +kernel)
theorem dX12_divide_222 : decode cX12_divide 222 = .ok (.aload_n 0, 1) := dk_42 (by decide +kernel)
theorem dX12_divide_223 : decode cX12_divide 223 = .ok (.getfield 20, 3) := dk_180 (by decide +kernel)
theorem dX12_divide_226 : decode cX12_divide 226 = .ok (.iconst 0, 1) := dk_3 (by decide +kernel)
theorem dX12_divide_227 : decode cX12_divide 227 = .ok (.iaload, 1) := dk_46 (by decide +kernel)
theorem dX12_divide_228 : decode cX12_divide 228 = .ok (.i2l, 1) := dk_133 (by decide +kernel)
theorem dX12_divide_229 : decode cX12_divide 229 = .ok (.lrem, 1) := dk_113 (by decide +kernel)
theorem dX12_divide_230 : decode cX12_divide 230 = .ok (.lstore 9, 2) := dk_55 (by decide +kernel)
theorem dX12_divide_232 : decode cX12_divide 232 = .ok (.iinc 11 (-1), 3) := dk_132 (by decide +kernel)
theorem dX12_divide_235 : decode cX12_divide 235 = .ok (.goto (-60), 3) := dk_167 (by decide +kernel)
theorem dX12_divide_238 : decode cX12_divide 238 = .ok (.aload_n 0, 1) := dk_42 (by decide +kernel)
theorem dX12_divide_239 : decode cX12_divide 239 = .ok (.iload_n 1, 1) := dk_27 (by decide +kernel)
theorem dX12_divide_240 : decode cX12_divide 240 = .ok (.iload 5, 2) := dk_21 (by decide +kernel)
theorem dX12_divide_242 : decode cX12_divide 242 = .ok (.iload 7, 2) := dk_21 (by decide +kernel)
theorem dX12_divide_244 : decode cX12_divide 244 = .ok (.iload 8, 2) := dk_21 (by decide +kernel)
theorem dX12_divide_246 : decode cX12_divide 246 = .ok (.imul, 1) := dk_104 (by decide +kernel)
theorem dX12_divide_247 : decode cX12_divide 247 = .ok (.invokevirtual 361, 3) := dk_182 (by decide +kernel)
theorem dX12_divide_250 : decode cX12_divide 250 = .ok (.aload_n 0, 1) := dk_42 (by decide +kernel)
theorem dX12_divide_251 : decode cX12_divide 251 = .ok (.iload_n 2, 1) := dk_28 (by decide +kernel)
theorem dX12_divide_252 : decode cX12_divide 252 = .ok (.iload 7, 2) := dk_21 (by decide +kernel)
theorem dX12_divide_254 : decode cX12_divide 254 = .ok (.ifCond .ge 9, 3) := dk_156 (by decide +kernel)
theorem dX12_divide_257 : decode cX12_divide 257 = .ok (.lload 9, 2) := dk_22 (by decide +kernel)
theorem dX12_divide_259 : decode cX12_divide 259 = .ok (.lneg, 1) := dk_117 (by decide +kernel)
theorem dX12_divide_260 : decode cX12_divide 260 = .ok (.goto 5, 3) := dk_167 (by decide +kernel)
theorem dX12_divide_263 : decode cX12_divide 263 = .ok (.lload 9, 2) := dk_22 (by decide +kernel)
theorem dX12_divide_265 : decode cX12_divide 265 = .ok (.invokevirtual 369, 3) := dk_182 (by decide +kernel)
theorem dX12_divide_268 : decode cX12_divide 268 = .ok (.return_, 1) := dk_177 (by decide +kernel)
theorem dX12_divide_269 : decode cX12_divide 269 = .ok (.iload 5, 2) := dk_21 (by decide +kernel)
theorem dX12_divide_271 : decode cX12_divide 271 = .ok (.iconst 1, 1) := dk_4 (by decide +kernel)
theorem dX12_divide_272 : decode cX12_divide 272 = .ok (.isub, 1) := dk_100 (by decide +kernel)
theorem dX12_divide_273 : decode cX12_divide 273 = .ok (.istore 9, 2) := dk_54 (by decide +kernel)
theorem dX12_divide_275 : decode cX12_divide 275 = .ok (.iload 9, 2) := dk_21 (by decide +kernel)
theorem dX12_divide_277 : decode cX12_divide 277 = .ok (.ifCond .lt 206, 3) := dk_155 (by decide +kernel)
theorem dX12_divide_280 : decode cX12_divide 280 = .ok (.bipush 27, 2) := dk_16 (by decide +kernel)
theorem dX12_divide_282 : decode cX12_divide 282 = .ok (.istore 10, 2) := dk_54 (by decide +kernel)
theorem dX12_divide_284 : decode cX12_divide 284 = .ok (.iload 10, 2) := dk_21 (by decide +kernel)
theorem dX12_divide_286 : decode cX12_divide 286 = .ok (.ifCond .lt 191, 3) := dk_155 (by decide +kernel)
theorem dX12_divide_289 : decode cX12_divide 289 = .ok (.aload_n 0, 1) := dk_42 (by decide +kernel)
theorem dX12_divide_290 : decode cX12_divide 290 = .ok (.getfield 7, 3) := dk_180 (by decide +kernel)
theorem dX12_divide_293 : decode cX12_divide 293 = .ok (.bipush 24, 2) := dk_16 (by decide +kernel)
theorem dX12_divide_295 : decode cX12_divide 295 = .ok (.iload_n 3, 1) := dk_29 (by decide +kernel)
theorem dX12_divide_296 : decode cX12_divide 296 = .ok (.imul, 1) := dk_104 (by decide +kernel)
theorem dX12_divide_297 : decode cX12_divide 297 = .ok (.iconst 2, 1) := dk_5 (by decide +kernel)
theorem dX12_divide_298 : decode cX12_divide 298 = .ok (.iadd, 1) := dk_96 (by decide +kernel)
theorem dX12_divide_299 : decode cX12_divide 299 = .ok (.iload 9, 2) := dk_21 (by decide +kernel)
theorem dX12_divide_301 : decode cX12_divide 301 = .ok (.iadd, 1) := dk_96 (by decide +kernel)
theorem dX12_divide_302 : decode cX12_divide 302 = .ok (.iaload, 1) := dk_46 (by decide +kernel)
theorem dX12_divide_303 : decode cX12_divide 303 = .ok (.iload 10, 2) := dk_21 (by decide +kernel)
theorem dX12_divide_305 : decode cX12_divide 305 = .ok (.ishr, 1) := dk_122 (by decide +kernel)
theorem dX12_divide_306 : decode cX12_divide 306 = .ok (.iconst 1, 1) := dk_4 (by decide +kernel)
theorem dX12_divide_307 : decode cX12_divide 307 = .ok (.iand, 1) := dk_126 (by decide +kernel)
theorem dX12_divide_308 : decode cX12_divide 308 = .ok (.istore 11, 2) := dk_54 (by decide +kernel)
theorem dX12_divide_310 : decode cX12_divide 310 = .ok (.iconst 0, 1) := dk_3 (by decide +kernel)
theorem dX12_divide_311 : decode cX12_divide 311 = .ok (.istore 12, 2) := dk_54 (by decide +kernel)
theorem dX12_divide_313 : decode cX12_divide 313 = .ok (.iload 12, 2) := dk_21 (by decide +kernel)
theorem dX12_divide_315 : decode cX12_divide 315 = .ok (.iload 6, 2) := dk_21 (by decide +kernel)
theorem dX12_divide_317 : decode cX12_divide 317 = .ok (.if_icmp .gt 43, 3) := dk_163 (by decide +kernel)
theorem dX12_divide_320 : decode cX12_divide 320 = .ok (.aload_n 0, 1) := dk_42 (by decide +kernel)
theorem dX12_divide_321 : decode cX12_divide 321 = .ok (.getfield 17, 3) := dk_180 (by decide +kernel)
theorem dX12_divide_324 : decode cX12_divide 324 = .ok (.iload 12, 2) := dk_21 (by decide +kernel)
theorem dX12_divide_326 : decode cX12_divide 326 = .ok (.iaload, 1) := dk_46 (by decide +kernel)
theorem dX12_divide_327 : decode cX12_divide 327 = .ok (.iconst 1, 1) := dk_4 (by decide +kernel)
theorem dX12_divide_328 : decode cX12_divide 328 = .ok (.ishl, 1) := dk_120 (by decide +kernel)
theorem dX12_divide_329 : decode cX12_divide 329 = .ok (.iload 11, 2) := dk_21 (by decide +kernel)
theorem dX12_divide_331 : decode cX12_divide 331 = .ok (.ior, 1) := dk_128 (by decide +kernel)
theorem dX12_divide_332 : decode cX12_divide 332 = .ok (.istore 13, 2) := dk_54 (by decide +kernel)
theorem dX12_divide_334 : decode cX12_divide 334 = .ok (.iload 13, 2) := dk_21 (by decide +kernel)
theorem dX12_divide_336 : decode cX12_divide 336 = .ok (.bipush 28, 2) := dk_16 (by decide +kernel)
theorem dX12_divide_338 : decode cX12_divide 338 = .ok (.ishr, 1) := dk_122 (by decide +kernel)
theorem dX12_divide_339 : decode cX12_divide 339 = .ok (.istore 11, 2) := dk_54 (by decide +kernel)
theorem dX12_divide_341 : decode cX12_divide 341 = .ok (.aload_n 0, 1) := dk_42 (by decide +kernel)
theorem dX12_divide_342 : decode cX12_divide 342 = .ok (.getfield 17, 3) := dk_180 (by decide +kernel)
theorem dX12_divide_345 : decode cX12_divide 345 = .ok (.iload 12, 2) := dk_21 (by decide +kernel)
theorem dX12_divide_347 : decode cX12_divide 347 = .ok (.iload 13, 2) := dk_21 (by decide +kernel)
theorem dX12_divide_349 : decode cX12_divide 349 = .ok (.ldc_w 373, 3) := dk_19 (by decide +kernel)
theorem dX12_divide_352 : decode cX12_divide 352 = .ok (.iand, 1) := dk_126 (by decide +kernel)
theorem dX12_divide_353 : decode cX12_divide 353 = .ok (.iastore, 1) := dk_79 (by decide +kernel)
theorem dX12_divide_354 : decode cX12_divide 354 = .ok (.iinc 12 1, 3) := dk_132 (by decide +kernel)
theorem dX12_divide_357 : decode cX12_divide 357 = .ok (.goto (-44), 3) := dk_167 (by decide +kernel)
theorem dX12_divide_360 : decode cX12_divide 360 = .ok (.aload_n 0, 1) := dk_42 (by decide +kernel)
theorem dX12_divide_361 : decode cX12_divide 361 = .ok (.iload 6, 2) := dk_21 (by decide +kernel)
theorem dX12_divide_363 : decode cX12_divide 363 = .ok (.invokevirtual 374, 3) := dk_182 (by decide +kernel)
theorem dX12_divide_366 : decode cX12_divide 366 = .ok (.ifCond .ne 6, 3) := dk_154 (by decide +kernel)
theorem dX12_divide_369 : decode cX12_divide 369 = .ok (.goto 102, 3) := dk_167 (by decide +kernel)
theorem dX12_divide_372 : decode cX12_divide 372 = .ok (.iconst 0, 1) := dk_3 (by decide +kernel)
theorem dX12_divide_373 : decode cX12_divide 373 = .ok (.istore 12, 2) := dk_54 (by decide +kernel)
theorem dX12_divide_375 : decode cX12_divide 375 = .ok (.iconst 0, 1) := dk_3 (by decide +kernel)
theorem dX12_divide_376 : decode cX12_divide 376 = .ok (.istore 13, 2) := dk_54 (by decide +kernel)
theorem dX12_divide_378 : decode cX12_divide 378 = .ok (.iload 13, 2) := dk_21 (by decide +kernel)
theorem dX12_divide_380 : decode cX12_divide 380 = .ok (.iload 6, 2) := dk_21 (by decide +kernel)
theorem dX12_divide_382 : decode cX12_divide 382 = .ok (.if_icmp .gt 75, 3) := dk_163 (by decide +kernel)
theorem dX12_divide_385 : decode cX12_divide 385 = .ok (.aload_n 0, 1) := dk_42 (by decide +kernel)
theorem dX12_divide_386 : decode cX12_divide 386 = .ok (.getfield 17, 3) := dk_180 (by decide +kernel)
theorem dX12_divide_389 : decode cX12_divide 389 = .ok (.iload 13, 2) := dk_21 (by decide +kernel)
theorem dX12_divide_391 : decode cX12_divide 391 = .ok (.iaload, 1) := dk_46 (by decide +kernel)
theorem dX12_divide_392 : decode cX12_divide 392 = .ok (.iload 13, 2) := dk_21 (by decide +kernel)
theorem dX12_divide_394 : decode cX12_divide 394 = .ok (.iload 6, 2) := dk_21 (by decide +kernel)
theorem dX12_divide_396 : decode cX12_divide 396 = .ok (.if_icmp .ge 13, 3) := dk_162 (by decide +kernel)
theorem dX12_divide_399 : decode cX12_divide 399 = .ok (.aload_n 0, 1) := dk_42 (by decide +kernel)
theorem dX12_divide_400 : decode cX12_divide 400 = .ok (.getfield 20, 3) := dk_180 (by decide +kernel)
theorem dX12_divide_403 : decode cX12_divide 403 = .ok (.iload 13, 2) := dk_21 (by decide +kernel)
theorem dX12_divide_405 : decode cX12_divide 405 = .ok (.iaload, 1) := dk_46 (by decide +kernel)
theorem dX12_divide_406 : decode cX12_divide 406 = .ok (.goto 4, 3) := dk_167 (by decide +kernel)
theorem dX12_divide_409 : decode cX12_divide 409 = .ok (.iconst 0, 1) := dk_3 (by decide +kernel)
theorem dX12_divide_410 : decode cX12_divide 410 = .ok (.isub, 1) := dk_100 (by decide +kernel)
theorem dX12_divide_411 : decode cX12_divide 411 = .ok (.iload 12, 2) := dk_21 (by decide +kernel)
theorem dX12_divide_413 : decode cX12_divide 413 = .ok (.isub, 1) := dk_100 (by decide +kernel)
theorem dX12_divide_414 : decode cX12_divide 414 = .ok (.istore 14, 2) := dk_54 (by decide +kernel)
theorem dX12_divide_416 : decode cX12_divide 416 = .ok (.iload 14, 2) := dk_21 (by decide +kernel)
theorem dX12_divide_418 : decode cX12_divide 418 = .ok (.ifCond .ge 7, 3) := dk_156 (by decide +kernel)
theorem dX12_divide_421 : decode cX12_divide 421 = .ok (.iconst 1, 1) := dk_4 (by decide +kernel)
theorem dX12_divide_422 : decode cX12_divide 422 = .ok (.goto 4, 3) := dk_167 (by decide +kernel)
theorem dX12_divide_425 : decode cX12_divide 425 = .ok (.iconst 0, 1) := dk_3 (by decide +kernel)
theorem dX12_divide_426 : decode cX12_divide 426 = .ok (.istore 12, 2) := dk_54 (by decide +kernel)
theorem dX12_divide_428 : decode cX12_divide 428 = .ok (.aload_n 0, 1) := dk_42 (by decide +kernel)
theorem dX12_divide_429 : decode cX12_divide 429 = .ok (.getfield 17, 3) := dk_180 (by decide +kernel)
theorem dX12_divide_432 : decode cX12_divide 432 = .ok (.iload 13, 2) := dk_21 (by decide +kernel)
theorem dX12_divide_434 : decode cX12_divide 434 = .ok (.iload 14, 2) := dk_21 (by decide +kernel)
theorem dX12_divide_436 : decode cX12_divide 436 = .ok (.ifCond .ge 12, 3) := dk_156 (by decide +kernel)
theorem dX12_divide_439 : decode cX12_divide 439 = .ok (.iload 14, 2) := dk_21 (by decide +kernel)
theorem dX12_divide_441 : decode cX12_divide 441 = .ok (.ldc_w 378, 3) := dk_19 (by decide +kernel)
theorem dX12_divide_444 : decode cX12_divide 444 = .ok (.iadd, 1) := dk_96 (by decide +kernel)
theorem dX12_divide_445 : decode cX12_divide 445 = .ok (.goto 5, 3) := dk_167 (by decide +kernel)
theorem dX12_divide_448 : decode cX12_divide 448 = .ok (.iload 14, 2) := dk_21 (by decide +kernel)
theorem dX12_divide_450 : decode cX12_divide 450 = .ok (.iastore, 1) := dk_79 (by decide +kernel)
theorem dX12_divide_451 : decode cX12_divide 451 = .ok (.iinc 13 1, 3) := dk_132 (by decide +kernel)
theorem dX12_divide_454 : decode cX12_divide 454 = .ok (.goto (-76), 3) := dk_167 (by decide +kernel)
theorem dX12_divide_457 : decode cX12_divide 457 = .ok (.aload_n 0, 1) := dk_42 (by decide +kernel)
theorem dX12_divide_458 : decode cX12_divide 458 = .ok (.getfield 13, 3) := dk_180 (by decide +kernel)
theorem dX12_divide_461 : decode cX12_divide 461 = .ok (.iload 9, 2) := dk_21 (by decide +kernel)
theorem dX12_divide_463 : decode cX12_divide 463 = .ok (.dup2, 1) := dk_92 (by decide +kernel)
theorem dX12_divide_464 : decode cX12_divide 464 = .ok (.laload, 1) := dk_47 (by decide +kernel)
theorem dX12_divide_465 : decode cX12_divide 465 = .ok (.lconst 1, 1) := dk_10 (by decide +kernel)
theorem dX12_divide_466 : decode cX12_divide 466 = .ok (.iload 10, 2) := dk_21 (by decide +kernel)
theorem dX12_divide_468 : decode cX12_divide 468 = .ok (.lshl, 1) := dk_121 (by decide +kernel)
theorem dX12_divide_469 : decode cX12_divide 469 = .ok (.lor, 1) := dk_129 (by decide +kernel)
theorem dX12_divide_470 : decode cX12_divide 470 = .ok (.lastore, 1) := dk_80 (by decide +kernel)
theorem dX12_divide_471 : decode cX12_divide 471 = .ok (.iinc 10 (-1), 3) := dk_132 (by decide +kernel)
theorem dX12_divide_474 : decode cX12_divide 474 = .ok (.goto (-190), 3) := dk_167 (by decide +kernel)
theorem dX12_divide_477 : decode cX12_divide 477 = .ok (.iinc 9 (-1), 3) := dk_132 (by decide +kernel)
theorem dX12_divide_480 : decode cX12_divide 480 = .ok (.goto (-205), 3) := dk_167 (by decide +kernel)
theorem dX12_divide_483 : decode cX12_divide 483 = .ok (.iload 6, 2) := dk_21 (by decide +kernel)
theorem dX12_divide_485 : decode cX12_divide 485 = .ok (.istore 9, 2) := dk_54 (by decide +kernel)
theorem dX12_divide_487 : decode cX12_divide 487 = .ok (.iload 9, 2) := dk_21 (by decide +kernel)
theorem dX12_divide_489 : decode cX12_divide 489 = .ok (.ifCond .le 21, 3) := dk_158 (by decide +kernel)
theorem dX12_divide_492 : decode cX12_divide 492 = .ok (.aload_n 0, 1) := dk_42 (by decide +kernel)
theorem dX12_divide_493 : decode cX12_divide 493 = .ok (.getfield 17, 3) := dk_180 (by decide +kernel)
theorem dX12_divide_496 : decode cX12_divide 496 = .ok (.iload 9, 2) := dk_21 (by decide +kernel)
theorem dX12_divide_498 : decode cX12_divide 498 = .ok (.iconst 1, 1) := dk_4 (by decide +kernel)
theorem dX12_divide_499 : decode cX12_divide 499 = .ok (.isub, 1) := dk_100 (by decide +kernel)
theorem dX12_divide_500 : decode cX12_divide 500 = .ok (.iaload, 1) := dk_46 (by decide +kernel)
theorem dX12_divide_501 : decode cX12_divide 501 = .ok (.ifCond .ne 9, 3) := dk_154 (by decide +kernel)
theorem dX12_divide_504 : decode cX12_divide 504 = .ok (.iinc 9 (-1), 3) := dk_132 (by decide +kernel)
theorem dX12_divide_507 : decode cX12_divide 507 = .ok (.goto (-20), 3) := dk_167 (by decide +kernel)
theorem dX12_divide_510 : decode cX12_divide 510 = .ok (.aload_n 0, 1) := dk_42 (by decide +kernel)
theorem dX12_divide_511 : decode cX12_divide 511 = .ok (.getfield 7, 3) := dk_180 (by decide +kernel)
theorem dX12_divide_514 : decode cX12_divide 514 = .ok (.bipush 24, 2) := dk_16 (by decide +kernel)
theorem dX12_divide_516 : decode cX12_divide 516 = .ok (.iload_n 2, 1) := dk_28 (by decide +kernel)
theorem dX12_divide_517 : decode cX12_divide 517 = .ok (.imul, 1) := dk_104 (by decide +kernel)
theorem dX12_divide_518 : decode cX12_divide 518 = .ok (.iload 9, 2) := dk_21 (by decide +kernel)
theorem dX12_divide_520 : decode cX12_divide 520 = .ok (.ifCond .ne 7, 3) := dk_154 (by decide +kernel)
theorem dX12_divide_523 : decode cX12_divide 523 = .ok (.iconst 0, 1) := dk_3 (by decide +kernel)
theorem dX12_divide_524 : decode cX12_divide 524 = .ok (.goto 5, 3) := dk_167 (by decide +kernel)
theorem dX12_divide_527 : decode cX12_divide 527 = .ok (.iload 7, 2) := dk_21 (by decide +kernel)
theorem dX12_divide_529 : decode cX12_divide 529 = .ok (.iastore, 1) := dk_79 (by decide +kernel)
theorem dX12_divide_530 : decode cX12_divide 530 = .ok (.aload_n 0, 1) := dk_42 (by decide +kernel)
theorem dX12_divide_531 : decode cX12_divide 531 = .ok (.getfield 7, 3) := dk_180 (by decide +kernel)
theorem dX12_divide_534 : decode cX12_divide 534 = .ok (.bipush 24, 2) := dk_16 (by decide +kernel)
theorem dX12_divide_536 : decode cX12_divide 536 = .ok (.iload_n 2, 1) := dk_28 (by decide +kernel)
theorem dX12_divide_537 : decode cX12_divide 537 = .ok (.imul, 1) := dk_104 (by decide +kernel)
theorem dX12_divide_538 : decode cX12_divide 538 = .ok (.iconst 1, 1) := dk_4 (by decide +kernel)
theorem dX12_divide_539 : decode cX12_divide 539 = .ok (.iadd, 1) := dk_96 (by decide +kernel)
theorem dX12_divide_540 : decode cX12_divide 540 = .ok (.iload 9, 2) := dk_21 (by decide +kernel)
theorem dX12_divide_542 : decode cX12_divide 542 = .ok (.iastore, 1) := dk_79 (by decide +kernel)
theorem dX12_divide_543 : decode cX12_divide 543 = .ok (.iconst 0, 1) := dk_3 (by decide +kernel)
theorem dX12_divide_544 : decode cX12_divide 544 = .ok (.istore 10, 2) := dk_54 (by decide +kernel)
theorem dX12_divide_546 : decode cX12_divide 546 = .ok (.iload 10, 2) := dk_21 (by decide +kernel)
theorem dX12_divide_548 : decode cX12_divide 548 = .ok (.iload 9, 2) := dk_21 (by decide +kernel)
theorem dX12_divide_550 : decode cX12_divide 550 = .ok (.if_icmp .ge 30, 3) := dk_162 (by decide +kernel)
theorem dX12_divide_553 : decode cX12_divide 553 = .ok (.aload_n 0, 1) := dk_42 (by decide +kernel)
theorem dX12_divide_554 : decode cX12_divide 554 = .ok (.getfield 7, 3) := dk_180 (by decide +kernel)
theorem dX12_divide_557 : decode cX12_divide 557 = .ok (.bipush 24, 2) := dk_16 (by decide +kernel)
theorem dX12_divide_559 : decode cX12_divide 559 = .ok (.iload_n 2, 1) := dk_28 (by decide +kernel)
theorem dX12_divide_560 : decode cX12_divide 560 = .ok (.imul, 1) := dk_104 (by decide +kernel)
theorem dX12_divide_561 : decode cX12_divide 561 = .ok (.iconst 2, 1) := dk_5 (by decide +kernel)
theorem dX12_divide_562 : decode cX12_divide 562 = .ok (.iadd, 1) := dk_96 (by decide +kernel)
theorem dX12_divide_563 : decode cX12_divide 563 = .ok (.iload 10, 2) := dk_21 (by decide +kernel)
theorem dX12_divide_565 : decode cX12_divide 565 = .ok (.iadd, 1) := dk_96 (by decide +kernel)
theorem dX12_divide_566 : decode cX12_divide 566 = .ok (.aload_n 0, 1) := dk_42 (by decide +kernel)
theorem dX12_divide_567 : decode cX12_divide 567 = .ok (.getfield 17, 3) := dk_180 (by decide +kernel)
theorem dX12_divide_570 : decode cX12_divide 570 = .ok (.iload 10, 2) := dk_21 (by decide +kernel)
theorem dX12_divide_572 : decode cX12_divide 572 = .ok (.iaload, 1) := dk_46 (by decide +kernel)
theorem dX12_divide_573 : decode cX12_divide 573 = .ok (.iastore, 1) := dk_79 (by decide +kernel)
theorem dX12_divide_574 : decode cX12_divide 574 = .ok (.iinc 10 1, 3) := dk_132 (by decide +kernel)
theorem dX12_divide_577 : decode cX12_divide 577 = .ok (.goto (-31), 3) := dk_167 (by decide +kernel)
theorem dX12_divide_580 : decode cX12_divide 580 = .ok (.aload_n 0, 1) := dk_42 (by decide +kernel)
theorem dX12_divide_581 : decode cX12_divide 581 = .ok (.iload_n 1, 1) := dk_27 (by decide +kernel)
theorem dX12_divide_582 : decode cX12_divide 582 = .ok (.iload 5, 2) := dk_21 (by decide +kernel)
theorem dX12_divide_584 : decode cX12_divide 584 = .ok (.iload 7, 2) := dk_21 (by decide +kernel)
theorem dX12_divide_586 : decode cX12_divide 586 = .ok (.iload 8, 2) := dk_21 (by decide +kernel)
theorem dX12_divide_588 : decode cX12_divide 588 = .ok (.imul, 1) := dk_104 (by decide +kernel)
theorem dX12_divide_589 : decode cX12_divide 589 = .ok (.invokevirtual 361, 3) := dk_182 (by decide +kernel)
theorem dX12_divide_592 : decode cX12_divide 592 = .ok (.return_, 1) := dk_177 (by decide +kernel)
def wsRX12_divide : List Cond := .code yX12_divide cX12_divide 15 none :: ([.fieldLink RX12 7 "OptimaWorksModel" "big" "[I", .fieldLink RX12 17 "OptimaWorksModel" "rest" "[I", .fieldLink RX12 13 "OptimaWorksModel" "sum" "[J", .constant RX12 378 268435456, .fieldLink RX12 20 "OptimaWorksModel" "less" "[I", .constant RX12 373 268435455] ++ wsX120 ++ (wsV RX12 353 RX12 yX12_sign wsRX12_sign) ++ (wsV RX12 365 RX12 yX12_copy wsRX12_copy) ++ (wsV RX12 369 RX12 yX12_put wsRX12_put) ++ (wsV RX12 357 RX12 yX12_bare wsRX12_bare) ++ (wsV RX12 361 RX12 yX12_carry wsRX12_carry) ++ (wsV RX12 374 RX12 yX12_isMore wsRX12_isMore))
theorem iwsRX12_divide_in12 : ∀ w ∈ wsX120, w ∈ wsRX12_divide := fun _ h => List.mem_cons_of_mem _ (List.mem_append_left _ (List.mem_append_left _ (List.mem_append_left _ (List.mem_append_left _ (List.mem_append_left _ (List.mem_append_left _ (List.mem_append_right _ h)))))))
theorem gwsRX12_divide_0 : GoodIn wsRX12_divide (wsV RX12 353 RX12 yX12_sign wsRX12_sign) := goodIn_sub (fun _ h => List.mem_cons_of_mem _ (List.mem_append_left _ (List.mem_append_left _ (List.mem_append_left _ (List.mem_append_left _ (List.mem_append_left _ (List.mem_append_right _ h))))))) (gdV (by decide +kernel) gdwsRX12_sign)
theorem gwsRX12_divide_1 : GoodIn wsRX12_divide (wsV RX12 365 RX12 yX12_copy wsRX12_copy) := goodIn_sub (fun _ h => List.mem_cons_of_mem _ (List.mem_append_left _ (List.mem_append_left _ (List.mem_append_left _ (List.mem_append_left _ (List.mem_append_right _ h)))))) (gdV (by decide +kernel) gdwsRX12_copy)
theorem gwsRX12_divide_2 : GoodIn wsRX12_divide (wsV RX12 369 RX12 yX12_put wsRX12_put) := goodIn_sub (fun _ h => List.mem_cons_of_mem _ (List.mem_append_left _ (List.mem_append_left _ (List.mem_append_left _ (List.mem_append_right _ h))))) (gdV (by decide +kernel) gdwsRX12_put)
theorem gwsRX12_divide_3 : GoodIn wsRX12_divide (wsV RX12 357 RX12 yX12_bare wsRX12_bare) := goodIn_sub (fun _ h => List.mem_cons_of_mem _ (List.mem_append_left _ (List.mem_append_left _ (List.mem_append_right _ h)))) (gdV (by decide +kernel) gdwsRX12_bare)
theorem gwsRX12_divide_4 : GoodIn wsRX12_divide (wsV RX12 361 RX12 yX12_carry wsRX12_carry) := goodIn_sub (fun _ h => List.mem_cons_of_mem _ (List.mem_append_left _ (List.mem_append_right _ h))) (gdV (by decide +kernel) gdwsRX12_carry)
theorem gwsRX12_divide_5 : GoodIn wsRX12_divide (wsV RX12 374 RX12 yX12_isMore wsRX12_isMore) := goodIn_sub (fun _ h => List.mem_cons_of_mem _ (List.mem_append_right _ h)) (gdV (by decide +kernel) gdwsRX12_isMore)
theorem gdwsRX12_divide : wsRX12_divide.all goodWord = true := gdC rfl (gdA (gdA (gdA (gdA (gdA (gdA (gdA (by decide +kernel : ([.fieldLink RX12 7 "OptimaWorksModel" "big" "[I", .fieldLink RX12 17 "OptimaWorksModel" "rest" "[I", .fieldLink RX12 13 "OptimaWorksModel" "sum" "[J", .constant RX12 378 268435456, .fieldLink RX12 20 "OptimaWorksModel" "less" "[I", .constant RX12 373 268435455] : List Cond).all goodWord = true) gdwsX120) (gdV (by decide +kernel) gdwsRX12_sign)) (gdV (by decide +kernel) gdwsRX12_copy)) (gdV (by decide +kernel) gdwsRX12_put)) (gdV (by decide +kernel) gdwsRX12_bare)) (gdV (by decide +kernel) gdwsRX12_carry)) (gdV (by decide +kernel) gdwsRX12_isMore))
set_option maxHeartbeats 4000000 in
set_option maxRecDepth 100000 in
/-- divide(s, r, a, b) -/
theorem r_X12_divide (l : Launch) (dC : Nat → ClassId) (dI : Nat → Nat → Nat) (a : Nat → Nat) (k : Nat → ClassId) (h0 : Nat) (vi : Nat → Int32) (vj : Nat → Int64) (vF : Nat → Nat → Int32) (vG : Nat → Nat → Int64) (sn : Nat) (rn : Nat) (an : Nat) (bn : Nat) (xa : Int) (xb : Int) (hs : sn < 1100) (hrn : rn < 1100) (hsr : sn ≠ rn) (hra : rn ≠ an) (hna : an < 1100) (hnb : bn < 1100) (hxa : Nu (vF 0) an xa) (hxb : Nu (vF 0) bn xb) (hb0 : xb ≠ 0) (sz : Nat) : Met l yX12_divide wsRX12_divide ({ frames := 1, cells := 0, slots := 0, locals := 28 }) (va_Pc [.ref h0, .int (nI sn), .int (nI rn), .int (nI an), .int (nI bn)] (fun U => U.heap.size = sz ∧ va_P (dC, dI) vwCl (WR a k h0 vi vj vF vG) U.heap ∧ va_K (dC, dI) vwCl (tX12 k) U ∧ va_D (fun _ => True) (WR a k h0 vi vj vF vG))) (va_Qv (fun (u : (Nat → Int32) × (Nat → Int32) × (Nat → Int32) × (Nat → Int64)) => (Nu (u.1) sn (xa.tdiv xb)) ∧ (Nu (u.1) rn (xa.tmod xb)) ∧ (∀ q, (q < 24 * sn ∨ 24 * sn + 24 ≤ q) → (q < 24 * rn ∨ 24 * rn + 24 ≤ q) → (u.1) q = vF 0 q)) (fun (u : (Nat → Int32) × (Nat → Int32) × (Nat → Int32) × (Nat → Int64)) t => va_P (dC, dI) vwCl (WR a k h0 vi vj (fT (fT (fT vF 2 (u.2.1)) 3 (u.2.2.1)) 0 (u.1)) (fT vG 1 (u.2.2.2))) t.heap ∧ va_D (va_A (WR a k h0 vi vj vF vG) sz) (WR a k h0 vi vj (fT (fT (fT vF 2 (u.2.1)) 3 (u.2.2.1)) 0 (u.1)) (fT vG 1 (u.2.2.2)))) (va_A (WR a k h0 vi vj vF vG) sz)) 0 0 (va_A (WR a k h0 vi vj vF vG) sz) := by
  refine Met.ofW (cc := cX12_divide) (maxL := 15) (ret := none) (by decide) rfl ?_
  intro p e s m args below meth c s₁ B hml hv
  obtain ⟨rfl, hsz, hP, hK, hD0⟩ := hv
  have hx := B.exec
  have hb := B.bytes
  have hr := B.returns
  have hts := atoms_spec (ws := wsRX12_divide) B.pre
  have hown : s.vm.findClass RX12 = some m.cls := findClass_of_methodNamed B.named
  have hlocks := B.notSynchronized
  subst hsz
  have hD := hD0.self (sz := s.heap.size)
  generalize hAe : va_A (WR a k h0 vi vj vF vG) s.heap.size = A at hD ⊢
  have hA : ∀ q : Nat, s.heap.size ≤ q → A q := fun q h => by rw [← hAe]; exact Or.inr h
  have hS : va_S A s.heap s.heap [] := va_S.rf
  have hl := lv_entry ([.ref h0, .int (nI sn), .int (nI rn), .int (nI an), .int (nI bn)]) (n := 15) (Nat.le_of_ble_eq_true rfl)
  rw [lg_entry_eq]
  generalize (lg_sl ([.ref h0, .int (nI sn), .int (nI rn), .int (nI an), .int (nI bn)]) ++ List.replicate (15 - (lg_sl ([.ref h0, .int (nI sn), .int (nI rn), .int (nI an), .int (nI bn)])).length) Slot.unset).toArray = ls at hl ⊢
  have hl : lv_has ls 15 [(0, .ref h0), (1, .int (nI sn)), (2, .int (nI rn)), (3, .int (nI an)), (4, .int (nI bn))] := hl
  obtain ⟨na, hna1, hna2, hna3, hna4, hna5, hna6⟩ := id hxa
  obtain ⟨nb_, hnb1, hnb2, hnb3, hnb4, hnb5, hnb6⟩ := id hxb
  have hSA : Hid _ := sgT hna6
  have hSB : Hid _ := sgT hnb6
  clear hna6 hnb6
  obtain ⟨NA9, hNA9⟩ : ∃ NA9, xa.natAbs = NA9 := ⟨_, rfl⟩
  obtain ⟨NB9, hNB9⟩ : ∃ NB9, xb.natAbs = NB9 := ⟨_, rfl⟩
  have hNB0 : 0 < NB9 := by omega
  rw [hNA9] at hna5
  rw [hNB9] at hnb5
  have eNA : Hid (xa.natAbs = NA9) := hNA9
  have eNB : Hid (xb.natAbs = NB9) := hNB9
  have eb0 : Hid (xb ≠ 0) := hb0
  clear hNA9 hNB9 hb0
  refine lv_aload_n hx hb dX12_divide_0 rfl (lv_at hl 0 rfl) ?_
  refine va_get (D := (dC, dI)) (ci := 12) (v := .ref (a 0)) (C := RX12) (T := TX12) (N := 163) (fs := fM (vS a vi vj)) hx hb hts iwsRX12_divide_in12 hown hK hP 0 rfl rfl 1 (by decide) (hts (.fieldLink RX12 7 "OptimaWorksModel" "big" "[I") (by decide +kernel)) (fun _ h9 => h9) rfl dX12_divide_1 ?_
  refine lv_bipush (v := 24) hx hb dX12_divide_4 (by decide) ?_
  refine lv_iload_n hx hb dX12_divide_6 rfl (lv_at hl 3 rfl) ?_
  refine lv_imul hx hb dX12_divide_7 ?_
  refine lv_topi (fun y1 hy1 => ?_)
  obtain rfl : (nI (24 * an)) = y1 := (hy1.trans (pk_mul 24 an)).symm
  refine lv_iconst (v := 1) hx hb dX12_divide_8 (by decide) ?_
  refine lv_iadd hx hb dX12_divide_9 ?_
  refine lv_topi (fun y2 hy2 => ?_)
  obtain rfl : (nI ((24 * an) + 1)) = y2 := (hy2.trans (nI_add (24 * an) 1)).symm
  refine va_iald (cA := k 0) (n := 26400) (f := (vF 0)) hx hb hK hP 1 0 (WR_get 0 (by decide)) (TR_get 0 (by decide)) (vp_in_nI (show ((24 * an) + 1) < 26400 by omega) (by omega)) dX12_divide_10 ?_
  refine lv_topi (fun y3 hy3 => ?_)
  obtain rfl : ((vF 0) ((24 * an) + 1)) = y3 := (hy3.trans (by rw [nI_clamp (by omega)])).symm
  refine lv_topi (fun y4 hy4 => ?_)
  obtain rfl : (nI na) = y4 := (hy4.trans (hna2)).symm
  refine lv_istore hx hb dX12_divide_11 hl (by decide) rfl (fun ls (hl : lv_has ls _ ([(5, .int (nI na)), (0, .ref h0), (1, .int (nI sn)), (2, .int (nI rn)), (3, .int (nI an)), (4, .int (nI bn))])) => ?_)
  refine lv_aload_n hx hb dX12_divide_13 rfl (lv_at hl 1 rfl) ?_
  refine va_get (D := (dC, dI)) (ci := 12) (v := .ref (a 0)) (C := RX12) (T := TX12) (N := 163) (fs := fM (vS a vi vj)) hx hb hts iwsRX12_divide_in12 hown hK hP 0 rfl rfl 1 (by decide) (hts (.fieldLink RX12 7 "OptimaWorksModel" "big" "[I") (by decide +kernel)) (fun _ h9 => h9) rfl dX12_divide_14 ?_
  refine lv_bipush (v := 24) hx hb dX12_divide_17 (by decide) ?_
  refine lv_iload hx hb dX12_divide_19 (lv_at hl 5 rfl) ?_
  refine lv_imul hx hb dX12_divide_21 ?_
  refine lv_topi (fun y5 hy5 => ?_)
  obtain rfl : (nI (24 * bn)) = y5 := (hy5.trans (pk_mul 24 bn)).symm
  refine lv_iconst (v := 1) hx hb dX12_divide_22 (by decide) ?_
  refine lv_iadd hx hb dX12_divide_23 ?_
  refine lv_topi (fun y6 hy6 => ?_)
  obtain rfl : (nI ((24 * bn) + 1)) = y6 := (hy6.trans (nI_add (24 * bn) 1)).symm
  refine va_iald (cA := k 0) (n := 26400) (f := (vF 0)) hx hb hK hP 1 0 (WR_get 0 (by decide)) (TR_get 0 (by decide)) (vp_in_nI (show ((24 * bn) + 1) < 26400 by omega) (by omega)) dX12_divide_24 ?_
  refine lv_topi (fun y7 hy7 => ?_)
  obtain rfl : ((vF 0) ((24 * bn) + 1)) = y7 := (hy7.trans (by rw [nI_clamp (by omega)])).symm
  refine lv_topi (fun y8 hy8 => ?_)
  obtain rfl : (nI nb_) = y8 := (hy8.trans (hnb2)).symm
  refine lv_istore hx hb dX12_divide_25 hl (by decide) rfl (fun ls (hl : lv_has ls _ ([(6, .int (nI nb_)), (5, .int (nI na)), (0, .ref h0), (1, .int (nI sn)), (2, .int (nI rn)), (3, .int (nI an)), (4, .int (nI bn))])) => ?_)
  refine lv_aload_n hx hb dX12_divide_27 rfl (lv_at hl 2 rfl) ?_
  refine lv_iload_n hx hb dX12_divide_28 rfl (lv_at hl 5 rfl) ?_
  have hFc := allFree hD hS hA
  refine va_calli (va_runV (As := [.int (nI an)]) (rest := []) ⟨hx, hb, hml, hown, hts⟩ (r_X12_sign l dC dI a k h0 vi vj vF vG an (by first | with_reducible assumption | decide | omega | rfl | assumption) s.heap.size) (cwV 1 hts gwsRX12_divide_0 rfl rfl rfl hd_yX12_sign_RX12 (by decide +kernel)) (fz_pre (va_recv hK hP (ci := 12) (q0 := 0) rfl rfl) hP hK hD) rfl rfl hl.1 rfl (lv_room (Nat.le_of_ble_eq_true rfl)) dX12_divide_29 (by decide +kernel)) hS (fun q _ h => hFc q h) hFc (fun r29 u t9_ H locs ht hvm hw9 hB9 hz1 hk1 hS => ?_)
  have hP : va_P (dC, dI) vwCl (WR a k h0 vi vj vF vG) H := fz_P ht hB9.1
  have hD : va_D A (WR a k h0 vi vj vF vG) := hB9.2.weaken (fun _ q _ h => hFc q.1 h)
  obtain rfl := hw9
  refine lv_istore hx hb dX12_divide_32 hl (by decide) rfl (fun ls (hl : lv_has ls _ ([(7, .int (vF 0 (24 * an))), (6, .int (nI nb_)), (5, .int (nI na)), (0, .ref h0), (1, .int (nI sn)), (2, .int (nI rn)), (3, .int (nI an)), (4, .int (nI bn))])) => ?_)
  refine lv_aload_n hx hb dX12_divide_34 rfl (lv_at hl 3 rfl) ?_
  refine lv_iload hx hb dX12_divide_35 (lv_at hl 7 rfl) ?_
  have hFc := allFree hD hS hA
  refine va_calli (va_runV (As := [.int (nI bn)]) (rest := []) ⟨hx, hb, hml, hown, hts⟩ (r_X12_sign l dC dI a k h0 vi vj vF vG bn (by first | with_reducible assumption | decide | omega | rfl | assumption) H.size) (cwV 1 hts gwsRX12_divide_0 rfl rfl rfl hd_yX12_sign_RX12 (by decide +kernel)) (fz_pre (va_recv hK hP (ci := 12) (q0 := 0) rfl rfl) hP hK hD) rfl rfl hl.1 rfl (lv_room (Nat.le_of_ble_eq_true rfl)) dX12_divide_37 (by decide +kernel)) hS (fun q _ h => hFc q h) hFc (fun r37 u t9_ H locs ht hvm hw9 hB9 hz1 hk1 hS => ?_)
  have hP : va_P (dC, dI) vwCl (WR a k h0 vi vj vF vG) H := fz_P ht hB9.1
  have hD : va_D A (WR a k h0 vi vj vF vG) := hB9.2.weaken (fun _ q _ h => hFc q.1 h)
  obtain rfl := hw9
  refine lv_istore hx hb dX12_divide_40 hl (by decide) rfl (fun ls (hl : lv_has ls _ ([(8, .int (vF 0 (24 * bn))), (7, .int (vF 0 (24 * an))), (6, .int (nI nb_)), (5, .int (nI na)), (0, .ref h0), (1, .int (nI sn)), (2, .int (nI rn)), (3, .int (nI an)), (4, .int (nI bn))])) => ?_)
  refine lv_iload hx hb dX12_divide_42 (lv_at hl 3 rfl) ?_
  refine lv_iload hx hb dX12_divide_44 (lv_at hl 2 rfl) ?_
  refine lv_icmp_lt (tgt := 59) hx hb dX12_divide_46 (by decide) (fun c_46 => ?_) (fun c_46 => ?_)
  · have t_46 : ((na : Nat) : Int) < ((nb_ : Nat) : Int) := toI_lt c_46 (nI_toInt (by omega)) (nI_toInt (by omega))
    have hlt9 : NA9 < NB9 := by rw [hna5, hnb5]; exact lv28_few hna3 hnb3 (by rw [show 24 * bn + 2 + (nb_ - 1) = 24 * bn + 1 + nb_ by omega]; exact hnb4 (by omega)) (by omega)
    have hlt : xa.natAbs < xb.natAbs := by rw [eNA.out, eNB.out]; exact hlt9
    refine lv_aload_n hx hb dX12_divide_59 rfl (lv_at hl 4 rfl) ?_
    refine lv_iload_n hx hb dX12_divide_60 rfl (lv_at hl 6 rfl) ?_
    refine lv_iload_n hx hb dX12_divide_61 rfl (lv_at hl 7 rfl) ?_
    have hFc := allFree hD hS hA
    refine va_callv (va_runV (As := [.int (nI rn), .int (nI an)]) (rest := []) ⟨hx, hb, hml, hown, hts⟩ (r_X12_copy l dC dI a k h0 vi vj vF vG rn an na (by first | with_reducible assumption | decide | omega | rfl | assumption) (by first | with_reducible assumption | decide | omega | rfl | assumption) (by omega) (hna2) (by first | with_reducible assumption | decide | omega | rfl | assumption) H.size) (cwV 2 hts gwsRX12_divide_1 rfl rfl rfl hd_yX12_copy_RX12 (by decide +kernel)) (fz_pre (va_recv hK hP (ci := 12) (q0 := 0) rfl rfl) hP hK hD) rfl rfl hl.1 rfl (lv_room (Nat.le_of_ble_eq_true rfl)) dX12_divide_62 (by decide +kernel)) hS (fun q _ h => hFc q h) hFc (fun g62 t9_ H locs ht hvm hw9 hB9 hz1 hk1 hS => ?_)
    have hP : va_P (dC, dI) vwCl (WR a k h0 vi vj (fT vF 0 g62) vG) H := fz_P ht hB9.1
    have hD : va_D A (WR a k h0 vi vj (fT vF 0 g62) vG) := hB9.2.weaken (fun _ q _ h => hFc q.1 h)
    revert hw9
    refine fz_a2 ?_
    intro f62_0 f62_1
    have f62_0 : ∀ q, q < na + 2 → g62 (24 * rn + q) = (vF 0) (24 * an + q) := f62_0
    have f62_1 : ∀ q, (q < 24 * rn ∨ 24 * rn + 24 ≤ q) → g62 q = (vF 0) q := f62_1
    refine lv_aload_n hx hb dX12_divide_65 rfl (lv_at hl 4 rfl) ?_
    refine lv_iload_n hx hb dX12_divide_66 rfl (lv_at hl 5 rfl) ?_
    refine lv_lconst (v := 0) hx hb dX12_divide_67 (by decide) ?_
    have hFc := allFree hD hS hA
    refine va_callv (va_runV (As := [.int (nI sn), .long 0]) (rest := []) ⟨hx, hb, hml, hown, hts⟩ (r_X12_put l dC dI a k h0 vi vj (fT vF 0 g62) vG sn 0 (by first | with_reducible assumption | decide | omega | rfl | assumption) (by first | with_reducible assumption | decide | omega | rfl | assumption) H.size) (cwV 2 hts gwsRX12_divide_2 rfl rfl rfl hd_yX12_put_RX12 (by decide +kernel)) (fz_pre (va_recv hK hP (ci := 12) (q0 := 0) rfl rfl) hP hK hD) rfl rfl hl.1 rfl (lv_room (Nat.le_of_ble_eq_true rfl)) dX12_divide_68 (by decide +kernel)) hS (fun q _ h => hFc q h) hFc (fun g68 t9_ H locs ht hvm hw9 hB9 hz1 hk1 hS => ?_)
    have hP : va_P (dC, dI) vwCl (WR a k h0 vi vj (fT (fT vF 0 g62) 0 g68) vG) H := fz_P ht hB9.1
    have hD : va_D A (WR a k h0 vi vj (fT (fT vF 0 g62) 0 g68) vG) := hB9.2.weaken (fun _ q _ h => hFc q.1 h)
    have e9 : fT vF 0 g68 = fT (fT vF 0 g62) 0 g68 := (fT_sm _ _ _ _).symm
    rw [← e9] at hP hD
    clear e9
    have hP : va_P (dC, dI) vwCl (WR a k h0 vi vj (fT vF 0 g68) vG) H := hP
    have hD : va_D A (WR a k h0 vi vj (fT vF 0 g68) vG) := hD
    revert hw9
    refine fz_a2 ?_
    intro f68_0 f68_1
    have f68_1 : ∀ q, (q < 24 * sn ∨ 24 * sn + 24 ≤ q) → g68 q = g62 q := f68_1
    refine W.widen (k := 0) (n := 0) (by decide +kernel) (by decide +kernel) ?_
    have e9 : fT (fT (fT vF 2 (vF 2)) 3 (vF 3)) 0 g68 = fT vF 0 g68 := by funext q9; by_cases h9_2 : q9 = 2; (subst h9_2; exact ((fT_ne _ _ (Nat.ne_of_beq_eq_false rfl)).trans ((fT_ne _ _ (Nat.ne_of_beq_eq_false rfl)).trans (fT_eq _ _ _))).trans (Eq.trans (by first | with_reducible rfl | with_reducible assumption | (symm; with_reducible assumption) | rfl | assumption | (symm; assumption) | (subst_vars; rfl)) (fT_ne _ _ (Nat.ne_of_beq_eq_false rfl)).symm)); by_cases h9_3 : q9 = 3; (subst h9_3; exact ((fT_ne _ _ (Nat.ne_of_beq_eq_false rfl)).trans (fT_eq _ _ _)).trans (Eq.trans (by first | with_reducible rfl | with_reducible assumption | (symm; with_reducible assumption) | rfl | assumption | (symm; assumption) | (subst_vars; rfl)) (fT_ne _ _ (Nat.ne_of_beq_eq_false rfl)).symm)); by_cases h9_0 : q9 = 0; (subst h9_0; exact (fT_eq _ _ _).trans (Eq.trans (by first | with_reducible rfl | with_reducible assumption | (symm; with_reducible assumption) | rfl | assumption | (symm; assumption) | (subst_vars; rfl)) (fT_eq _ _ _).symm)); exact ((fT_ne _ _ h9_0).trans ((fT_ne _ _ h9_3).trans (fT_ne _ _ h9_2))).trans (fT_ne _ _ h9_0).symm
    have hP : va_P (dC, dI) vwCl (WR a k h0 vi vj (fT (fT (fT vF 2 (vF 2)) 3 (vF 3)) 0 g68) vG) H := by rw [e9]; exact hP
    have hD : va_D A (WR a k h0 vi vj (fT (fT (fT vF 2 (vF 2)) 3 (vF 3)) 0 g68) vG) := by rw [e9]; exact hD
    clear e9
    have e9 : fT vG 1 (vG 1) = vG := fT_id _ _ (rfl)
    have hP : va_P (dC, dI) vwCl (WR a k h0 vi vj (fT (fT (fT vF 2 (vF 2)) 3 (vF 3)) 0 g68) (fT vG 1 (vG 1))) H := by rw [e9]; exact hP
    have hD : va_D A (WR a k h0 vi vj (fT (fT (fT vF 2 (vF 2)) 3 (vF 3)) 0 g68) (fT vG 1 (vG 1))) := by rw [e9]; exact hD
    clear e9
    exact W.vret hx hb hr (fun t9_ ht hW => ⟨⟨(g68, (vF 2), (vF 3), (vG 1)), rfl, by (try dsimp only); (have e0 : (0 : Int64).toInt = 0 := by decide); rw [e0] at f68_0; exact ⟨by rw [tdiv_small hlt]; exact f68_0, by rw [tmod_small hlt]; exact (Nu.congr hxa hna2 hna1 f62_0).keep (fun q h1 h2 => f68_1 q (by omega)), fun q h1 h2 => (f68_1 q h1).trans (f62_1 q h2)⟩, by rw [ht]; exact hP, hD⟩, hS.F ht⟩) hS.2.2 dX12_divide_71
  · have t_46 : ¬ ((na : Nat) : Int) < ((nb_ : Nat) : Int) := toI_nlt c_46 (nI_toInt (by omega)) (nI_toInt (by omega))
    refine lv_aload_n hx hb dX12_divide_49 rfl (lv_at hl 4 rfl) ?_
    refine lv_iload_n hx hb dX12_divide_50 rfl (lv_at hl 7 rfl) ?_
    refine lv_iload hx hb dX12_divide_51 (lv_at hl 8 rfl) ?_
    have hFc := allFree hD hS hA
    refine va_calli (va_runV (As := [.int (nI an), .int (nI bn)]) (rest := []) ⟨hx, hb, hml, hown, hts⟩ (r_X12_bare l dC dI a k h0 vi vj vF vG an bn xa xb (by first | with_reducible assumption | decide | omega | rfl | assumption) (by first | with_reducible assumption | decide | omega | rfl | assumption) (hxa) (hxb) H.size) (cwV 2 hts gwsRX12_divide_3 rfl rfl rfl hd_yX12_bare_RX12 (by decide +kernel)) (fz_pre (va_recv hK hP (ci := 12) (q0 := 0) rfl rfl) hP hK hD) rfl rfl hl.1 rfl (lv_room (Nat.le_of_ble_eq_true rfl)) dX12_divide_53 (by decide +kernel)) hS (fun q _ h => hFc q h) hFc (fun r53 u t9_ H locs ht hvm hw9 hB9 hz1 hk1 hS => ?_)
    have hP : va_P (dC, dI) vwCl (WR a k h0 vi vj vF vG) H := fz_P ht hB9.1
    have hD : va_D A (WR a k h0 vi vj vF vG) := hB9.2.weaken (fun _ q _ h => hFc q.1 h)
    revert hw9
    refine fz_a2 ?_
    intro f53_0 f53_1
    rw [eNA.out, eNB.out] at f53_0
    refine lv_if_ge (tgt := 72) hx hb dX12_divide_56 (by decide) (fun c_56 => ?_) (fun c_56 => ?_)
    · have t_56 : (r53).toInt ≥ 0 := toI_ge c_56 rfl (by decide)
      refine lv_iconst (v := 0) hx hb dX12_divide_72 (by decide) ?_
      refine lv_istore hx hb dX12_divide_73 hl (by decide) rfl (fun ls (hl : lv_has ls _ ([(9, .int 0), (8, .int (vF 0 (24 * bn))), (7, .int (vF 0 (24 * an))), (6, .int (nI nb_)), (5, .int (nI na)), (0, .ref h0), (1, .int (nI sn)), (2, .int (nI rn)), (3, .int (nI an)), (4, .int (nI bn))])) => ?_)
      have e9 : fT vF 2 (vF 2) = vF := by funext q9; by_cases h9_2 : q9 = 2; (subst h9_2; exact (fT_eq _ _ _).trans (Eq.trans (by first | with_reducible rfl | with_reducible assumption | (symm; with_reducible assumption) | rfl | assumption | (symm; assumption) | (subst_vars; rfl)) (Eq.refl _).symm)); exact (fT_ne _ _ h9_2).trans (Eq.refl _).symm
      have hP : va_P (dC, dI) vwCl (WR a k h0 vi vj (fT vF 2 (vF 2)) vG) H := by rw [e9]; exact hP
      have hD : va_D A (WR a k h0 vi vj (fT vF 2 (vF 2)) vG) := by rw [e9]; exact hD
      clear e9
      have hl : lv_has _ _ ([(0, .ref h0), (1, .int (nI sn)), (2, .int (nI rn)), (3, .int (nI an)), (4, .int (nI bn)), (5, .int (nI na)), (6, .int (nI nb_)), (7, .int (vF 0 (24 * an))), (8, .int (vF 0 (24 * bn))), (9, .int (nI 0))]) := lv_sub hl [5, 6, 7, 8, 9, 4, 3, 2, 1, 0] rfl
      refine (fun (loop : ∀ (n9 : Nat) (i : Nat) (f2 : Nat → Int32) (H : Heap) (locs : List Loc) (ls : Array Slot), (i ≤ nb_ + 2) → (∀ q, q < i → f2 q = 0) →  (nb_ + 2 < i + n9) → va_P (dC, dI) vwCl (WR a k h0 vi vj (fT vF 2 f2) vG) H → va_D A (WR a k h0 vi vj (fT vF 2 f2) vG) → va_S A s.heap H locs → lv_has ls 15 [(0, .ref h0), (1, .int (nI sn)), (2, .int (nI rn)), (3, .int (nI an)), (4, .int (nI bn)), (5, .int (nI na)), (6, .int (nI nb_)), (7, .int (vF 0 (24 * an))), (8, .int (vF 0 (24 * bn))), (9, .int (nI i))] → W p l e _ s m _ below meth c H locs 0 0 _ (F0 m 75 ls [])) => loop (nb_ + 3) 0 (vF 2) _ _ _ (by omega) (fun q hq => absurd hq (by omega)) (by omega) hP hD hS hl) ?_
      intro n9
      induction n9 with
      | zero => intro i f2 H locs ls hi hr0 hf9; exact False.elim (by omega)
      | succ n9 ih75 =>
        intro i f2 H locs ls hi hr0 hf75 hP hD hS hl
        refine lv_iload hx hb dX12_divide_75 (lv_at hl 9 rfl) ?_
        refine lv_iload hx hb dX12_divide_77 (lv_at hl 6 rfl) ?_
        refine lv_iconst (v := 1) hx hb dX12_divide_79 (by decide) ?_
        refine lv_iadd hx hb dX12_divide_80 ?_
        refine lv_topi (fun y9 hy9 => ?_)
        obtain rfl : (nI (nb_ + 1)) = y9 := (hy9.trans (nI_add nb_ 1)).symm
        refine lv_icmp_gt (tgt := 98) hx hb dX12_divide_81 (by decide) (fun c_81 => ?_) (fun c_81 => ?_)
        · have t_81 : ((i : Nat) : Int) > (((nb_ + 1) : Nat) : Int) := toI_gt c_81 (nI_toInt (by omega)) (nI_toInt (by omega))
          refine lv_iconst (v := 0) hx hb dX12_divide_98 (by decide) ?_
          refine lv_istore hx hb dX12_divide_99 hl (by decide) rfl (fun ls (hl : lv_has ls _ ([(9, .int 0), (0, .ref h0), (1, .int (nI sn)), (2, .int (nI rn)), (3, .int (nI an)), (4, .int (nI bn)), (5, .int (nI na)), (6, .int (nI nb_)), (7, .int (vF 0 (24 * an))), (8, .int (vF 0 (24 * bn)))])) => ?_)
          have e9 : fT vG 1 (vG 1) = vG := by funext q9; by_cases h9_1 : q9 = 1; (subst h9_1; exact (fT_eq _ _ _).trans (Eq.trans (by first | with_reducible rfl | with_reducible assumption | (symm; with_reducible assumption) | rfl | assumption | (symm; assumption) | (subst_vars; rfl)) (Eq.refl _).symm)); exact (fT_ne _ _ h9_1).trans (Eq.refl _).symm
          have hP : va_P (dC, dI) vwCl (WR a k h0 vi vj (fT vF 2 f2) (fT vG 1 (vG 1))) H := by rw [e9]; exact hP
          have hD : va_D A (WR a k h0 vi vj (fT vF 2 f2) (fT vG 1 (vG 1))) := by rw [e9]; exact hD
          clear e9
          have hl : lv_has _ _ ([(0, .ref h0), (1, .int (nI sn)), (2, .int (nI rn)), (3, .int (nI an)), (4, .int (nI bn)), (5, .int (nI na)), (6, .int (nI nb_)), (7, .int (vF 0 (24 * an))), (8, .int (vF 0 (24 * bn))), (9, .int (nI 0))]) := lv_sub hl [1, 2, 3, 4, 5, 6, 7, 8, 9, 0] rfl
          refine (fun (loop : ∀ (n9 : Nat) (i : Nat) (gs1 : Nat → Int64) (H : Heap) (locs : List Loc) (ls : Array Slot), (i ≤ na) → (∀ q, q < i → gs1 q = 0) →  (na < i + n9) → va_P (dC, dI) vwCl (WR a k h0 vi vj (fT vF 2 f2) (fT vG 1 gs1)) H → va_D A (WR a k h0 vi vj (fT vF 2 f2) (fT vG 1 gs1)) → va_S A s.heap H locs → lv_has ls 15 [(0, .ref h0), (1, .int (nI sn)), (2, .int (nI rn)), (3, .int (nI an)), (4, .int (nI bn)), (5, .int (nI na)), (6, .int (nI nb_)), (7, .int (vF 0 (24 * an))), (8, .int (vF 0 (24 * bn))), (9, .int (nI i))] → W p l e _ s m _ below meth c H locs 0 0 _ (F0 m 101 ls [])) => loop (na + 1) 0 (vG 1) _ _ _ (by omega) (fun q hq => absurd hq (by omega)) (by omega) hP hD hS hl) ?_
          intro n9
          induction n9 with
          | zero => intro i gs1 H locs ls hi2 hzs hf9; exact False.elim (by omega)
          | succ n9 ih101_1 =>
            intro i gs1 H locs ls hi2 hzs hf101_1 hP hD hS hl
            refine lv_iload hx hb dX12_divide_101 (lv_at hl 9 rfl) ?_
            refine lv_iload hx hb dX12_divide_103 (lv_at hl 5 rfl) ?_
            refine lv_icmp_ge (tgt := 122) hx hb dX12_divide_105 (by decide) (fun c_105 => ?_) (fun c_105 => ?_)
            · have t_105 : ((i : Nat) : Int) ≥ ((na : Nat) : Int) := toI_ge c_105 (nI_toInt (by omega)) (nI_toInt (by omega))
              refine lv_iconst (v := 0) hx hb dX12_divide_122 (by decide) ?_
              refine lv_istore hx hb dX12_divide_123 hl (by decide) rfl (fun ls (hl : lv_has ls _ ([(9, .int 0), (0, .ref h0), (1, .int (nI sn)), (2, .int (nI rn)), (3, .int (nI an)), (4, .int (nI bn)), (5, .int (nI na)), (6, .int (nI nb_)), (7, .int (vF 0 (24 * an))), (8, .int (vF 0 (24 * bn)))])) => ?_)
              have e9 : fT (fT vF 2 f2) 3 (vF 3) = fT vF 2 f2 := by funext q9; by_cases h9_2 : q9 = 2; (subst h9_2; exact ((fT_ne _ _ (Nat.ne_of_beq_eq_false rfl)).trans (fT_eq _ _ _)).trans (Eq.trans (by first | with_reducible rfl | with_reducible assumption | (symm; with_reducible assumption) | rfl | assumption | (symm; assumption) | (subst_vars; rfl)) (fT_eq _ _ _).symm)); by_cases h9_3 : q9 = 3; (subst h9_3; exact (fT_eq _ _ _).trans (Eq.trans (by first | with_reducible rfl | with_reducible assumption | (symm; with_reducible assumption) | rfl | assumption | (symm; assumption) | (subst_vars; rfl)) (fT_ne _ _ (Nat.ne_of_beq_eq_false rfl)).symm)); exact ((fT_ne _ _ h9_3).trans (fT_ne _ _ h9_2)).trans (fT_ne _ _ h9_2).symm
              have hP : va_P (dC, dI) vwCl (WR a k h0 vi vj (fT (fT vF 2 f2) 3 (vF 3)) (fT vG 1 gs1)) H := by rw [e9]; exact hP
              have hD : va_D A (WR a k h0 vi vj (fT (fT vF 2 f2) 3 (vF 3)) (fT vG 1 gs1)) := by rw [e9]; exact hD
              clear e9
              have hl : lv_has _ _ ([(0, .ref h0), (1, .int (nI sn)), (2, .int (nI rn)), (3, .int (nI an)), (4, .int (nI bn)), (5, .int (nI na)), (6, .int (nI nb_)), (7, .int (vF 0 (24 * an))), (8, .int (vF 0 (24 * bn))), (9, .int (nI 0))]) := lv_sub hl [1, 2, 3, 4, 5, 6, 7, 8, 9, 0] rfl
              refine (fun (loop : ∀ (n9 : Nat) (i3 : Nat) (f3 : Nat → Int32) (H : Heap) (locs : List Loc) (ls : Array Slot), (i3 ≤ nb_) → (∀ q, q < i3 → f3 q = vF 0 (24 * bn + 2 + q)) →  (nb_ < i3 + n9) → va_P (dC, dI) vwCl (WR a k h0 vi vj (fT (fT vF 2 f2) 3 f3) (fT vG 1 gs1)) H → va_D A (WR a k h0 vi vj (fT (fT vF 2 f2) 3 f3) (fT vG 1 gs1)) → va_S A s.heap H locs → lv_has ls 15 [(0, .ref h0), (1, .int (nI sn)), (2, .int (nI rn)), (3, .int (nI an)), (4, .int (nI bn)), (5, .int (nI na)), (6, .int (nI nb_)), (7, .int (vF 0 (24 * an))), (8, .int (vF 0 (24 * bn))), (9, .int (nI i3))] → W p l e _ s m _ below meth c H locs 0 0 _ (F0 m 125 ls [])) => loop (nb_ + 1) 0 (vF 3) _ _ _ (by omega) (fun q hq => absurd hq (by omega)) (by omega) hP hD hS hl) ?_
              intro n9
              induction n9 with
              | zero => intro i3 f3 H locs ls hi3 hl3 hf9; exact False.elim (by omega)
              | succ n9 ih125_2 =>
                intro i3 f3 H locs ls hi3 hl3 hf125_2 hP hD hS hl
                refine lv_iload hx hb dX12_divide_125 (lv_at hl 9 rfl) ?_
                refine lv_iload hx hb dX12_divide_127 (lv_at hl 6 rfl) ?_
                refine lv_icmp_ge (tgt := 160) hx hb dX12_divide_129 (by decide) (fun c_129 => ?_) (fun c_129 => ?_)
                · have t_129 : ((i3 : Nat) : Int) ≥ ((nb_ : Nat) : Int) := toI_ge c_129 (nI_toInt (by omega)) (nI_toInt (by omega))
                  have hge : NB9 ≤ NA9 := by omega
                  have hnb0 : 0 < nb_ := by rcases Nat.eq_zero_or_pos nb_ with h9 | h9; (rw [h9] at hnb5; simp [lv28] at hnb5; omega); exact h9
                  have hAb : Hid (NA9 < 2 ^ 616) := by show NA9 < 2 ^ 616; rw [hna5]; exact abs616 hna3 hna1
                  clear f53_0 f53_1
                  refine lv_iload hx hb dX12_divide_160 (lv_at hl 6 rfl) ?_
                  refine lv_iconst (v := 1) hx hb dX12_divide_162 (by decide) ?_
                  refine lv_icmp_ne (tgt := 269) hx hb dX12_divide_163 (by decide) (fun c_163 => ?_) (fun c_163 => ?_)
                  · have t_163 : ((nb_ : Nat) : Int) ≠ 1 := toI_ne c_163 (nI_toInt (by omega)) (by decide)
                    have hl3m : Lm f3 0 nb_ := fun q hq => by rw [Nat.zero_add, hl3 q (by omega)]; exact hnb3 q hq
                    have hlB : lv28 f3 0 nb_ = NB9 := by rw [hnb5]; exact lv28_congr (fun q hq => by rw [Nat.zero_add]; exact hl3 q (by omega))
                    have hBP : NB9 < 2 ^ (28 * nb_) := by rw [← hlB]; exact lv28_lt hl3m
                    have hr00 : lv28 f2 0 (nb_ + 1) = 0 := lv28_zero (fun q hq => by rw [Nat.zero_add]; exact hr0 q (by omega))
                    refine lv_iload hx hb dX12_divide_269 (lv_at hl 5 rfl) ?_
                    refine lv_iconst (v := 1) hx hb dX12_divide_271 (by decide) ?_
                    refine lv_isub hx hb dX12_divide_272 ?_
                    refine lv_istore hx hb dX12_divide_273 hl (by decide) rfl (fun ls (hl : lv_has ls _ ([(9, .int ((nI na) - 1)), (0, .ref h0), (1, .int (nI sn)), (2, .int (nI rn)), (3, .int (nI an)), (4, .int (nI bn)), (5, .int (nI na)), (6, .int (nI nb_)), (7, .int (vF 0 (24 * an))), (8, .int (vF 0 (24 * bn)))])) => ?_)
                    have hl : lv_has _ _ ([(0, .ref h0), (1, .int (nI sn)), (2, .int (nI rn)), (3, .int (nI an)), (4, .int (nI bn)), (5, .int (nI na)), (6, .int (nI nb_)), (7, .int (vF 0 (24 * an))), (8, .int (vF 0 (24 * bn))), (9, .int ((nI na) - 1))]) := lv_sub hl [1, 2, 3, 4, 5, 6, 7, 8, 9, 0] rfl
                    refine (fun (loop : ∀ (n9 : Nat) (kq : Int32) (kk1 : Nat) (QQ : Nat) (fr : Nat → Int32) (gs3 : Nat → Int64) (H : Heap) (locs : List Loc) (ls : Array Slot), ((kq).toInt = (kk1 : Int) - 1) → (kk1 ≤ na) → (Lm fr 0 (nb_ + 1)) → (lv28 fr 0 (nb_ + 1) < NB9) → (lv28 (vF 0) (24 * an + 2) na / 2 ^ (28 * kk1) = QQ * NB9 + lv28 fr 0 (nb_ + 1)) → (∀ q, q < kk1 → gs3 q = 0) → (∀ q, q < na → 0 ≤ (gs3 q).toInt ∧ (gs3 q).toInt < 268435456) → (sv28 gs3 na = ((QQ * 2 ^ (28 * kk1) : Nat) : Int)) →  (kk1 < n9) → va_P (dC, dI) vwCl (WR a k h0 vi vj (fT (fT vF 2 fr) 3 f3) (fT vG 1 gs3)) H → va_D A (WR a k h0 vi vj (fT (fT vF 2 fr) 3 f3) (fT vG 1 gs3)) → va_S A s.heap H locs → lv_has ls 15 [(0, .ref h0), (1, .int (nI sn)), (2, .int (nI rn)), (3, .int (nI an)), (4, .int (nI bn)), (5, .int (nI na)), (6, .int (nI nb_)), (7, .int (vF 0 (24 * an))), (8, .int (vF 0 (24 * bn))), (9, .int kq)] → W p l e _ s m _ below meth c H locs 0 0 _ (F0 m 275 ls [])) => loop (na + 1) ((nI na) - 1) na 0 f2 gs1 _ _ _ (by exact pk_sub_toInt (a := na) (b := 1) (by omega) (by omega)) (by omega) (fun q hq => ⟨0, by omega, by rw [Nat.zero_add]; exact hr0 q (by omega)⟩) (by rw [hr00]; omega) (by rw [Nat.div_eq_of_lt (lv28_lt hna3), hr00]; simp) (fun q hq => hzs q (by omega)) (fun q hq => by rw [hzs q (by omega)]; decide) (by rw [sv28_zero (fun q hq => hzs q (by omega))]; simp) (by omega) hP hD hS hl) ?_
                    intro n9
                    induction n9 with
                    | zero => intro kq kk1 QQ fr gs3 H locs ls hkq hkn hlr hRB hQ hz3 hent hsv hf9; exact False.elim (by omega)
                    | succ n9 ih275_3 =>
                      intro kq kk1 QQ fr gs3 H locs ls hkq hkn hlr hRB hQ hz3 hent hsv hf275_3 hP hD hS hl
                      refine lv_iload hx hb dX12_divide_275 (lv_at hl 9 rfl) ?_
                      refine lv_if_lt (tgt := 483) hx hb dX12_divide_277 (by decide) (fun c_277 => ?_) (fun c_277 => ?_)
                      · have t_277 : (kq).toInt < 0 := toI_lt c_277 rfl (by decide)
                        have hk0 : kk1 = 0 := by omega
                        rw [hk0] at hQ hsv
                        simp only [Nat.mul_zero, Nat.pow_zero, Nat.div_one, Nat.mul_one] at hQ hsv
                        obtain ⟨hQ1, hR1⟩ := divQ (A := NA9) (B := NB9) (by rw [hna5]; exact hQ) hRB
                        have hrt := lv28_top0 (f := fr) (n := nb_) (by omega) hlr
                        refine lv_iload hx hb dX12_divide_483 (lv_at hl 6 rfl) ?_
                        refine lv_istore hx hb dX12_divide_485 hl (by decide) rfl (fun ls (hl : lv_has ls _ ([(9, .int (nI nb_)), (0, .ref h0), (1, .int (nI sn)), (2, .int (nI rn)), (3, .int (nI an)), (4, .int (nI bn)), (5, .int (nI na)), (6, .int (nI nb_)), (7, .int (vF 0 (24 * an))), (8, .int (vF 0 (24 * bn)))])) => ?_)
                        have hl : lv_has _ _ ([(0, .ref h0), (1, .int (nI sn)), (2, .int (nI rn)), (3, .int (nI an)), (4, .int (nI bn)), (5, .int (nI na)), (6, .int (nI nb_)), (7, .int (vF 0 (24 * an))), (8, .int (vF 0 (24 * bn))), (9, .int (nI nb_))]) := lv_sub hl [1, 2, 3, 4, 5, 6, 7, 8, 9, 0] rfl
                        refine (fun (loop : ∀ (n9 : Nat) (mm : Nat) (H : Heap) (locs : List Loc) (ls : Array Slot), (mm ≤ nb_) → (lv28 fr 0 mm = lv28 fr 0 (nb_ + 1)) →  (mm < n9) → va_P (dC, dI) vwCl (WR a k h0 vi vj (fT (fT vF 2 fr) 3 f3) (fT vG 1 gs3)) H → va_D A (WR a k h0 vi vj (fT (fT vF 2 fr) 3 f3) (fT vG 1 gs3)) → va_S A s.heap H locs → lv_has ls 15 [(0, .ref h0), (1, .int (nI sn)), (2, .int (nI rn)), (3, .int (nI an)), (4, .int (nI bn)), (5, .int (nI na)), (6, .int (nI nb_)), (7, .int (vF 0 (24 * an))), (8, .int (vF 0 (24 * bn))), (9, .int (nI mm))] → W p l e _ s m _ below meth c H locs 0 0 _ (F0 m 487 ls [])) => loop (nb_ + 1) nb_ _ _ _ (by omega) ((lv28_skip0 hrt).symm) (by omega) hP hD hS hl) ?_
                        intro n9
                        induction n9 with
                        | zero => intro mm H locs ls hmm hmv hf9; exact False.elim (by omega)
                        | succ n9 ih487_4 =>
                          intro mm H locs ls hmm hmv hf487_4 hP hD hS hl
                          refine lv_iload hx hb dX12_divide_487 (lv_at hl 9 rfl) ?_
                          refine lv_if_le (tgt := 510) hx hb dX12_divide_489 (by decide) (fun c_489 => ?_) (fun c_489 => ?_)
                          · have t_489 : ((mm : Nat) : Int) ≤ 0 := toI_le c_489 (nI_toInt (by omega)) (by decide)
                            refine lv_aload_n hx hb dX12_divide_510 rfl (lv_at hl 0 rfl) ?_
                            refine va_get (D := (dC, dI)) (ci := 12) (v := .ref (a 0)) (C := RX12) (T := TX12) (N := 163) (fs := fM (vS a vi vj)) hx hb hts iwsRX12_divide_in12 hown hK hP 0 rfl rfl 1 (by decide) (hts (.fieldLink RX12 7 "OptimaWorksModel" "big" "[I") (by decide +kernel)) (fun _ h9 => h9) rfl dX12_divide_511 ?_
                            refine lv_bipush (v := 24) hx hb dX12_divide_514 (by decide) ?_
                            refine lv_iload_n hx hb dX12_divide_516 rfl (lv_at hl 2 rfl) ?_
                            refine lv_imul hx hb dX12_divide_517 ?_
                            refine lv_topi (fun y10 hy10 => ?_)
                            obtain rfl : (nI (24 * rn)) = y10 := (hy10.trans (pk_mul 24 rn)).symm
                            refine lv_iload hx hb dX12_divide_518 (lv_at hl 9 rfl) ?_
                            refine lv_if_ne (tgt := 527) hx hb dX12_divide_520 (by decide) (fun c9 => False.elim (by have t9 : ((mm : Nat) : Int) ≠ 0 := toI_ne c9 (nI_toInt (by omega)) (by decide); omega)) (fun c_520 => ?_)
                            have t_520 : ((mm : Nat) : Int) = 0 := toI_nne c_520 (nI_toInt (by omega)) (by decide)
                            refine lv_iconst (v := 0) hx hb dX12_divide_523 (by decide) ?_
                            refine lv_goto (tgt := 529) hx hb dX12_divide_524 (by decide) ?_
                            refine va_iast (cA := k 0) (n := 26400) (f := (vF 0)) hx hb hK hP hD hS 1 0 (WR_get 0 (by decide)) (TR_get 0 (by decide)) (vp_in_nI (show (24 * rn) < 26400 by omega) (by omega)) dX12_divide_529 (fun H locs hP hD hS => ?_)
                            have hP : va_P (dC, dI) vwCl (WR a k h0 vi vj (fT (fT (fT vF 2 fr) 3 f3) 0 (upd (vF 0) ((nI (24 * rn))).toNatClampNeg 0)) (fT vG 1 gs3)) H := by rw [← WR_F 0 (by decide) _ rfl]; exact hP
                            have hD : va_D A (WR a k h0 vi vj (fT (fT (fT vF 2 fr) 3 f3) 0 (upd (vF 0) ((nI (24 * rn))).toNatClampNeg 0)) (fT vG 1 gs3)) := by rw [← WR_F 0 (by decide) _ rfl]; exact hD
                            refine lv_aload_n hx hb dX12_divide_530 rfl (lv_at hl 0 rfl) ?_
                            refine va_get (D := (dC, dI)) (ci := 12) (v := .ref (a 0)) (C := RX12) (T := TX12) (N := 163) (fs := fM (vS a vi vj)) hx hb hts iwsRX12_divide_in12 hown hK hP 0 rfl rfl 1 (by decide) (hts (.fieldLink RX12 7 "OptimaWorksModel" "big" "[I") (by decide +kernel)) (fun _ h9 => h9) rfl dX12_divide_531 ?_
                            refine lv_bipush (v := 24) hx hb dX12_divide_534 (by decide) ?_
                            refine lv_iload_n hx hb dX12_divide_536 rfl (lv_at hl 2 rfl) ?_
                            refine lv_imul hx hb dX12_divide_537 ?_
                            refine lv_topi (fun y11 hy11 => ?_)
                            obtain rfl : (nI (24 * rn)) = y11 := (hy11.trans (pk_mul 24 rn)).symm
                            refine lv_iconst (v := 1) hx hb dX12_divide_538 (by decide) ?_
                            refine lv_iadd hx hb dX12_divide_539 ?_
                            refine lv_topi (fun y12 hy12 => ?_)
                            obtain rfl : (nI ((24 * rn) + 1)) = y12 := (hy12.trans (nI_add (24 * rn) 1)).symm
                            refine lv_iload hx hb dX12_divide_540 (lv_at hl 9 rfl) ?_
                            refine va_iast (cA := k 0) (n := 26400) (f := (upd (vF 0) ((nI (24 * rn))).toNatClampNeg 0)) hx hb hK hP hD hS 1 0 (WR_get 0 (by decide)) (TR_get 0 (by decide)) (vp_in_nI (show ((24 * rn) + 1) < 26400 by omega) (by omega)) dX12_divide_542 (fun H locs hP hD hS => ?_)
                            have e9 : fT (fT (fT vF 2 fr) 3 f3) 0 (upd (upd (vF 0) ((nI (24 * rn))).toNatClampNeg 0) ((nI ((24 * rn) + 1))).toNatClampNeg (nI mm)) = fT (fT (fT (fT vF 2 fr) 3 f3) 0 (upd (vF 0) ((nI (24 * rn))).toNatClampNeg 0)) 0 (upd (upd (vF 0) ((nI (24 * rn))).toNatClampNeg 0) ((nI ((24 * rn) + 1))).toNatClampNeg (nI mm)) := (fT_sm _ _ _ _).symm
                            have hP : va_P (dC, dI) vwCl (WR a k h0 vi vj (fT (fT (fT vF 2 fr) 3 f3) 0 (upd (upd (vF 0) ((nI (24 * rn))).toNatClampNeg 0) ((nI ((24 * rn) + 1))).toNatClampNeg (nI mm))) (fT vG 1 gs3)) H := by rw [e9, ← WR_F 0 (by decide) _ rfl]; exact hP
                            have hD : va_D A (WR a k h0 vi vj (fT (fT (fT vF 2 fr) 3 f3) 0 (upd (upd (vF 0) ((nI (24 * rn))).toNatClampNeg 0) ((nI ((24 * rn) + 1))).toNatClampNeg (nI mm))) (fT vG 1 gs3)) := by rw [e9, ← WR_F 0 (by decide) _ rfl]; exact hD
                            clear e9
                            refine lv_iconst (v := 0) hx hb dX12_divide_543 (by decide) ?_
                            refine lv_istore hx hb dX12_divide_544 hl (by decide) rfl (fun ls (hl : lv_has ls _ ([(10, .int 0), (0, .ref h0), (1, .int (nI sn)), (2, .int (nI rn)), (3, .int (nI an)), (4, .int (nI bn)), (5, .int (nI na)), (6, .int (nI nb_)), (7, .int (vF 0 (24 * an))), (8, .int (vF 0 (24 * bn))), (9, .int (nI mm))])) => ?_)
                            have hl : lv_has _ _ ([(0, .ref h0), (1, .int (nI sn)), (2, .int (nI rn)), (3, .int (nI an)), (4, .int (nI bn)), (5, .int (nI na)), (6, .int (nI nb_)), (7, .int (vF 0 (24 * an))), (8, .int (vF 0 (24 * bn))), (9, .int (nI mm)), (10, .int (nI 0))]) := lv_sub hl [1, 2, 3, 4, 5, 6, 7, 8, 9, 10, 0] rfl
                            refine (fun (loop : ∀ (n9 : Nat) (i : Nat) (g5 : Nat → Int32) (H : Heap) (locs : List Loc) (ls : Array Slot), (i ≤ mm) → (∀ q, q < i → g5 (24 * rn + 2 + q) = fr q) → (g5 (24 * rn + 1) = nI mm) → ((mm = 0 ∧ g5 (24 * rn) = 0) ∨ (0 < mm ∧ g5 (24 * rn) = (vF 0 (24 * an)))) → (∀ q, (q < 24 * rn ∨ 24 * rn + 24 ≤ q) → g5 q = vF 0 q) →  (mm < i + n9) → va_P (dC, dI) vwCl (WR a k h0 vi vj (fT (fT (fT vF 2 fr) 3 f3) 0 g5) (fT vG 1 gs3)) H → va_D A (WR a k h0 vi vj (fT (fT (fT vF 2 fr) 3 f3) 0 g5) (fT vG 1 gs3)) → va_S A s.heap H locs → lv_has ls 15 [(0, .ref h0), (1, .int (nI sn)), (2, .int (nI rn)), (3, .int (nI an)), (4, .int (nI bn)), (5, .int (nI na)), (6, .int (nI nb_)), (7, .int (vF 0 (24 * an))), (8, .int (vF 0 (24 * bn))), (9, .int (nI mm)), (10, .int (nI i))] → W p l e _ s m _ below meth c H locs 0 0 _ (F0 m 546 ls [])) => loop (mm + 1) 0 (upd (upd (vF 0) ((nI (24 * rn))).toNatClampNeg 0) ((nI ((24 * rn) + 1))).toNatClampNeg (nI mm)) _ _ _ (by omega) (fun q hq => absurd hq (by omega)) (by rw [upd_at (by omega), if_pos rfl]) (by rw [upd_at (by omega), if_neg (by omega), upd_at (by omega), if_pos rfl]; first | exact Or.inl ⟨by omega, rfl⟩ | exact Or.inr ⟨by omega, rfl⟩) (fun q hq => by rw [upd_at (by omega), if_neg (by omega), upd_at (by omega), if_neg (by omega)]) (by omega) hP hD hS hl) ?_
                            intro n9
                            induction n9 with
                            | zero => intro i g5 H locs ls hi hcp hg1 hg0 hgo hf9; exact False.elim (by omega)
                            | succ n9 ih546_5 =>
                              intro i g5 H locs ls hi hcp hg1 hg0 hgo hf546_5 hP hD hS hl
                              refine lv_iload hx hb dX12_divide_546 (lv_at hl 10 rfl) ?_
                              refine lv_iload hx hb dX12_divide_548 (lv_at hl 9 rfl) ?_
                              refine lv_icmp_ge (tgt := 580) hx hb dX12_divide_550 (by decide) (fun c_550 => ?_) (fun c_550 => ?_)
                              · have t_550 : ((i : Nat) : Int) ≥ ((mm : Nat) : Int) := toI_ge c_550 (nI_toInt (by omega)) (nI_toInt (by omega))
                                refine lv_aload_n hx hb dX12_divide_580 rfl (lv_at hl 0 rfl) ?_
                                refine lv_iload_n hx hb dX12_divide_581 rfl (lv_at hl 1 rfl) ?_
                                refine lv_iload hx hb dX12_divide_582 (lv_at hl 5 rfl) ?_
                                refine lv_iload hx hb dX12_divide_584 (lv_at hl 7 rfl) ?_
                                refine lv_iload hx hb dX12_divide_586 (lv_at hl 8 rfl) ?_
                                refine lv_imul hx hb dX12_divide_588 ?_
                                have hFc := allFree hD hS hA
                                refine va_callv (va_runV (As := [.int (nI sn), .int (nI na), .int ((vF 0 (24 * an)) * (vF 0 (24 * bn)))]) (rest := []) ⟨hx, hb, hml, hown, hts⟩ (r_X12_carry l dC dI a k h0 vi vj (fT (fT (fT vF 2 fr) 3 f3) 0 g5) (fT vG 1 gs3) sn na ((vF 0 (24 * an)) * (vF 0 (24 * bn))) (NA9 / NB9) (if xa * xb < 0 then -1 else 1) (by first | with_reducible assumption | decide | omega | rfl | assumption) (by first | with_reducible assumption | decide | omega | rfl | assumption) (fun q hq => by have := hent q hq; show -1152921504606846976 ≤ (gs3 q).toInt ∧ (gs3 q).toInt ≤ 1152921504606846976; omega) (by show sv28 gs3 na = _; rw [hsv, hQ1]) (Nat.lt_of_le_of_lt (Nat.div_le_self _ _) hAb.out) (fun h9 => sgProd hSA.out hSB.out (by rw [eNA.out, eNB.out]; exact Nat.mul_pos (by omega) (by omega))) H.size) (cwV 3 hts gwsRX12_divide_4 rfl rfl rfl hd_yX12_carry_RX12 (by decide +kernel)) (fz_pre (va_recv hK hP (ci := 12) (q0 := 0) rfl rfl) hP hK hD) rfl rfl hl.1 rfl (lv_room (Nat.le_of_ble_eq_true rfl)) dX12_divide_589 (by decide +kernel)) hS (fun q _ h => hFc q h) hFc (fun g589 t9_ H locs ht hvm hw9 hB9 hz1 hk1 hS => ?_)
                                have hP : va_P (dC, dI) vwCl (WR a k h0 vi vj (fT (fT (fT (fT vF 2 fr) 3 f3) 0 g5) 0 g589) (fT vG 1 gs3)) H := fz_P ht hB9.1
                                have hD : va_D A (WR a k h0 vi vj (fT (fT (fT (fT vF 2 fr) 3 f3) 0 g5) 0 g589) (fT vG 1 gs3)) := hB9.2.weaken (fun _ q _ h => hFc q.1 h)
                                have e9 : fT (fT (fT vF 2 fr) 3 f3) 0 g589 = fT (fT (fT (fT vF 2 fr) 3 f3) 0 g5) 0 g589 := (fT_sm _ _ _ _).symm
                                rw [← e9] at hP hD
                                clear e9
                                have hP : va_P (dC, dI) vwCl (WR a k h0 vi vj (fT (fT (fT vF 2 fr) 3 f3) 0 g589) (fT vG 1 gs3)) H := hP
                                have hD : va_D A (WR a k h0 vi vj (fT (fT (fT vF 2 fr) 3 f3) 0 g589) (fT vG 1 gs3)) := hD
                                revert hw9
                                refine fz_a2 ?_
                                intro f589_0 f589_1
                                have f589_1 : ∀ q, (q < 24 * sn ∨ 24 * sn + 24 ≤ q) → g589 q = g5 q := f589_1
                                refine W.widen (k := 0) (n := 0) (by decide +kernel) (by decide +kernel) ?_
                                exact W.vret hx hb hr (fun t9_ ht hW => ⟨⟨(g589, fr, f3, gs3), rfl, by (try dsimp only); (have e1 := tdivE (x := xa) (y := xb) eb0.out); (have e2 := tmodE (x := xa) (y := xb)); (have sa := hSA.out); (have sb := hSB.out); (have za : xa ≠ 0 := by (have q9 : xa.natAbs = NA9 := eNA.out); omega); rw [eNA.out, eNB.out] at e1 e2; rw [hR1, ← hmv] at e2; rw [e1] at f589_0; (have hN : Nu g5 rn (xa.tmod xb) := by rw [← e2]; exact nu_of (qs := (vF 0 (24 * an))) (by omega) hg1 (fun q hq => by rw [hcp q (by omega)]; exact limb0N hlr (by omega)) (fun h9 => by rw [show 24 * rn + 1 + mm = 24 * rn + 2 + (mm - 1) by omega, hcp (mm - 1) (by omega)]; exact absurd h9 (by omega)) (lv28_congr (fun q hq => by rw [hcp q (by omega), Nat.zero_add])) hg0 (by split <;> first | exact Or.inr ⟨rfl, ofm1 (by omega)⟩ | exact Or.inl ⟨rfl, of1 (by omega)⟩)); exact ⟨f589_0, hN.keep (fun q h1 h2 => f589_1 q (by omega)), fun q h1 h2 => (f589_1 q h1).trans (hgo q h2)⟩, by rw [ht]; exact hP, hD⟩, hS.F ht⟩) hS.2.2 dX12_divide_592
                              · have t_550 : ¬ ((i : Nat) : Int) ≥ ((mm : Nat) : Int) := toI_nge c_550 (nI_toInt (by omega)) (nI_toInt (by omega))
                                refine lv_aload_n hx hb dX12_divide_553 rfl (lv_at hl 0 rfl) ?_
                                refine va_get (D := (dC, dI)) (ci := 12) (v := .ref (a 0)) (C := RX12) (T := TX12) (N := 163) (fs := fM (vS a vi vj)) hx hb hts iwsRX12_divide_in12 hown hK hP 0 rfl rfl 1 (by decide) (hts (.fieldLink RX12 7 "OptimaWorksModel" "big" "[I") (by decide +kernel)) (fun _ h9 => h9) rfl dX12_divide_554 ?_
                                refine lv_bipush (v := 24) hx hb dX12_divide_557 (by decide) ?_
                                refine lv_iload_n hx hb dX12_divide_559 rfl (lv_at hl 2 rfl) ?_
                                refine lv_imul hx hb dX12_divide_560 ?_
                                refine lv_topi (fun y13 hy13 => ?_)
                                obtain rfl : (nI (24 * rn)) = y13 := (hy13.trans (pk_mul 24 rn)).symm
                                refine lv_iconst (v := 2) hx hb dX12_divide_561 (by decide) ?_
                                refine lv_iadd hx hb dX12_divide_562 ?_
                                refine lv_topi (fun y14 hy14 => ?_)
                                obtain rfl : (nI ((24 * rn) + 2)) = y14 := (hy14.trans (nI_add (24 * rn) 2)).symm
                                refine lv_iload hx hb dX12_divide_563 (lv_at hl 10 rfl) ?_
                                refine lv_iadd hx hb dX12_divide_565 ?_
                                refine lv_topi (fun y15 hy15 => ?_)
                                obtain rfl : (nI (((24 * rn) + 2) + i)) = y15 := (hy15.trans (nI_add ((24 * rn) + 2) i)).symm
                                refine lv_aload_n hx hb dX12_divide_566 rfl (lv_at hl 0 rfl) ?_
                                refine va_get (D := (dC, dI)) (ci := 12) (v := .ref (a 2)) (C := RX12) (T := TX12) (N := 163) (fs := fM (vS a vi vj)) hx hb hts iwsRX12_divide_in12 hown hK hP 0 rfl rfl 3 (by decide) (hts (.fieldLink RX12 17 "OptimaWorksModel" "rest" "[I") (by decide +kernel)) (fun _ h9 => h9) rfl dX12_divide_567 ?_
                                refine lv_iload hx hb dX12_divide_570 (lv_at hl 10 rfl) ?_
                                refine va_iald (cA := k 2) (n := 60) (f := fr) hx hb hK hP 3 2 (WR_get 2 (by decide)) (TR_get 2 (by decide)) (vp_in_nI (show i < 60 by omega) (by omega)) dX12_divide_572 ?_
                                refine lv_topi (fun y16 hy16 => ?_)
                                obtain rfl : (fr i) = y16 := (hy16.trans (by rw [nI_clamp (by omega)])).symm
                                refine va_iast (cA := k 0) (n := 26400) (f := g5) hx hb hK hP hD hS 1 0 (WR_get 0 (by decide)) (TR_get 0 (by decide)) (vp_in_nI (show (((24 * rn) + 2) + i) < 26400 by omega) (by omega)) dX12_divide_573 (fun H locs hP hD hS => ?_)
                                have e9 : fT (fT (fT vF 2 fr) 3 f3) 0 (upd g5 ((nI (((24 * rn) + 2) + i))).toNatClampNeg (fr i)) = fT (fT (fT (fT vF 2 fr) 3 f3) 0 g5) 0 (upd g5 ((nI (((24 * rn) + 2) + i))).toNatClampNeg (fr i)) := (fT_sm _ _ _ _).symm
                                have hP : va_P (dC, dI) vwCl (WR a k h0 vi vj (fT (fT (fT vF 2 fr) 3 f3) 0 (upd g5 ((nI (((24 * rn) + 2) + i))).toNatClampNeg (fr i))) (fT vG 1 gs3)) H := by rw [e9, ← WR_F 0 (by decide) _ rfl]; exact hP
                                have hD : va_D A (WR a k h0 vi vj (fT (fT (fT vF 2 fr) 3 f3) 0 (upd g5 ((nI (((24 * rn) + 2) + i))).toNatClampNeg (fr i))) (fT vG 1 gs3)) := by rw [e9, ← WR_F 0 (by decide) _ rfl]; exact hD
                                clear e9
                                refine lv_iinc (v := (nI (i + 1))) hx hb dX12_divide_574 hl (k := 10) rfl (nI_add i 1) (by decide) rfl (fun ls (hl : lv_has ls _ ([(10, .int (nI (i + 1))), (0, .ref h0), (1, .int (nI sn)), (2, .int (nI rn)), (3, .int (nI an)), (4, .int (nI bn)), (5, .int (nI na)), (6, .int (nI nb_)), (7, .int (vF 0 (24 * an))), (8, .int (vF 0 (24 * bn))), (9, .int (nI mm))])) => ?_)
                                refine lv_goto (tgt := 546) hx hb dX12_divide_577 (by decide) ?_
                                have hl : lv_has _ _ ([(0, .ref h0), (1, .int (nI sn)), (2, .int (nI rn)), (3, .int (nI an)), (4, .int (nI bn)), (5, .int (nI na)), (6, .int (nI nb_)), (7, .int (vF 0 (24 * an))), (8, .int (vF 0 (24 * bn))), (9, .int (nI mm)), (10, .int (nI (i + 1)))]) := lv_sub hl [1, 2, 3, 4, 5, 6, 7, 8, 9, 10, 0] rfl
                                exact ih546_5 (i + 1) (upd g5 ((nI (((24 * rn) + 2) + i))).toNatClampNeg (fr i)) _ _ _ (by omega) (fun q hq => by rw [upd_at (by omega)]; by_cases e9 : 24 * rn + 2 + q = 24 * rn + 2 + i; (rw [if_pos e9, show q = i by omega]); (rw [if_neg e9]; exact hcp q (by omega))) (by rw [upd_at (by omega), if_neg (by omega)]; exact hg1) (by rw [upd_at (by omega), if_neg (by omega)]; exact hg0) (fun q hq => by rw [upd_at (by omega), if_neg (by omega)]; exact hgo q hq) (by omega) hP hD hS hl
                          · have t_489 : ¬ ((mm : Nat) : Int) ≤ 0 := toI_nle c_489 (nI_toInt (by omega)) (by decide)
                            refine lv_aload_n hx hb dX12_divide_492 rfl (lv_at hl 0 rfl) ?_
                            refine va_get (D := (dC, dI)) (ci := 12) (v := .ref (a 2)) (C := RX12) (T := TX12) (N := 163) (fs := fM (vS a vi vj)) hx hb hts iwsRX12_divide_in12 hown hK hP 0 rfl rfl 3 (by decide) (hts (.fieldLink RX12 17 "OptimaWorksModel" "rest" "[I") (by decide +kernel)) (fun _ h9 => h9) rfl dX12_divide_493 ?_
                            refine lv_iload hx hb dX12_divide_496 (lv_at hl 9 rfl) ?_
                            refine lv_iconst (v := 1) hx hb dX12_divide_498 (by decide) ?_
                            refine lv_isub hx hb dX12_divide_499 ?_
                            refine lv_topi (fun y17 hy17 => ?_)
                            obtain rfl : (nI (mm - 1)) = y17 := (hy17.trans (pk_sub (a := mm) (b := 1) (by omega))).symm
                            refine va_iald (cA := k 2) (n := 60) (f := fr) hx hb hK hP 3 2 (WR_get 2 (by decide)) (TR_get 2 (by decide)) (vp_in_nI (show (mm - 1) < 60 by omega) (by omega)) dX12_divide_500 ?_
                            refine lv_topi (fun y18 hy18 => ?_)
                            obtain rfl : (fr (mm - 1)) = y18 := (hy18.trans (by rw [nI_clamp (by omega)])).symm
                            refine lv_if_ne (tgt := 510) hx hb dX12_divide_501 (by decide) (fun c_501 => ?_) (fun c_501 => ?_)
                            · have t_501 : ((fr (mm - 1))).toInt ≠ 0 := toI_ne c_501 rfl (by decide)
                              refine lv_aload_n hx hb dX12_divide_510 rfl (lv_at hl 0 rfl) ?_
                              refine va_get (D := (dC, dI)) (ci := 12) (v := .ref (a 0)) (C := RX12) (T := TX12) (N := 163) (fs := fM (vS a vi vj)) hx hb hts iwsRX12_divide_in12 hown hK hP 0 rfl rfl 1 (by decide) (hts (.fieldLink RX12 7 "OptimaWorksModel" "big" "[I") (by decide +kernel)) (fun _ h9 => h9) rfl dX12_divide_511 ?_
                              refine lv_bipush (v := 24) hx hb dX12_divide_514 (by decide) ?_
                              refine lv_iload_n hx hb dX12_divide_516 rfl (lv_at hl 2 rfl) ?_
                              refine lv_imul hx hb dX12_divide_517 ?_
                              refine lv_topi (fun y19 hy19 => ?_)
                              obtain rfl : (nI (24 * rn)) = y19 := (hy19.trans (pk_mul 24 rn)).symm
                              refine lv_iload hx hb dX12_divide_518 (lv_at hl 9 rfl) ?_
                              refine lv_if_ne (tgt := 527) hx hb dX12_divide_520 (by decide) (fun c_520 => ?_) (fun c9 => False.elim (by have t9 : ((mm : Nat) : Int) = 0 := toI_nne c9 (nI_toInt (by omega)) (by decide); omega))
                              have t_520 : ((mm : Nat) : Int) ≠ 0 := toI_ne c_520 (nI_toInt (by omega)) (by decide)
                              refine lv_iload hx hb dX12_divide_527 (lv_at hl 7 rfl) ?_
                              refine va_iast (cA := k 0) (n := 26400) (f := (vF 0)) hx hb hK hP hD hS 1 0 (WR_get 0 (by decide)) (TR_get 0 (by decide)) (vp_in_nI (show (24 * rn) < 26400 by omega) (by omega)) dX12_divide_529 (fun H locs hP hD hS => ?_)
                              have hP : va_P (dC, dI) vwCl (WR a k h0 vi vj (fT (fT (fT vF 2 fr) 3 f3) 0 (upd (vF 0) ((nI (24 * rn))).toNatClampNeg (vF 0 (24 * an)))) (fT vG 1 gs3)) H := by rw [← WR_F 0 (by decide) _ rfl]; exact hP
                              have hD : va_D A (WR a k h0 vi vj (fT (fT (fT vF 2 fr) 3 f3) 0 (upd (vF 0) ((nI (24 * rn))).toNatClampNeg (vF 0 (24 * an)))) (fT vG 1 gs3)) := by rw [← WR_F 0 (by decide) _ rfl]; exact hD
                              refine lv_aload_n hx hb dX12_divide_530 rfl (lv_at hl 0 rfl) ?_
                              refine va_get (D := (dC, dI)) (ci := 12) (v := .ref (a 0)) (C := RX12) (T := TX12) (N := 163) (fs := fM (vS a vi vj)) hx hb hts iwsRX12_divide_in12 hown hK hP 0 rfl rfl 1 (by decide) (hts (.fieldLink RX12 7 "OptimaWorksModel" "big" "[I") (by decide +kernel)) (fun _ h9 => h9) rfl dX12_divide_531 ?_
                              refine lv_bipush (v := 24) hx hb dX12_divide_534 (by decide) ?_
                              refine lv_iload_n hx hb dX12_divide_536 rfl (lv_at hl 2 rfl) ?_
                              refine lv_imul hx hb dX12_divide_537 ?_
                              refine lv_topi (fun y20 hy20 => ?_)
                              obtain rfl : (nI (24 * rn)) = y20 := (hy20.trans (pk_mul 24 rn)).symm
                              refine lv_iconst (v := 1) hx hb dX12_divide_538 (by decide) ?_
                              refine lv_iadd hx hb dX12_divide_539 ?_
                              refine lv_topi (fun y21 hy21 => ?_)
                              obtain rfl : (nI ((24 * rn) + 1)) = y21 := (hy21.trans (nI_add (24 * rn) 1)).symm
                              refine lv_iload hx hb dX12_divide_540 (lv_at hl 9 rfl) ?_
                              refine va_iast (cA := k 0) (n := 26400) (f := (upd (vF 0) ((nI (24 * rn))).toNatClampNeg (vF 0 (24 * an)))) hx hb hK hP hD hS 1 0 (WR_get 0 (by decide)) (TR_get 0 (by decide)) (vp_in_nI (show ((24 * rn) + 1) < 26400 by omega) (by omega)) dX12_divide_542 (fun H locs hP hD hS => ?_)
                              have e9 : fT (fT (fT vF 2 fr) 3 f3) 0 (upd (upd (vF 0) ((nI (24 * rn))).toNatClampNeg (vF 0 (24 * an))) ((nI ((24 * rn) + 1))).toNatClampNeg (nI mm)) = fT (fT (fT (fT vF 2 fr) 3 f3) 0 (upd (vF 0) ((nI (24 * rn))).toNatClampNeg (vF 0 (24 * an)))) 0 (upd (upd (vF 0) ((nI (24 * rn))).toNatClampNeg (vF 0 (24 * an))) ((nI ((24 * rn) + 1))).toNatClampNeg (nI mm)) := (fT_sm _ _ _ _).symm
                              have hP : va_P (dC, dI) vwCl (WR a k h0 vi vj (fT (fT (fT vF 2 fr) 3 f3) 0 (upd (upd (vF 0) ((nI (24 * rn))).toNatClampNeg (vF 0 (24 * an))) ((nI ((24 * rn) + 1))).toNatClampNeg (nI mm))) (fT vG 1 gs3)) H := by rw [e9, ← WR_F 0 (by decide) _ rfl]; exact hP
                              have hD : va_D A (WR a k h0 vi vj (fT (fT (fT vF 2 fr) 3 f3) 0 (upd (upd (vF 0) ((nI (24 * rn))).toNatClampNeg (vF 0 (24 * an))) ((nI ((24 * rn) + 1))).toNatClampNeg (nI mm))) (fT vG 1 gs3)) := by rw [e9, ← WR_F 0 (by decide) _ rfl]; exact hD
                              clear e9
                              refine lv_iconst (v := 0) hx hb dX12_divide_543 (by decide) ?_
                              refine lv_istore hx hb dX12_divide_544 hl (by decide) rfl (fun ls (hl : lv_has ls _ ([(10, .int 0), (0, .ref h0), (1, .int (nI sn)), (2, .int (nI rn)), (3, .int (nI an)), (4, .int (nI bn)), (5, .int (nI na)), (6, .int (nI nb_)), (7, .int (vF 0 (24 * an))), (8, .int (vF 0 (24 * bn))), (9, .int (nI mm))])) => ?_)
                              have hl : lv_has _ _ ([(0, .ref h0), (1, .int (nI sn)), (2, .int (nI rn)), (3, .int (nI an)), (4, .int (nI bn)), (5, .int (nI na)), (6, .int (nI nb_)), (7, .int (vF 0 (24 * an))), (8, .int (vF 0 (24 * bn))), (9, .int (nI mm)), (10, .int (nI 0))]) := lv_sub hl [1, 2, 3, 4, 5, 6, 7, 8, 9, 10, 0] rfl
                              refine (fun (loop : ∀ (n9 : Nat) (i : Nat) (g5 : Nat → Int32) (H : Heap) (locs : List Loc) (ls : Array Slot), (i ≤ mm) → (∀ q, q < i → g5 (24 * rn + 2 + q) = fr q) → (g5 (24 * rn + 1) = nI mm) → ((mm = 0 ∧ g5 (24 * rn) = 0) ∨ (0 < mm ∧ g5 (24 * rn) = (vF 0 (24 * an)))) → (∀ q, (q < 24 * rn ∨ 24 * rn + 24 ≤ q) → g5 q = vF 0 q) →  (mm < i + n9) → va_P (dC, dI) vwCl (WR a k h0 vi vj (fT (fT (fT vF 2 fr) 3 f3) 0 g5) (fT vG 1 gs3)) H → va_D A (WR a k h0 vi vj (fT (fT (fT vF 2 fr) 3 f3) 0 g5) (fT vG 1 gs3)) → va_S A s.heap H locs → lv_has ls 15 [(0, .ref h0), (1, .int (nI sn)), (2, .int (nI rn)), (3, .int (nI an)), (4, .int (nI bn)), (5, .int (nI na)), (6, .int (nI nb_)), (7, .int (vF 0 (24 * an))), (8, .int (vF 0 (24 * bn))), (9, .int (nI mm)), (10, .int (nI i))] → W p l e _ s m _ below meth c H locs 0 0 _ (F0 m 546 ls [])) => loop (mm + 1) 0 (upd (upd (vF 0) ((nI (24 * rn))).toNatClampNeg (vF 0 (24 * an))) ((nI ((24 * rn) + 1))).toNatClampNeg (nI mm)) _ _ _ (by omega) (fun q hq => absurd hq (by omega)) (by rw [upd_at (by omega), if_pos rfl]) (by rw [upd_at (by omega), if_neg (by omega), upd_at (by omega), if_pos rfl]; first | exact Or.inl ⟨by omega, rfl⟩ | exact Or.inr ⟨by omega, rfl⟩) (fun q hq => by rw [upd_at (by omega), if_neg (by omega), upd_at (by omega), if_neg (by omega)]) (by omega) hP hD hS hl) ?_
                              intro n9
                              induction n9 with
                              | zero => intro i g5 H locs ls hi hcp hg1 hg0 hgo hf9; exact False.elim (by omega)
                              | succ n9 ih546_6 =>
                                intro i g5 H locs ls hi hcp hg1 hg0 hgo hf546_6 hP hD hS hl
                                refine lv_iload hx hb dX12_divide_546 (lv_at hl 10 rfl) ?_
                                refine lv_iload hx hb dX12_divide_548 (lv_at hl 9 rfl) ?_
                                refine lv_icmp_ge (tgt := 580) hx hb dX12_divide_550 (by decide) (fun c_550 => ?_) (fun c_550 => ?_)
                                · have t_550 : ((i : Nat) : Int) ≥ ((mm : Nat) : Int) := toI_ge c_550 (nI_toInt (by omega)) (nI_toInt (by omega))
                                  refine lv_aload_n hx hb dX12_divide_580 rfl (lv_at hl 0 rfl) ?_
                                  refine lv_iload_n hx hb dX12_divide_581 rfl (lv_at hl 1 rfl) ?_
                                  refine lv_iload hx hb dX12_divide_582 (lv_at hl 5 rfl) ?_
                                  refine lv_iload hx hb dX12_divide_584 (lv_at hl 7 rfl) ?_
                                  refine lv_iload hx hb dX12_divide_586 (lv_at hl 8 rfl) ?_
                                  refine lv_imul hx hb dX12_divide_588 ?_
                                  have hFc := allFree hD hS hA
                                  refine va_callv (va_runV (As := [.int (nI sn), .int (nI na), .int ((vF 0 (24 * an)) * (vF 0 (24 * bn)))]) (rest := []) ⟨hx, hb, hml, hown, hts⟩ (r_X12_carry l dC dI a k h0 vi vj (fT (fT (fT vF 2 fr) 3 f3) 0 g5) (fT vG 1 gs3) sn na ((vF 0 (24 * an)) * (vF 0 (24 * bn))) (NA9 / NB9) (if xa * xb < 0 then -1 else 1) (by first | with_reducible assumption | decide | omega | rfl | assumption) (by first | with_reducible assumption | decide | omega | rfl | assumption) (fun q hq => by have := hent q hq; show -1152921504606846976 ≤ (gs3 q).toInt ∧ (gs3 q).toInt ≤ 1152921504606846976; omega) (by show sv28 gs3 na = _; rw [hsv, hQ1]) (Nat.lt_of_le_of_lt (Nat.div_le_self _ _) hAb.out) (fun h9 => sgProd hSA.out hSB.out (by rw [eNA.out, eNB.out]; exact Nat.mul_pos (by omega) (by omega))) H.size) (cwV 3 hts gwsRX12_divide_4 rfl rfl rfl hd_yX12_carry_RX12 (by decide +kernel)) (fz_pre (va_recv hK hP (ci := 12) (q0 := 0) rfl rfl) hP hK hD) rfl rfl hl.1 rfl (lv_room (Nat.le_of_ble_eq_true rfl)) dX12_divide_589 (by decide +kernel)) hS (fun q _ h => hFc q h) hFc (fun g589_1 t9_ H locs ht hvm hw9 hB9 hz1 hk1 hS => ?_)
                                  have hP : va_P (dC, dI) vwCl (WR a k h0 vi vj (fT (fT (fT (fT vF 2 fr) 3 f3) 0 g5) 0 g589_1) (fT vG 1 gs3)) H := fz_P ht hB9.1
                                  have hD : va_D A (WR a k h0 vi vj (fT (fT (fT (fT vF 2 fr) 3 f3) 0 g5) 0 g589_1) (fT vG 1 gs3)) := hB9.2.weaken (fun _ q _ h => hFc q.1 h)
                                  have e9 : fT (fT (fT vF 2 fr) 3 f3) 0 g589_1 = fT (fT (fT (fT vF 2 fr) 3 f3) 0 g5) 0 g589_1 := (fT_sm _ _ _ _).symm
                                  rw [← e9] at hP hD
                                  clear e9
                                  have hP : va_P (dC, dI) vwCl (WR a k h0 vi vj (fT (fT (fT vF 2 fr) 3 f3) 0 g589_1) (fT vG 1 gs3)) H := hP
                                  have hD : va_D A (WR a k h0 vi vj (fT (fT (fT vF 2 fr) 3 f3) 0 g589_1) (fT vG 1 gs3)) := hD
                                  revert hw9
                                  refine fz_a2 ?_
                                  intro f589_1_0 f589_1_1
                                  have f589_1_1 : ∀ q, (q < 24 * sn ∨ 24 * sn + 24 ≤ q) → g589_1 q = g5 q := f589_1_1
                                  refine W.widen (k := 0) (n := 0) (by decide +kernel) (by decide +kernel) ?_
                                  exact W.vret hx hb hr (fun t9_ ht hW => ⟨⟨(g589_1, fr, f3, gs3), rfl, by (try dsimp only); (have e1 := tdivE (x := xa) (y := xb) eb0.out); (have e2 := tmodE (x := xa) (y := xb)); (have sa := hSA.out); (have sb := hSB.out); (have za : xa ≠ 0 := by (have q9 : xa.natAbs = NA9 := eNA.out); omega); rw [eNA.out, eNB.out] at e1 e2; rw [hR1, ← hmv] at e2; rw [e1] at f589_1_0; (have hN : Nu g5 rn (xa.tmod xb) := by rw [← e2]; exact nu_of (qs := (vF 0 (24 * an))) (by omega) hg1 (fun q hq => by rw [hcp q (by omega)]; exact limb0N hlr (by omega)) (fun h9 => by rw [show 24 * rn + 1 + mm = 24 * rn + 2 + (mm - 1) by omega, hcp (mm - 1) (by omega)]; exact c_501) (lv28_congr (fun q hq => by rw [hcp q (by omega), Nat.zero_add])) hg0 (by split <;> first | exact Or.inr ⟨rfl, ofm1 (by omega)⟩ | exact Or.inl ⟨rfl, of1 (by omega)⟩)); exact ⟨f589_1_0, hN.keep (fun q h1 h2 => f589_1_1 q (by omega)), fun q h1 h2 => (f589_1_1 q h1).trans (hgo q h2)⟩, by rw [ht]; exact hP, hD⟩, hS.F ht⟩) hS.2.2 dX12_divide_592
                                · have t_550 : ¬ ((i : Nat) : Int) ≥ ((mm : Nat) : Int) := toI_nge c_550 (nI_toInt (by omega)) (nI_toInt (by omega))
                                  refine lv_aload_n hx hb dX12_divide_553 rfl (lv_at hl 0 rfl) ?_
                                  refine va_get (D := (dC, dI)) (ci := 12) (v := .ref (a 0)) (C := RX12) (T := TX12) (N := 163) (fs := fM (vS a vi vj)) hx hb hts iwsRX12_divide_in12 hown hK hP 0 rfl rfl 1 (by decide) (hts (.fieldLink RX12 7 "OptimaWorksModel" "big" "[I") (by decide +kernel)) (fun _ h9 => h9) rfl dX12_divide_554 ?_
                                  refine lv_bipush (v := 24) hx hb dX12_divide_557 (by decide) ?_
                                  refine lv_iload_n hx hb dX12_divide_559 rfl (lv_at hl 2 rfl) ?_
                                  refine lv_imul hx hb dX12_divide_560 ?_
                                  refine lv_topi (fun y22 hy22 => ?_)
                                  obtain rfl : (nI (24 * rn)) = y22 := (hy22.trans (pk_mul 24 rn)).symm
                                  refine lv_iconst (v := 2) hx hb dX12_divide_561 (by decide) ?_
                                  refine lv_iadd hx hb dX12_divide_562 ?_
                                  refine lv_topi (fun y23 hy23 => ?_)
                                  obtain rfl : (nI ((24 * rn) + 2)) = y23 := (hy23.trans (nI_add (24 * rn) 2)).symm
                                  refine lv_iload hx hb dX12_divide_563 (lv_at hl 10 rfl) ?_
                                  refine lv_iadd hx hb dX12_divide_565 ?_
                                  refine lv_topi (fun y24 hy24 => ?_)
                                  obtain rfl : (nI (((24 * rn) + 2) + i)) = y24 := (hy24.trans (nI_add ((24 * rn) + 2) i)).symm
                                  refine lv_aload_n hx hb dX12_divide_566 rfl (lv_at hl 0 rfl) ?_
                                  refine va_get (D := (dC, dI)) (ci := 12) (v := .ref (a 2)) (C := RX12) (T := TX12) (N := 163) (fs := fM (vS a vi vj)) hx hb hts iwsRX12_divide_in12 hown hK hP 0 rfl rfl 3 (by decide) (hts (.fieldLink RX12 17 "OptimaWorksModel" "rest" "[I") (by decide +kernel)) (fun _ h9 => h9) rfl dX12_divide_567 ?_
                                  refine lv_iload hx hb dX12_divide_570 (lv_at hl 10 rfl) ?_
                                  refine va_iald (cA := k 2) (n := 60) (f := fr) hx hb hK hP 3 2 (WR_get 2 (by decide)) (TR_get 2 (by decide)) (vp_in_nI (show i < 60 by omega) (by omega)) dX12_divide_572 ?_
                                  refine lv_topi (fun y25 hy25 => ?_)
                                  obtain rfl : (fr i) = y25 := (hy25.trans (by rw [nI_clamp (by omega)])).symm
                                  refine va_iast (cA := k 0) (n := 26400) (f := g5) hx hb hK hP hD hS 1 0 (WR_get 0 (by decide)) (TR_get 0 (by decide)) (vp_in_nI (show (((24 * rn) + 2) + i) < 26400 by omega) (by omega)) dX12_divide_573 (fun H locs hP hD hS => ?_)
                                  have e9 : fT (fT (fT vF 2 fr) 3 f3) 0 (upd g5 ((nI (((24 * rn) + 2) + i))).toNatClampNeg (fr i)) = fT (fT (fT (fT vF 2 fr) 3 f3) 0 g5) 0 (upd g5 ((nI (((24 * rn) + 2) + i))).toNatClampNeg (fr i)) := (fT_sm _ _ _ _).symm
                                  have hP : va_P (dC, dI) vwCl (WR a k h0 vi vj (fT (fT (fT vF 2 fr) 3 f3) 0 (upd g5 ((nI (((24 * rn) + 2) + i))).toNatClampNeg (fr i))) (fT vG 1 gs3)) H := by rw [e9, ← WR_F 0 (by decide) _ rfl]; exact hP
                                  have hD : va_D A (WR a k h0 vi vj (fT (fT (fT vF 2 fr) 3 f3) 0 (upd g5 ((nI (((24 * rn) + 2) + i))).toNatClampNeg (fr i))) (fT vG 1 gs3)) := by rw [e9, ← WR_F 0 (by decide) _ rfl]; exact hD
                                  clear e9
                                  refine lv_iinc (v := (nI (i + 1))) hx hb dX12_divide_574 hl (k := 10) rfl (nI_add i 1) (by decide) rfl (fun ls (hl : lv_has ls _ ([(10, .int (nI (i + 1))), (0, .ref h0), (1, .int (nI sn)), (2, .int (nI rn)), (3, .int (nI an)), (4, .int (nI bn)), (5, .int (nI na)), (6, .int (nI nb_)), (7, .int (vF 0 (24 * an))), (8, .int (vF 0 (24 * bn))), (9, .int (nI mm))])) => ?_)
                                  refine lv_goto (tgt := 546) hx hb dX12_divide_577 (by decide) ?_
                                  have hl : lv_has _ _ ([(0, .ref h0), (1, .int (nI sn)), (2, .int (nI rn)), (3, .int (nI an)), (4, .int (nI bn)), (5, .int (nI na)), (6, .int (nI nb_)), (7, .int (vF 0 (24 * an))), (8, .int (vF 0 (24 * bn))), (9, .int (nI mm)), (10, .int (nI (i + 1)))]) := lv_sub hl [1, 2, 3, 4, 5, 6, 7, 8, 9, 10, 0] rfl
                                  exact ih546_6 (i + 1) (upd g5 ((nI (((24 * rn) + 2) + i))).toNatClampNeg (fr i)) _ _ _ (by omega) (fun q hq => by rw [upd_at (by omega)]; by_cases e9 : 24 * rn + 2 + q = 24 * rn + 2 + i; (rw [if_pos e9, show q = i by omega]); (rw [if_neg e9]; exact hcp q (by omega))) (by rw [upd_at (by omega), if_neg (by omega)]; exact hg1) (by rw [upd_at (by omega), if_neg (by omega)]; exact hg0) (fun q hq => by rw [upd_at (by omega), if_neg (by omega)]; exact hgo q hq) (by omega) hP hD hS hl
                            · have t_501 : ((fr (mm - 1))).toInt = 0 := toI_nne c_501 rfl (by decide)
                              refine lv_iinc (v := (nI (mm - 1))) hx hb dX12_divide_504 hl (k := 9) rfl (sb_m1 (by omega)) (by decide) rfl (fun ls (hl : lv_has ls _ ([(9, .int (nI (mm - 1))), (0, .ref h0), (1, .int (nI sn)), (2, .int (nI rn)), (3, .int (nI an)), (4, .int (nI bn)), (5, .int (nI na)), (6, .int (nI nb_)), (7, .int (vF 0 (24 * an))), (8, .int (vF 0 (24 * bn)))])) => ?_)
                              refine lv_goto (tgt := 487) hx hb dX12_divide_507 (by decide) ?_
                              have hl : lv_has _ _ ([(0, .ref h0), (1, .int (nI sn)), (2, .int (nI rn)), (3, .int (nI an)), (4, .int (nI bn)), (5, .int (nI na)), (6, .int (nI nb_)), (7, .int (vF 0 (24 * an))), (8, .int (vF 0 (24 * bn))), (9, .int (nI (mm - 1)))]) := lv_sub hl [1, 2, 3, 4, 5, 6, 7, 8, 9, 0] rfl
                              exact ih487_4 (mm - 1) _ _ _ (by omega) (by obtain ⟨k9, rfl⟩ : ∃ k9, mm = k9 + 1 := ⟨mm - 1, by omega⟩; rw [show k9 + 1 - 1 = k9 by omega] at c_501 ⊢; rw [← hmv, lv28_skip0 c_501]) (by omega) hP hD hS hl
                      · have t_277 : ¬ (kq).toInt < 0 := toI_nlt c_277 rfl (by decide)
                        obtain ⟨kk, h_kk, rfl⟩ := of_toInt (x := kq) (k := 23) (by omega) (by omega)
                        have e_kk : (nI kk).toInt = (kk : Int) := nI_toInt (by omega)
                        refine lv_bipush (v := 27) hx hb dX12_divide_280 (by decide) ?_
                        refine lv_istore hx hb dX12_divide_282 hl (by decide) rfl (fun ls (hl : lv_has ls _ ([(10, .int 27), (0, .ref h0), (1, .int (nI sn)), (2, .int (nI rn)), (3, .int (nI an)), (4, .int (nI bn)), (5, .int (nI na)), (6, .int (nI nb_)), (7, .int (vF 0 (24 * an))), (8, .int (vF 0 (24 * bn))), (9, .int (nI kk))])) => ?_)
                        have hl : lv_has _ _ ([(0, .ref h0), (1, .int (nI sn)), (2, .int (nI rn)), (3, .int (nI an)), (4, .int (nI bn)), (5, .int (nI na)), (6, .int (nI nb_)), (7, .int (vF 0 (24 * an))), (8, .int (vF 0 (24 * bn))), (9, .int (nI kk)), (10, .int 27)]) := lv_sub hl [1, 2, 3, 4, 5, 6, 7, 8, 9, 10, 0] rfl
                        refine (fun (loop : ∀ (n9 : Nat) (bq : Int32) (b1 : Nat) (tt : Nat) (Q2 : Nat) (fr2 : Nat → Int32) (gs4 : Nat → Int64) (H : Heap) (locs : List Loc) (ls : Array Slot), ((bq).toInt = (b1 : Int) - 1) → (b1 ≤ 28) → (Lm fr2 0 (nb_ + 1)) → (lv28 fr2 0 (nb_ + 1) < NB9) → (lv28 (vF 0) (24 * an + 2) na / 2 ^ (28 * kk + b1) = Q2 * NB9 + lv28 fr2 0 (nb_ + 1)) → (gs4 kk = lN (tt * 2 ^ b1)) → (tt < 2 ^ (28 - b1)) → (∀ q, q < kk → gs4 q = 0) → (∀ q, q < na → 0 ≤ (gs4 q).toInt ∧ (gs4 q).toInt < 268435456) → (sv28 gs4 na = ((Q2 * 2 ^ (28 * kk + b1) : Nat) : Int)) →  (b1 < n9) → va_P (dC, dI) vwCl (WR a k h0 vi vj (fT (fT vF 2 fr2) 3 f3) (fT vG 1 gs4)) H → va_D A (WR a k h0 vi vj (fT (fT vF 2 fr2) 3 f3) (fT vG 1 gs4)) → va_S A s.heap H locs → lv_has ls 15 [(0, .ref h0), (1, .int (nI sn)), (2, .int (nI rn)), (3, .int (nI an)), (4, .int (nI bn)), (5, .int (nI na)), (6, .int (nI nb_)), (7, .int (vF 0 (24 * an))), (8, .int (vF 0 (24 * bn))), (9, .int (nI kk)), (10, .int bq)] → W p l e _ s m _ below meth c H locs 0 0 _ (F0 m 284 ls [])) => loop (29) 27 28 0 QQ fr gs3 _ _ _ (by decide) (by omega) (hlr) (hRB) (by rw [show 28 * kk + 28 = 28 * kk1 by omega]; exact hQ) (by rw [hz3 kk (by omega), Nat.zero_mul]; rfl) (by simp) (fun q hq => hz3 q (by omega)) (hent) (by rw [show 28 * kk + 28 = 28 * kk1 by omega]; exact hsv) (by omega) hP hD hS hl) ?_
                        intro n9
                        induction n9 with
                        | zero => intro bq b1 tt Q2 fr2 gs4 H locs ls hbq hb28 hlr2 hRB2 hQ2 hgk htt hz4 hent4 hsv4 hf9; exact False.elim (by omega)
                        | succ n9 ih284_7 =>
                          intro bq b1 tt Q2 fr2 gs4 H locs ls hbq hb28 hlr2 hRB2 hQ2 hgk htt hz4 hent4 hsv4 hf284_7 hP hD hS hl
                          refine lv_iload hx hb dX12_divide_284 (lv_at hl 10 rfl) ?_
                          refine lv_if_lt (tgt := 477) hx hb dX12_divide_286 (by decide) (fun c_286 => ?_) (fun c_286 => ?_)
                          · have t_286 : (bq).toInt < 0 := toI_lt c_286 rfl (by decide)
                            refine lv_iinc (v := ((nI kk) + (-1))) hx hb dX12_divide_477 hl (k := 9) rfl rfl (by decide) rfl (fun ls (hl : lv_has ls _ ([(9, .int ((nI kk) + (-1))), (0, .ref h0), (1, .int (nI sn)), (2, .int (nI rn)), (3, .int (nI an)), (4, .int (nI bn)), (5, .int (nI na)), (6, .int (nI nb_)), (7, .int (vF 0 (24 * an))), (8, .int (vF 0 (24 * bn))), (10, .int bq)])) => ?_)
                            refine lv_goto (tgt := 275) hx hb dX12_divide_480 (by decide) ?_
                            have hl : lv_has _ _ ([(0, .ref h0), (1, .int (nI sn)), (2, .int (nI rn)), (3, .int (nI an)), (4, .int (nI bn)), (5, .int (nI na)), (6, .int (nI nb_)), (7, .int (vF 0 (24 * an))), (8, .int (vF 0 (24 * bn))), (9, .int ((nI kk) + (-1)))]) := lv_sub hl [1, 2, 3, 4, 5, 6, 7, 8, 9, 0] rfl
                            exact ih275_3 ((nI kk) + (-1)) (kk1 - 1) Q2 fr2 gs4 _ _ _ (by rw [m1T (by omega)]; omega) (by omega) (hlr2) (hRB2) (by rw [show 28 * (kk1 - 1) = 28 * kk + b1 by omega]; exact hQ2) (fun q hq => hz4 q (by omega)) (hent4) (by rw [show 28 * (kk1 - 1) = 28 * kk + b1 by omega]; exact hsv4) (by omega) hP hD hS hl
                          · have t_286 : ¬ (bq).toInt < 0 := toI_nlt c_286 rfl (by decide)
                            obtain ⟨bb, h_bb, rfl⟩ := of_toInt (x := bq) (k := 28) (by omega) (by omega)
                            have e_bb : (nI bb).toInt = (bb : Int) := nI_toInt (by omega)
                            obtain ⟨dk, hdk, edk⟩ := hna3 kk (by omega)
                            refine lv_aload_n hx hb dX12_divide_289 rfl (lv_at hl 0 rfl) ?_
                            refine va_get (D := (dC, dI)) (ci := 12) (v := .ref (a 0)) (C := RX12) (T := TX12) (N := 163) (fs := fM (vS a vi vj)) hx hb hts iwsRX12_divide_in12 hown hK hP 0 rfl rfl 1 (by decide) (hts (.fieldLink RX12 7 "OptimaWorksModel" "big" "[I") (by decide +kernel)) (fun _ h9 => h9) rfl dX12_divide_290 ?_
                            refine lv_bipush (v := 24) hx hb dX12_divide_293 (by decide) ?_
                            refine lv_iload_n hx hb dX12_divide_295 rfl (lv_at hl 3 rfl) ?_
                            refine lv_imul hx hb dX12_divide_296 ?_
                            refine lv_topi (fun y26 hy26 => ?_)
                            obtain rfl : (nI (24 * an)) = y26 := (hy26.trans (pk_mul 24 an)).symm
                            refine lv_iconst (v := 2) hx hb dX12_divide_297 (by decide) ?_
                            refine lv_iadd hx hb dX12_divide_298 ?_
                            refine lv_topi (fun y27 hy27 => ?_)
                            obtain rfl : (nI ((24 * an) + 2)) = y27 := (hy27.trans (nI_add (24 * an) 2)).symm
                            refine lv_iload hx hb dX12_divide_299 (lv_at hl 9 rfl) ?_
                            refine lv_iadd hx hb dX12_divide_301 ?_
                            refine lv_topi (fun y28 hy28 => ?_)
                            obtain rfl : (nI (((24 * an) + 2) + kk)) = y28 := (hy28.trans (nI_add ((24 * an) + 2) kk)).symm
                            refine va_iald (cA := k 0) (n := 26400) (f := (vF 0)) hx hb hK hP 1 0 (WR_get 0 (by decide)) (TR_get 0 (by decide)) (vp_in_nI (show (((24 * an) + 2) + kk) < 26400 by omega) (by omega)) dX12_divide_302 ?_
                            refine lv_topi (fun y29 hy29 => ?_)
                            obtain rfl : ((vF 0) (((24 * an) + 2) + kk)) = y29 := (hy29.trans (by rw [nI_clamp (by omega)])).symm
                            refine lv_topi (fun y30 hy30 => ?_)
                            obtain rfl : (nI dk) = y30 := (hy30.trans (edk)).symm
                            refine lv_iload hx hb dX12_divide_303 (lv_at hl 10 rfl) ?_
                            refine lv_ishr hx hb dX12_divide_305 ?_
                            refine lv_iconst (v := 1) hx hb dX12_divide_306 (by decide) ?_
                            refine lv_iand hx hb dX12_divide_307 ?_
                            refine lv_topi (fun y31 hy31 => ?_)
                            obtain rfl : (nI (dk / 2 ^ bb % 2)) = y31 := (hy31.trans (bit32 (by omega) (by omega))).symm
                            obtain ⟨i0, hi0⟩ : ∃ i0, i0 = dk / 2 ^ bb % 2 := ⟨_, rfl⟩
                            refine lv_topi (fun y32 hy32 => ?_)
                            obtain rfl : (nI i0) = y32 := (hy32.trans (by rw [hi0])).symm
                            have hi01 : i0 ≤ 1 := by omega
                            refine lv_istore hx hb dX12_divide_308 hl (by decide) rfl (fun ls (hl : lv_has ls _ ([(11, .int (nI i0)), (0, .ref h0), (1, .int (nI sn)), (2, .int (nI rn)), (3, .int (nI an)), (4, .int (nI bn)), (5, .int (nI na)), (6, .int (nI nb_)), (7, .int (vF 0 (24 * an))), (8, .int (vF 0 (24 * bn))), (9, .int (nI kk)), (10, .int (nI bb))])) => ?_)
                            refine lv_iconst (v := 0) hx hb dX12_divide_310 (by decide) ?_
                            refine lv_istore hx hb dX12_divide_311 hl (by decide) rfl (fun ls (hl : lv_has ls _ ([(12, .int 0), (11, .int (nI i0)), (0, .ref h0), (1, .int (nI sn)), (2, .int (nI rn)), (3, .int (nI an)), (4, .int (nI bn)), (5, .int (nI na)), (6, .int (nI nb_)), (7, .int (vF 0 (24 * an))), (8, .int (vF 0 (24 * bn))), (9, .int (nI kk)), (10, .int (nI bb))])) => ?_)
                            have hl : lv_has _ _ ([(0, .ref h0), (1, .int (nI sn)), (2, .int (nI rn)), (3, .int (nI an)), (4, .int (nI bn)), (5, .int (nI na)), (6, .int (nI nb_)), (7, .int (vF 0 (24 * an))), (8, .int (vF 0 (24 * bn))), (9, .int (nI kk)), (10, .int (nI bb)), (11, .int (nI i0)), (12, .int (nI 0))]) := lv_sub hl [2, 3, 4, 5, 6, 7, 8, 9, 10, 11, 12, 1, 0] rfl
                            refine (fun (loop : ∀ (n9 : Nat) (i : Nat) (inb : Nat) (fr3 : Nat → Int32) (H : Heap) (locs : List Loc) (ls : Array Slot), (i ≤ nb_ + 1) → (inb ≤ 1) → (lv28 fr3 0 i + inb * 2 ^ (28 * i) = 2 * lv28 fr2 0 i + i0) → (Lm fr3 0 i) → (∀ q, i ≤ q → fr3 q = fr2 q) →  (nb_ + 1 < i + n9) → va_P (dC, dI) vwCl (WR a k h0 vi vj (fT (fT vF 2 fr3) 3 f3) (fT vG 1 gs4)) H → va_D A (WR a k h0 vi vj (fT (fT vF 2 fr3) 3 f3) (fT vG 1 gs4)) → va_S A s.heap H locs → lv_has ls 15 [(0, .ref h0), (1, .int (nI sn)), (2, .int (nI rn)), (3, .int (nI an)), (4, .int (nI bn)), (5, .int (nI na)), (6, .int (nI nb_)), (7, .int (vF 0 (24 * an))), (8, .int (vF 0 (24 * bn))), (9, .int (nI kk)), (10, .int (nI bb)), (11, .int (nI inb)), (12, .int (nI i))] → W p l e _ s m _ below meth c H locs 0 0 _ (F0 m 313 ls [])) => loop (nb_ + 2) 0 i0 fr2 _ _ _ (by omega) (by omega) (by simp [lv28]) (fun q hq => absurd hq (by omega)) (fun q _ => rfl) (by omega) hP hD hS hl) ?_
                            intro n9
                            induction n9 with
                            | zero => intro i inb fr3 H locs ls hi hin hsh hl4 hsame hf9; exact False.elim (by omega)
                            | succ n9 ih313_8 =>
                              intro i inb fr3 H locs ls hi hin hsh hl4 hsame hf313_8 hP hD hS hl
                              refine lv_iload hx hb dX12_divide_313 (lv_at hl 12 rfl) ?_
                              refine lv_iload hx hb dX12_divide_315 (lv_at hl 6 rfl) ?_
                              refine lv_icmp_gt (tgt := 360) hx hb dX12_divide_317 (by decide) (fun c_317 => ?_) (fun c_317 => ?_)
                              · have t_317 : ((i : Nat) : Int) > ((nb_ : Nat) : Int) := toI_gt c_317 (nI_toInt (by omega)) (nI_toInt (by omega))
                                have ei : i = nb_ + 1 := by omega
                                have hsh2 : lv28 fr3 0 (nb_ + 1) + inb * 2 ^ (28 * (nb_ + 1)) = 2 * lv28 fr2 0 (nb_ + 1) + i0 := by rw [← ei]; exact hsh
                                have hl4m : Lm fr3 0 (nb_ + 1) := by rw [← ei]; exact hl4
                                have hin0 := noCarry hsh2 hRB2 hBP hi01
                                rw [hin0, Nat.zero_mul, Nat.add_zero] at hsh2
                                have hA2 : lv28 (vF 0) (24 * an + 2) na / 2 ^ (28 * kk + bb) = 2 * Q2 * NB9 + (2 * lv28 fr2 0 (nb_ + 1) + i0) := bitQ hQ2 (by rw [show b1 = bb + 1 by omega, hi0]; exact lv28_bit hna3 (by omega) hdk edk (by omega))
                                refine lv_aload_n hx hb dX12_divide_360 rfl (lv_at hl 0 rfl) ?_
                                refine lv_iload hx hb dX12_divide_361 (lv_at hl 6 rfl) ?_
                                have hFc := allFree hD hS hA
                                refine va_calli (va_runV (As := [.int (nI nb_)]) (rest := []) ⟨hx, hb, hml, hown, hts⟩ (r_X12_isMore l dC dI a k h0 vi vj (fT (fT vF 2 fr3) 3 f3) (fT vG 1 gs4) nb_ (by first | with_reducible assumption | decide | omega | rfl | assumption) (hl4m) (hl3m) H.size) (cwV 1 hts gwsRX12_divide_5 rfl rfl rfl hd_yX12_isMore_RX12 (by decide +kernel)) (fz_pre (va_recv hK hP (ci := 12) (q0 := 0) rfl rfl) hP hK hD) rfl rfl hl.1 rfl (lv_room (Nat.le_of_ble_eq_true rfl)) dX12_divide_363 (by decide +kernel)) hS (fun q _ h => hFc q h) hFc (fun r363 u t9_ H locs ht hvm hw9 hB9 hz1 hk1 hS => ?_)
                                have hP : va_P (dC, dI) vwCl (WR a k h0 vi vj (fT (fT vF 2 fr3) 3 f3) (fT vG 1 gs4)) H := fz_P ht hB9.1
                                have hD : va_D A (WR a k h0 vi vj (fT (fT vF 2 fr3) 3 f3) (fT vG 1 gs4)) := hB9.2.weaken (fun _ q _ h => hFc q.1 h)
                                rcases hw9 with ⟨rfl, f363_0⟩ | ⟨rfl, f363_0⟩
                                · have f363_0 : lv28 f3 0 nb_ ≤ lv28 fr3 0 (nb_ + 1) := f363_0
                                  have fm : lv28 f3 0 nb_ ≤ lv28 fr3 0 (nb_ + 1) := f363_0
                                  rw [hlB] at fm
                                  refine lv_if_ne (tgt := 372) hx hb dX12_divide_366 (by decide) (fun _ => ?_) (fun c9 => absurd c9 (by decide))
                                  refine lv_iconst (v := 0) hx hb dX12_divide_372 (by decide) ?_
                                  refine lv_istore hx hb dX12_divide_373 hl (by decide) rfl (fun ls (hl : lv_has ls _ ([(12, .int 0), (0, .ref h0), (1, .int (nI sn)), (2, .int (nI rn)), (3, .int (nI an)), (4, .int (nI bn)), (5, .int (nI na)), (6, .int (nI nb_)), (7, .int (vF 0 (24 * an))), (8, .int (vF 0 (24 * bn))), (9, .int (nI kk)), (10, .int (nI bb)), (11, .int (nI inb))])) => ?_)
                                  refine lv_iconst (v := 0) hx hb dX12_divide_375 (by decide) ?_
                                  refine lv_istore hx hb dX12_divide_376 hl (by decide) rfl (fun ls (hl : lv_has ls _ ([(13, .int 0), (12, .int 0), (0, .ref h0), (1, .int (nI sn)), (2, .int (nI rn)), (3, .int (nI an)), (4, .int (nI bn)), (5, .int (nI na)), (6, .int (nI nb_)), (7, .int (vF 0 (24 * an))), (8, .int (vF 0 (24 * bn))), (9, .int (nI kk)), (10, .int (nI bb)), (11, .int (nI inb))])) => ?_)
                                  have hl : lv_has _ _ ([(0, .ref h0), (1, .int (nI sn)), (2, .int (nI rn)), (3, .int (nI an)), (4, .int (nI bn)), (5, .int (nI na)), (6, .int (nI nb_)), (7, .int (vF 0 (24 * an))), (8, .int (vF 0 (24 * bn))), (9, .int (nI kk)), (10, .int (nI bb)), (12, .int (nI 0)), (13, .int (nI 0))]) := lv_sub hl [2, 3, 4, 5, 6, 7, 8, 9, 10, 11, 12, 1, 0] rfl
                                  refine (fun (loop : ∀ (n9 : Nat) (j : Nat) (bw : Nat) (fr4 : Nat → Int32) (H : Heap) (locs : List Loc) (ls : Array Slot), (j ≤ nb_ + 1) → (bw ≤ 1) → (Lm fr4 0 j) → (∀ q, j ≤ q → fr4 q = fr3 q) → (lv28 fr4 0 j + lv28 f3 0 (if j ≤ nb_ then j else nb_) = lv28 fr3 0 j + bw * 2 ^ (28 * j)) →  (nb_ + 1 < j + n9) → va_P (dC, dI) vwCl (WR a k h0 vi vj (fT (fT vF 2 fr4) 3 f3) (fT vG 1 gs4)) H → va_D A (WR a k h0 vi vj (fT (fT vF 2 fr4) 3 f3) (fT vG 1 gs4)) → va_S A s.heap H locs → lv_has ls 15 [(0, .ref h0), (1, .int (nI sn)), (2, .int (nI rn)), (3, .int (nI an)), (4, .int (nI bn)), (5, .int (nI na)), (6, .int (nI nb_)), (7, .int (vF 0 (24 * an))), (8, .int (vF 0 (24 * bn))), (9, .int (nI kk)), (10, .int (nI bb)), (12, .int (nI bw)), (13, .int (nI j))] → W p l e _ s m _ below meth c H locs 0 0 _ (F0 m 378 ls [])) => loop (nb_ + 2) 0 0 fr3 _ _ _ (by omega) (by omega) (fun q hq => absurd hq (by omega)) (fun q _ => rfl) (by rw [if_pos (by omega)]; simp [lv28]) (by omega) hP hD hS hl) ?_
                                  intro n9
                                  induction n9 with
                                  | zero => intro j bw fr4 H locs ls hj hbw hl5 hsame5 hsb hf9; exact False.elim (by omega)
                                  | succ n9 ih378_9 =>
                                    intro j bw fr4 H locs ls hj hbw hl5 hsame5 hsb hf378_9 hP hD hS hl
                                    refine lv_iload hx hb dX12_divide_378 (lv_at hl 12 rfl) ?_
                                    refine lv_iload hx hb dX12_divide_380 (lv_at hl 6 rfl) ?_
                                    refine lv_icmp_gt (tgt := 457) hx hb dX12_divide_382 (by decide) (fun c_382 => ?_) (fun c_382 => ?_)
                                    · have t_382 : ((j : Nat) : Int) > ((nb_ : Nat) : Int) := toI_gt c_382 (nI_toInt (by omega)) (nI_toInt (by omega))
                                      have ej : j = nb_ + 1 := by omega
                                      have hsb2 : lv28 fr4 0 (nb_ + 1) + NB9 = lv28 fr3 0 (nb_ + 1) + bw * 2 ^ (28 * (nb_ + 1)) := by rw [← hlB, ← ej]; rw [if_neg (by omega)] at hsb; exact hsb
                                      have hl5m : Lm fr4 0 (nb_ + 1) := by rw [← ej]; exact hl5
                                      have hbw0 := noBorrow hl5m hsb2 fm
                                      rw [hbw0, Nat.zero_mul, Nat.add_zero] at hsb2
                                      have hgk1 : gs4 kk = lN (tt * 2 ^ (bb + 1)) := by rw [hgk, show b1 = bb + 1 by omega]
                                      have htt1 : tt < 2 ^ (28 - (bb + 1)) := by rw [show bb + 1 = b1 by omega]; exact htt
                                      have hta := tt_all (b := bb + 1) (by omega) htt1
                                      have htb := tt_all (b := bb) (by omega) (tt_lt (b := bb) (by omega) htt1)
                                      refine lv_aload_n hx hb dX12_divide_457 rfl (lv_at hl 0 rfl) ?_
                                      refine va_get (D := (dC, dI)) (ci := 12) (v := .ref (a 1)) (C := RX12) (T := TX12) (N := 163) (fs := fM (vS a vi vj)) hx hb hts iwsRX12_divide_in12 hown hK hP 0 rfl rfl 2 (by decide) (hts (.fieldLink RX12 13 "OptimaWorksModel" "sum" "[J") (by decide +kernel)) (fun _ h9 => h9) rfl dX12_divide_458 ?_
                                      refine lv_iload hx hb dX12_divide_461 (lv_at hl 9 rfl) ?_
                                      refine lv_dup2_11 hx hb dX12_divide_463 rfl rfl ?_
                                      refine va_lald (cA := k 1) (n := 48) (f := gs4) hx hb hK hP 2 1 (WR_get 1 (by decide)) (TR_get 1 (by decide)) (vp_in_nI (show kk < 48 by omega) (by omega)) dX12_divide_464 ?_
                                      refine lv_topl (fun y33 hy33 => ?_)
                                      obtain rfl : (gs4 kk) = y33 := (hy33.trans (by rw [nI_clamp (by omega)])).symm
                                      refine lv_topl (fun y34 hy34 => ?_)
                                      obtain rfl : (lN (tt * 2 ^ (bb + 1))) = y34 := (hy34.trans (hgk1)).symm
                                      refine lv_lconst (v := 1) hx hb dX12_divide_465 (by decide) ?_
                                      refine lv_iload hx hb dX12_divide_466 (lv_at hl 10 rfl) ?_
                                      refine lv_lshl hx hb dX12_divide_468 rfl ?_
                                      refine lv_lor hx hb dX12_divide_469 ?_
                                      refine lv_topl (fun y35 hy35 => ?_)
                                      obtain rfl : (lN ((2 * tt + 1) * 2 ^ bb)) = y35 := (hy35.trans (orBit (by omega) (by omega))).symm
                                      refine va_last (cA := k 1) (n := 48) (f := gs4) hx hb hK hP hD hS 2 1 (WR_get 1 (by decide)) (TR_get 1 (by decide)) (vp_in_nI (show kk < 48 by omega) (by omega)) dX12_divide_470 (fun H locs hP hD hS => ?_)
                                      have e9 : fT vG 1 (vp_updL gs4 ((nI kk)).toNatClampNeg (lN ((2 * tt + 1) * 2 ^ bb))) = fT (fT vG 1 gs4) 1 (vp_updL gs4 ((nI kk)).toNatClampNeg (lN ((2 * tt + 1) * 2 ^ bb))) := (fT_sm _ _ _ _).symm
                                      have hP : va_P (dC, dI) vwCl (WR a k h0 vi vj (fT (fT vF 2 fr4) 3 f3) (fT vG 1 (vp_updL gs4 ((nI kk)).toNatClampNeg (lN ((2 * tt + 1) * 2 ^ bb))))) H := by rw [e9, ← WR_G 1 (by decide) _ rfl]; exact hP
                                      have hD : va_D A (WR a k h0 vi vj (fT (fT vF 2 fr4) 3 f3) (fT vG 1 (vp_updL gs4 ((nI kk)).toNatClampNeg (lN ((2 * tt + 1) * 2 ^ bb))))) := by rw [e9, ← WR_G 1 (by decide) _ rfl]; exact hD
                                      clear e9
                                      refine lv_iinc (v := ((nI bb) + (-1))) hx hb dX12_divide_471 hl (k := 10) rfl rfl (by decide) rfl (fun ls (hl : lv_has ls _ ([(10, .int ((nI bb) + (-1))), (0, .ref h0), (1, .int (nI sn)), (2, .int (nI rn)), (3, .int (nI an)), (4, .int (nI bn)), (5, .int (nI na)), (6, .int (nI nb_)), (7, .int (vF 0 (24 * an))), (8, .int (vF 0 (24 * bn))), (9, .int (nI kk)), (12, .int (nI bw)), (13, .int (nI j))])) => ?_)
                                      refine lv_goto (tgt := 284) hx hb dX12_divide_474 (by decide) ?_
                                      have hl : lv_has _ _ ([(0, .ref h0), (1, .int (nI sn)), (2, .int (nI rn)), (3, .int (nI an)), (4, .int (nI bn)), (5, .int (nI na)), (6, .int (nI nb_)), (7, .int (vF 0 (24 * an))), (8, .int (vF 0 (24 * bn))), (9, .int (nI kk)), (10, .int ((nI bb) + (-1)))]) := lv_sub hl [1, 2, 3, 4, 5, 6, 7, 8, 9, 10, 0] rfl
                                      exact ih284_7 ((nI bb) + (-1)) (b1 - 1) (2 * tt + 1) (2 * Q2 + 1) fr4 (vp_updL gs4 ((nI kk)).toNatClampNeg (lN ((2 * tt + 1) * 2 ^ bb))) _ _ _ (by rw [m1T (by omega)]; omega) (by omega) (hl5m) (by omega) (by rw [show b1 - 1 = bb by omega, hA2]; rw [Nat.add_mul, Nat.one_mul]; omega) (by rw [updL_at (by omega), if_pos rfl, show b1 - 1 = bb by omega]) (by (have h9 : tt < 2 ^ (28 - (bb + 1)) := by rw [show bb + 1 = b1 by omega]; exact htt); (have h8 := tt_lt (b := bb) (by omega) h9); rw [show b1 - 1 = bb by omega]; omega) (fun q hq => by rw [updL_at (by omega), if_neg (by omega)]; exact hz4 q hq) (fun q hq => by rw [updL_at (by omega)]; by_cases e9 : q = kk; (rw [if_pos e9, pk_lT (by omega)]; omega); (rw [if_neg e9]; exact hent4 q hq)) (by rw [sv28_upd (by omega) (by omega), hgk1, pk_lT (by omega), pk_lT (by omega), show b1 - 1 = bb by omega]; exact svQ (by rw [show bb + 1 = b1 by omega]; exact hsv4) rfl rfl) (by omega) hP hD hS hl
                                    · have t_382 : ¬ ((j : Nat) : Int) > ((nb_ : Nat) : Int) := toI_ngt c_382 (nI_toInt (by omega)) (nI_toInt (by omega))
                                      try clear hA2
                                      try clear hgk
                                      try clear htt
                                      try clear hz4
                                      try clear hent4
                                      try clear hsv4
                                      try clear hQ2
                                      try clear hRB2
                                      try clear hsh2
                                      try clear hsh
                                      try clear hin0
                                      try clear fm
                                      try clear hBP
                                      try clear hlB
                                      try clear hRB
                                      try clear hQ
                                      try clear hz3
                                      try clear hent
                                      try clear hsv
                                      try clear hge
                                      try clear hAb
                                      try clear eNA
                                      try clear eNB
                                      try clear hSA
                                      try clear hSB
                                      try clear eb0
                                      try clear hna5
                                      try clear hnb5
                                      try clear hr00
                                      try clear hlr
                                      try clear hlr2
                                      try clear hl4
                                      try clear hsame
                                      try clear hzs
                                      try clear hr0
                                      try clear hNB0
                                      try clear hi0
                                      try clear edk
                                      try clear hdk
                                      try clear hna4
                                      try clear hnb4
                                      obtain ⟨d4, hd4, ed4⟩ := limb0N hl4m (q := j) (by omega)
                                      refine lv_aload_n hx hb dX12_divide_385 rfl (lv_at hl 0 rfl) ?_
                                      refine va_get (D := (dC, dI)) (ci := 12) (v := .ref (a 2)) (C := RX12) (T := TX12) (N := 163) (fs := fM (vS a vi vj)) hx hb hts iwsRX12_divide_in12 hown hK hP 0 rfl rfl 3 (by decide) (hts (.fieldLink RX12 17 "OptimaWorksModel" "rest" "[I") (by decide +kernel)) (fun _ h9 => h9) rfl dX12_divide_386 ?_
                                      refine lv_iload hx hb dX12_divide_389 (lv_at hl 12 rfl) ?_
                                      refine va_iald (cA := k 2) (n := 60) (f := fr4) hx hb hK hP 3 2 (WR_get 2 (by decide)) (TR_get 2 (by decide)) (vp_in_nI (show j < 60 by omega) (by omega)) dX12_divide_391 ?_
                                      refine lv_topi (fun y36 hy36 => ?_)
                                      obtain rfl : (fr4 j) = y36 := (hy36.trans (by rw [nI_clamp (by omega)])).symm
                                      refine lv_topi (fun y37 hy37 => ?_)
                                      obtain rfl : (nI d4) = y37 := (hy37.trans ((hsame5 j (by omega)).trans ed4)).symm
                                      refine lv_iload hx hb dX12_divide_392 (lv_at hl 12 rfl) ?_
                                      refine lv_iload hx hb dX12_divide_394 (lv_at hl 6 rfl) ?_
                                      refine lv_icmp_ge (tgt := 409) hx hb dX12_divide_396 (by decide) (fun c_396 => ?_) (fun c_396 => ?_)
                                      · have t_396 : ((j : Nat) : Int) ≥ ((nb_ : Nat) : Int) := toI_ge c_396 (nI_toInt (by omega)) (nI_toInt (by omega))
                                        refine lv_iconst (v := 0) hx hb dX12_divide_409 (by decide) ?_
                                        refine lv_isub hx hb dX12_divide_410 ?_
                                        refine lv_iload hx hb dX12_divide_411 (lv_at hl 11 rfl) ?_
                                        refine lv_isub hx hb dX12_divide_413 ?_
                                        obtain ⟨d3, hd3⟩ : ∃ d3 : Nat, d3 = 0 := ⟨_, rfl⟩
                                        have e43 : (nI d4 - 0).toInt = (d4 : Int) - d3 := by (have e9 : (nI d4 - nI 0).toInt = (d4 : Int) - (0 : Nat) := pk_sub_toInt (by omega) (by omega)); rw [hd3]; exact e9
                                        have hL9 : lv28 f3 0 (if j + 1 ≤ nb_ then j + 1 else nb_) = lv28 f3 0 (if j ≤ nb_ then j else nb_) + d3 * 2 ^ (28 * j) := by rw [if_neg (by omega), if_pos (by omega), hd3, Nat.zero_mul, show j = nb_ by omega]; rfl
                                        have ebw : (nI bw).toInt = (bw : Int) := nI_toInt (by omega)
                                        obtain ⟨vv, hvv⟩ : ∃ vv, vv = (((nI d4) - 0) - (nI bw)) := ⟨_, rfl⟩
                                        have ev : vv.toInt = (d4 : Int) - d3 - bw := by rw [hvv, subB (by omega) (by omega), e43, ebw]
                                        refine lv_topi (fun y38 hy38 => ?_)
                                        obtain rfl : vv = y38 := (hy38.trans (hvv.symm)).symm
                                        refine lv_istore hx hb dX12_divide_414 hl (by decide) rfl (fun ls (hl : lv_has ls _ ([(14, .int vv), (0, .ref h0), (1, .int (nI sn)), (2, .int (nI rn)), (3, .int (nI an)), (4, .int (nI bn)), (5, .int (nI na)), (6, .int (nI nb_)), (7, .int (vF 0 (24 * an))), (8, .int (vF 0 (24 * bn))), (9, .int (nI kk)), (10, .int (nI bb)), (12, .int (nI bw)), (13, .int (nI j))])) => ?_)
                                        refine lv_iload hx hb dX12_divide_416 (lv_at hl 0 rfl) ?_
                                        refine lv_if_ge (tgt := 425) hx hb dX12_divide_418 (by decide) (fun c_418 => ?_) (fun c_418 => ?_)
                                        · have t_418 : (vv).toInt ≥ 0 := toI_ge c_418 rfl (by decide)
                                          refine lv_iconst (v := 0) hx hb dX12_divide_425 (by decide) ?_
                                          refine lv_istore hx hb dX12_divide_426 hl (by decide) rfl (fun ls (hl : lv_has ls _ ([(12, .int 0), (14, .int vv), (0, .ref h0), (1, .int (nI sn)), (2, .int (nI rn)), (3, .int (nI an)), (4, .int (nI bn)), (5, .int (nI na)), (6, .int (nI nb_)), (7, .int (vF 0 (24 * an))), (8, .int (vF 0 (24 * bn))), (9, .int (nI kk)), (10, .int (nI bb)), (13, .int (nI j))])) => ?_)
                                          refine lv_aload_n hx hb dX12_divide_428 rfl (lv_at hl 2 rfl) ?_
                                          refine va_get (D := (dC, dI)) (ci := 12) (v := .ref (a 2)) (C := RX12) (T := TX12) (N := 163) (fs := fM (vS a vi vj)) hx hb hts iwsRX12_divide_in12 hown hK hP 0 rfl rfl 3 (by decide) (hts (.fieldLink RX12 17 "OptimaWorksModel" "rest" "[I") (by decide +kernel)) (fun _ h9 => h9) rfl dX12_divide_429 ?_
                                          refine lv_iload hx hb dX12_divide_432 (lv_at hl 13 rfl) ?_
                                          refine lv_iload hx hb dX12_divide_434 (lv_at hl 1 rfl) ?_
                                          refine lv_if_ge (tgt := 448) hx hb dX12_divide_436 (by decide) (fun c_436 => ?_) (fun c9 => False.elim (by have t9 : ¬ (vv).toInt ≥ 0 := toI_nge c9 rfl (by decide); omega))
                                          have t_436 : (vv).toInt ≥ 0 := toI_ge c_436 rfl (by decide)
                                          refine lv_iload hx hb dX12_divide_448 (lv_at hl 1 rfl) ?_
                                          obtain ⟨vx, hvx⟩ : ∃ vx, vx = (vv : Int32) := ⟨_, rfl⟩
                                          have hxe : vx.toInt = (d4 : Int) - d3 - bw + 268435456 * (0 : Nat) := by rw [hvx, ev]; omega
                                          have hx0 : 0 ≤ vx.toInt := by omega
                                          have hx1 : vx.toInt < 268435456 := by omega
                                          refine lv_topi (fun y39 hy39 => ?_)
                                          obtain rfl : vx = y39 := (hy39.trans (hvx.symm)).symm
                                          refine va_iast (cA := k 2) (n := 60) (f := fr4) hx hb hK hP hD hS 3 2 (WR_get 2 (by decide)) (TR_get 2 (by decide)) (vp_in_nI (show j < 60 by omega) (by omega)) dX12_divide_450 (fun H locs hP hD hS => ?_)
                                          have e9 : fT (fT vF 2 (upd fr4 ((nI j)).toNatClampNeg vx)) 3 f3 = fT (fT (fT vF 2 fr4) 3 f3) 2 (upd fr4 ((nI j)).toNatClampNeg vx) := ((fT_sw _ _ _ (Nat.ne_of_beq_eq_false rfl)).trans (congrArg (fun g9 => fT g9 3 f3) (fT_sm _ _ _ _))).symm
                                          have hP : va_P (dC, dI) vwCl (WR a k h0 vi vj (fT (fT vF 2 (upd fr4 ((nI j)).toNatClampNeg vx)) 3 f3) (fT vG 1 gs4)) H := by rw [e9, ← WR_F 2 (by decide) _ rfl]; exact hP
                                          have hD : va_D A (WR a k h0 vi vj (fT (fT vF 2 (upd fr4 ((nI j)).toNatClampNeg vx)) 3 f3) (fT vG 1 gs4)) := by rw [e9, ← WR_F 2 (by decide) _ rfl]; exact hD
                                          clear e9
                                          refine lv_iinc (v := (nI (j + 1))) hx hb dX12_divide_451 hl (k := 13) rfl (nI_add j 1) (by decide) rfl (fun ls (hl : lv_has ls _ ([(13, .int (nI (j + 1))), (12, .int 0), (14, .int vv), (0, .ref h0), (1, .int (nI sn)), (2, .int (nI rn)), (3, .int (nI an)), (4, .int (nI bn)), (5, .int (nI na)), (6, .int (nI nb_)), (7, .int (vF 0 (24 * an))), (8, .int (vF 0 (24 * bn))), (9, .int (nI kk)), (10, .int (nI bb))])) => ?_)
                                          refine lv_goto (tgt := 378) hx hb dX12_divide_454 (by decide) ?_
                                          have hl : lv_has _ _ ([(0, .ref h0), (1, .int (nI sn)), (2, .int (nI rn)), (3, .int (nI an)), (4, .int (nI bn)), (5, .int (nI na)), (6, .int (nI nb_)), (7, .int (vF 0 (24 * an))), (8, .int (vF 0 (24 * bn))), (9, .int (nI kk)), (10, .int (nI bb)), (12, .int (nI 0)), (13, .int (nI (j + 1)))]) := lv_sub hl [3, 4, 5, 6, 7, 8, 9, 10, 11, 12, 13, 1, 0] rfl
                                          exact ih378_9 (j + 1) 0 (upd fr4 ((nI j)).toNatClampNeg vx) _ _ _ (by omega) (by omega) (fun q hq => by rw [Nat.zero_add, upd_at (by omega)]; by_cases e9 : q = j; (obtain ⟨dx, hdx, edx⟩ := of_toInt (k := 268435456) hx0 hx1; exact ⟨dx, hdx, (if_pos e9).trans edx⟩); (rw [if_neg e9]; exact limb0N hl5 (by omega))) (fun q hq => by rw [upd_at (by omega), if_neg (by omega)]; exact hsame5 q (by omega)) (by rw [hL9]; exact bw_step (f3 := f3) (by omega) ed4 hd4 hxe hx0 hsb) (by omega) hP hD hS hl
                                        · have t_418 : ¬ (vv).toInt ≥ 0 := toI_nge c_418 rfl (by decide)
                                          refine lv_iconst (v := 1) hx hb dX12_divide_421 (by decide) ?_
                                          refine lv_goto (tgt := 426) hx hb dX12_divide_422 (by decide) ?_
                                          refine lv_istore hx hb dX12_divide_426 hl (by decide) rfl (fun ls (hl : lv_has ls _ ([(12, .int 1), (14, .int vv), (0, .ref h0), (1, .int (nI sn)), (2, .int (nI rn)), (3, .int (nI an)), (4, .int (nI bn)), (5, .int (nI na)), (6, .int (nI nb_)), (7, .int (vF 0 (24 * an))), (8, .int (vF 0 (24 * bn))), (9, .int (nI kk)), (10, .int (nI bb)), (13, .int (nI j))])) => ?_)
                                          refine lv_aload_n hx hb dX12_divide_428 rfl (lv_at hl 2 rfl) ?_
                                          refine va_get (D := (dC, dI)) (ci := 12) (v := .ref (a 2)) (C := RX12) (T := TX12) (N := 163) (fs := fM (vS a vi vj)) hx hb hts iwsRX12_divide_in12 hown hK hP 0 rfl rfl 3 (by decide) (hts (.fieldLink RX12 17 "OptimaWorksModel" "rest" "[I") (by decide +kernel)) (fun _ h9 => h9) rfl dX12_divide_429 ?_
                                          refine lv_iload hx hb dX12_divide_432 (lv_at hl 13 rfl) ?_
                                          refine lv_iload hx hb dX12_divide_434 (lv_at hl 1 rfl) ?_
                                          refine lv_if_ge (tgt := 448) hx hb dX12_divide_436 (by decide) (fun c9 => False.elim (by have t9 : (vv).toInt ≥ 0 := toI_ge c9 rfl (by decide); omega)) (fun c_436 => ?_)
                                          have t_436 : ¬ (vv).toInt ≥ 0 := toI_nge c_436 rfl (by decide)
                                          refine lv_iload hx hb dX12_divide_439 (lv_at hl 1 rfl) ?_
                                          refine lv_ldcw (v := 268435456) hx hb hown (hts (.constant RX12 378 268435456) (by decide +kernel)) dX12_divide_441 ?_
                                          refine lv_iadd hx hb dX12_divide_444 ?_
                                          refine lv_goto (tgt := 450) hx hb dX12_divide_445 (by decide) ?_
                                          obtain ⟨vx, hvx⟩ : ∃ vx, vx = ((vv + 268435456) : Int32) := ⟨_, rfl⟩
                                          have hxe : vx.toInt = (d4 : Int) - d3 - bw + 268435456 * (1 : Nat) := by rw [hvx, addB (by omega) (by decide), ev]; rfl
                                          have hx0 : 0 ≤ vx.toInt := by omega
                                          have hx1 : vx.toInt < 268435456 := by omega
                                          refine lv_topi (fun y40 hy40 => ?_)
                                          obtain rfl : vx = y40 := (hy40.trans (hvx.symm)).symm
                                          refine va_iast (cA := k 2) (n := 60) (f := fr4) hx hb hK hP hD hS 3 2 (WR_get 2 (by decide)) (TR_get 2 (by decide)) (vp_in_nI (show j < 60 by omega) (by omega)) dX12_divide_450 (fun H locs hP hD hS => ?_)
                                          have e9 : fT (fT vF 2 (upd fr4 ((nI j)).toNatClampNeg vx)) 3 f3 = fT (fT (fT vF 2 fr4) 3 f3) 2 (upd fr4 ((nI j)).toNatClampNeg vx) := ((fT_sw _ _ _ (Nat.ne_of_beq_eq_false rfl)).trans (congrArg (fun g9 => fT g9 3 f3) (fT_sm _ _ _ _))).symm
                                          have hP : va_P (dC, dI) vwCl (WR a k h0 vi vj (fT (fT vF 2 (upd fr4 ((nI j)).toNatClampNeg vx)) 3 f3) (fT vG 1 gs4)) H := by rw [e9, ← WR_F 2 (by decide) _ rfl]; exact hP
                                          have hD : va_D A (WR a k h0 vi vj (fT (fT vF 2 (upd fr4 ((nI j)).toNatClampNeg vx)) 3 f3) (fT vG 1 gs4)) := by rw [e9, ← WR_F 2 (by decide) _ rfl]; exact hD
                                          clear e9
                                          refine lv_iinc (v := (nI (j + 1))) hx hb dX12_divide_451 hl (k := 13) rfl (nI_add j 1) (by decide) rfl (fun ls (hl : lv_has ls _ ([(13, .int (nI (j + 1))), (12, .int 1), (14, .int vv), (0, .ref h0), (1, .int (nI sn)), (2, .int (nI rn)), (3, .int (nI an)), (4, .int (nI bn)), (5, .int (nI na)), (6, .int (nI nb_)), (7, .int (vF 0 (24 * an))), (8, .int (vF 0 (24 * bn))), (9, .int (nI kk)), (10, .int (nI bb))])) => ?_)
                                          refine lv_goto (tgt := 378) hx hb dX12_divide_454 (by decide) ?_
                                          have hl : lv_has _ _ ([(0, .ref h0), (1, .int (nI sn)), (2, .int (nI rn)), (3, .int (nI an)), (4, .int (nI bn)), (5, .int (nI na)), (6, .int (nI nb_)), (7, .int (vF 0 (24 * an))), (8, .int (vF 0 (24 * bn))), (9, .int (nI kk)), (10, .int (nI bb)), (12, .int (nI 1)), (13, .int (nI (j + 1)))]) := lv_sub hl [3, 4, 5, 6, 7, 8, 9, 10, 11, 12, 13, 1, 0] rfl
                                          exact ih378_9 (j + 1) 1 (upd fr4 ((nI j)).toNatClampNeg vx) _ _ _ (by omega) (by omega) (fun q hq => by rw [Nat.zero_add, upd_at (by omega)]; by_cases e9 : q = j; (obtain ⟨dx, hdx, edx⟩ := of_toInt (k := 268435456) hx0 hx1; exact ⟨dx, hdx, (if_pos e9).trans edx⟩); (rw [if_neg e9]; exact limb0N hl5 (by omega))) (fun q hq => by rw [upd_at (by omega), if_neg (by omega)]; exact hsame5 q (by omega)) (by rw [hL9]; exact bw_step (f3 := f3) (by omega) ed4 hd4 hxe hx0 hsb) (by omega) hP hD hS hl
                                      · have t_396 : ¬ ((j : Nat) : Int) ≥ ((nb_ : Nat) : Int) := toI_nge c_396 (nI_toInt (by omega)) (nI_toInt (by omega))
                                        obtain ⟨d3, hd3, ed3⟩ := limb0N hl3m (q := j) (by omega)
                                        refine lv_aload_n hx hb dX12_divide_399 rfl (lv_at hl 0 rfl) ?_
                                        refine va_get (D := (dC, dI)) (ci := 12) (v := .ref (a 3)) (C := RX12) (T := TX12) (N := 163) (fs := fM (vS a vi vj)) hx hb hts iwsRX12_divide_in12 hown hK hP 0 rfl rfl 4 (by decide) (hts (.fieldLink RX12 20 "OptimaWorksModel" "less" "[I") (by decide +kernel)) (fun _ h9 => h9) rfl dX12_divide_400 ?_
                                        refine lv_iload hx hb dX12_divide_403 (lv_at hl 12 rfl) ?_
                                        refine va_iald (cA := k 3) (n := 30) (f := f3) hx hb hK hP 4 3 (WR_get 3 (by decide)) (TR_get 3 (by decide)) (vp_in_nI (show j < 30 by omega) (by omega)) dX12_divide_405 ?_
                                        refine lv_topi (fun y41 hy41 => ?_)
                                        obtain rfl : (f3 j) = y41 := (hy41.trans (by rw [nI_clamp (by omega)])).symm
                                        refine lv_topi (fun y42 hy42 => ?_)
                                        obtain rfl : (nI d3) = y42 := (hy42.trans (ed3)).symm
                                        refine lv_goto (tgt := 410) hx hb dX12_divide_406 (by decide) ?_
                                        refine lv_isub hx hb dX12_divide_410 ?_
                                        refine lv_iload hx hb dX12_divide_411 (lv_at hl 11 rfl) ?_
                                        refine lv_isub hx hb dX12_divide_413 ?_
                                        have e43 : (nI d4 - nI d3).toInt = (d4 : Int) - d3 := pk_sub_toInt (by omega) (by omega)
                                        have hL9 : lv28 f3 0 (if j + 1 ≤ nb_ then j + 1 else nb_) = lv28 f3 0 (if j ≤ nb_ then j else nb_) + d3 * 2 ^ (28 * j) := by rw [if_pos (by omega), if_pos (by omega)]; exact lv28_one0 ed3 (by omega)
                                        have ebw : (nI bw).toInt = (bw : Int) := nI_toInt (by omega)
                                        obtain ⟨vv, hvv⟩ : ∃ vv, vv = (((nI d4) - (nI d3)) - (nI bw)) := ⟨_, rfl⟩
                                        have ev : vv.toInt = (d4 : Int) - d3 - bw := by rw [hvv, subB (by omega) (by omega), e43, ebw]
                                        refine lv_topi (fun y43 hy43 => ?_)
                                        obtain rfl : vv = y43 := (hy43.trans (hvv.symm)).symm
                                        refine lv_istore hx hb dX12_divide_414 hl (by decide) rfl (fun ls (hl : lv_has ls _ ([(14, .int vv), (0, .ref h0), (1, .int (nI sn)), (2, .int (nI rn)), (3, .int (nI an)), (4, .int (nI bn)), (5, .int (nI na)), (6, .int (nI nb_)), (7, .int (vF 0 (24 * an))), (8, .int (vF 0 (24 * bn))), (9, .int (nI kk)), (10, .int (nI bb)), (12, .int (nI bw)), (13, .int (nI j))])) => ?_)
                                        refine lv_iload hx hb dX12_divide_416 (lv_at hl 0 rfl) ?_
                                        refine lv_if_ge (tgt := 425) hx hb dX12_divide_418 (by decide) (fun c_418 => ?_) (fun c_418 => ?_)
                                        · have t_418 : (vv).toInt ≥ 0 := toI_ge c_418 rfl (by decide)
                                          refine lv_iconst (v := 0) hx hb dX12_divide_425 (by decide) ?_
                                          refine lv_istore hx hb dX12_divide_426 hl (by decide) rfl (fun ls (hl : lv_has ls _ ([(12, .int 0), (14, .int vv), (0, .ref h0), (1, .int (nI sn)), (2, .int (nI rn)), (3, .int (nI an)), (4, .int (nI bn)), (5, .int (nI na)), (6, .int (nI nb_)), (7, .int (vF 0 (24 * an))), (8, .int (vF 0 (24 * bn))), (9, .int (nI kk)), (10, .int (nI bb)), (13, .int (nI j))])) => ?_)
                                          refine lv_aload_n hx hb dX12_divide_428 rfl (lv_at hl 2 rfl) ?_
                                          refine va_get (D := (dC, dI)) (ci := 12) (v := .ref (a 2)) (C := RX12) (T := TX12) (N := 163) (fs := fM (vS a vi vj)) hx hb hts iwsRX12_divide_in12 hown hK hP 0 rfl rfl 3 (by decide) (hts (.fieldLink RX12 17 "OptimaWorksModel" "rest" "[I") (by decide +kernel)) (fun _ h9 => h9) rfl dX12_divide_429 ?_
                                          refine lv_iload hx hb dX12_divide_432 (lv_at hl 13 rfl) ?_
                                          refine lv_iload hx hb dX12_divide_434 (lv_at hl 1 rfl) ?_
                                          refine lv_if_ge (tgt := 448) hx hb dX12_divide_436 (by decide) (fun c_436 => ?_) (fun c9 => False.elim (by have t9 : ¬ (vv).toInt ≥ 0 := toI_nge c9 rfl (by decide); omega))
                                          have t_436 : (vv).toInt ≥ 0 := toI_ge c_436 rfl (by decide)
                                          refine lv_iload hx hb dX12_divide_448 (lv_at hl 1 rfl) ?_
                                          obtain ⟨vx, hvx⟩ : ∃ vx, vx = (vv : Int32) := ⟨_, rfl⟩
                                          have hxe : vx.toInt = (d4 : Int) - d3 - bw + 268435456 * (0 : Nat) := by rw [hvx, ev]; omega
                                          have hx0 : 0 ≤ vx.toInt := by omega
                                          have hx1 : vx.toInt < 268435456 := by omega
                                          refine lv_topi (fun y44 hy44 => ?_)
                                          obtain rfl : vx = y44 := (hy44.trans (hvx.symm)).symm
                                          refine va_iast (cA := k 2) (n := 60) (f := fr4) hx hb hK hP hD hS 3 2 (WR_get 2 (by decide)) (TR_get 2 (by decide)) (vp_in_nI (show j < 60 by omega) (by omega)) dX12_divide_450 (fun H locs hP hD hS => ?_)
                                          have e9 : fT (fT vF 2 (upd fr4 ((nI j)).toNatClampNeg vx)) 3 f3 = fT (fT (fT vF 2 fr4) 3 f3) 2 (upd fr4 ((nI j)).toNatClampNeg vx) := ((fT_sw _ _ _ (Nat.ne_of_beq_eq_false rfl)).trans (congrArg (fun g9 => fT g9 3 f3) (fT_sm _ _ _ _))).symm
                                          have hP : va_P (dC, dI) vwCl (WR a k h0 vi vj (fT (fT vF 2 (upd fr4 ((nI j)).toNatClampNeg vx)) 3 f3) (fT vG 1 gs4)) H := by rw [e9, ← WR_F 2 (by decide) _ rfl]; exact hP
                                          have hD : va_D A (WR a k h0 vi vj (fT (fT vF 2 (upd fr4 ((nI j)).toNatClampNeg vx)) 3 f3) (fT vG 1 gs4)) := by rw [e9, ← WR_F 2 (by decide) _ rfl]; exact hD
                                          clear e9
                                          refine lv_iinc (v := (nI (j + 1))) hx hb dX12_divide_451 hl (k := 13) rfl (nI_add j 1) (by decide) rfl (fun ls (hl : lv_has ls _ ([(13, .int (nI (j + 1))), (12, .int 0), (14, .int vv), (0, .ref h0), (1, .int (nI sn)), (2, .int (nI rn)), (3, .int (nI an)), (4, .int (nI bn)), (5, .int (nI na)), (6, .int (nI nb_)), (7, .int (vF 0 (24 * an))), (8, .int (vF 0 (24 * bn))), (9, .int (nI kk)), (10, .int (nI bb))])) => ?_)
                                          refine lv_goto (tgt := 378) hx hb dX12_divide_454 (by decide) ?_
                                          have hl : lv_has _ _ ([(0, .ref h0), (1, .int (nI sn)), (2, .int (nI rn)), (3, .int (nI an)), (4, .int (nI bn)), (5, .int (nI na)), (6, .int (nI nb_)), (7, .int (vF 0 (24 * an))), (8, .int (vF 0 (24 * bn))), (9, .int (nI kk)), (10, .int (nI bb)), (12, .int (nI 0)), (13, .int (nI (j + 1)))]) := lv_sub hl [3, 4, 5, 6, 7, 8, 9, 10, 11, 12, 13, 1, 0] rfl
                                          exact ih378_9 (j + 1) 0 (upd fr4 ((nI j)).toNatClampNeg vx) _ _ _ (by omega) (by omega) (fun q hq => by rw [Nat.zero_add, upd_at (by omega)]; by_cases e9 : q = j; (obtain ⟨dx, hdx, edx⟩ := of_toInt (k := 268435456) hx0 hx1; exact ⟨dx, hdx, (if_pos e9).trans edx⟩); (rw [if_neg e9]; exact limb0N hl5 (by omega))) (fun q hq => by rw [upd_at (by omega), if_neg (by omega)]; exact hsame5 q (by omega)) (by rw [hL9]; exact bw_step (f3 := f3) (by omega) ed4 hd4 hxe hx0 hsb) (by omega) hP hD hS hl
                                        · have t_418 : ¬ (vv).toInt ≥ 0 := toI_nge c_418 rfl (by decide)
                                          refine lv_iconst (v := 1) hx hb dX12_divide_421 (by decide) ?_
                                          refine lv_goto (tgt := 426) hx hb dX12_divide_422 (by decide) ?_
                                          refine lv_istore hx hb dX12_divide_426 hl (by decide) rfl (fun ls (hl : lv_has ls _ ([(12, .int 1), (14, .int vv), (0, .ref h0), (1, .int (nI sn)), (2, .int (nI rn)), (3, .int (nI an)), (4, .int (nI bn)), (5, .int (nI na)), (6, .int (nI nb_)), (7, .int (vF 0 (24 * an))), (8, .int (vF 0 (24 * bn))), (9, .int (nI kk)), (10, .int (nI bb)), (13, .int (nI j))])) => ?_)
                                          refine lv_aload_n hx hb dX12_divide_428 rfl (lv_at hl 2 rfl) ?_
                                          refine va_get (D := (dC, dI)) (ci := 12) (v := .ref (a 2)) (C := RX12) (T := TX12) (N := 163) (fs := fM (vS a vi vj)) hx hb hts iwsRX12_divide_in12 hown hK hP 0 rfl rfl 3 (by decide) (hts (.fieldLink RX12 17 "OptimaWorksModel" "rest" "[I") (by decide +kernel)) (fun _ h9 => h9) rfl dX12_divide_429 ?_
                                          refine lv_iload hx hb dX12_divide_432 (lv_at hl 13 rfl) ?_
                                          refine lv_iload hx hb dX12_divide_434 (lv_at hl 1 rfl) ?_
                                          refine lv_if_ge (tgt := 448) hx hb dX12_divide_436 (by decide) (fun c9 => False.elim (by have t9 : (vv).toInt ≥ 0 := toI_ge c9 rfl (by decide); omega)) (fun c_436 => ?_)
                                          have t_436 : ¬ (vv).toInt ≥ 0 := toI_nge c_436 rfl (by decide)
                                          refine lv_iload hx hb dX12_divide_439 (lv_at hl 1 rfl) ?_
                                          refine lv_ldcw (v := 268435456) hx hb hown (hts (.constant RX12 378 268435456) (by decide +kernel)) dX12_divide_441 ?_
                                          refine lv_iadd hx hb dX12_divide_444 ?_
                                          refine lv_goto (tgt := 450) hx hb dX12_divide_445 (by decide) ?_
                                          obtain ⟨vx, hvx⟩ : ∃ vx, vx = ((vv + 268435456) : Int32) := ⟨_, rfl⟩
                                          have hxe : vx.toInt = (d4 : Int) - d3 - bw + 268435456 * (1 : Nat) := by rw [hvx, addB (by omega) (by decide), ev]; rfl
                                          have hx0 : 0 ≤ vx.toInt := by omega
                                          have hx1 : vx.toInt < 268435456 := by omega
                                          refine lv_topi (fun y45 hy45 => ?_)
                                          obtain rfl : vx = y45 := (hy45.trans (hvx.symm)).symm
                                          refine va_iast (cA := k 2) (n := 60) (f := fr4) hx hb hK hP hD hS 3 2 (WR_get 2 (by decide)) (TR_get 2 (by decide)) (vp_in_nI (show j < 60 by omega) (by omega)) dX12_divide_450 (fun H locs hP hD hS => ?_)
                                          have e9 : fT (fT vF 2 (upd fr4 ((nI j)).toNatClampNeg vx)) 3 f3 = fT (fT (fT vF 2 fr4) 3 f3) 2 (upd fr4 ((nI j)).toNatClampNeg vx) := ((fT_sw _ _ _ (Nat.ne_of_beq_eq_false rfl)).trans (congrArg (fun g9 => fT g9 3 f3) (fT_sm _ _ _ _))).symm
                                          have hP : va_P (dC, dI) vwCl (WR a k h0 vi vj (fT (fT vF 2 (upd fr4 ((nI j)).toNatClampNeg vx)) 3 f3) (fT vG 1 gs4)) H := by rw [e9, ← WR_F 2 (by decide) _ rfl]; exact hP
                                          have hD : va_D A (WR a k h0 vi vj (fT (fT vF 2 (upd fr4 ((nI j)).toNatClampNeg vx)) 3 f3) (fT vG 1 gs4)) := by rw [e9, ← WR_F 2 (by decide) _ rfl]; exact hD
                                          clear e9
                                          refine lv_iinc (v := (nI (j + 1))) hx hb dX12_divide_451 hl (k := 13) rfl (nI_add j 1) (by decide) rfl (fun ls (hl : lv_has ls _ ([(13, .int (nI (j + 1))), (12, .int 1), (14, .int vv), (0, .ref h0), (1, .int (nI sn)), (2, .int (nI rn)), (3, .int (nI an)), (4, .int (nI bn)), (5, .int (nI na)), (6, .int (nI nb_)), (7, .int (vF 0 (24 * an))), (8, .int (vF 0 (24 * bn))), (9, .int (nI kk)), (10, .int (nI bb))])) => ?_)
                                          refine lv_goto (tgt := 378) hx hb dX12_divide_454 (by decide) ?_
                                          have hl : lv_has _ _ ([(0, .ref h0), (1, .int (nI sn)), (2, .int (nI rn)), (3, .int (nI an)), (4, .int (nI bn)), (5, .int (nI na)), (6, .int (nI nb_)), (7, .int (vF 0 (24 * an))), (8, .int (vF 0 (24 * bn))), (9, .int (nI kk)), (10, .int (nI bb)), (12, .int (nI 1)), (13, .int (nI (j + 1)))]) := lv_sub hl [3, 4, 5, 6, 7, 8, 9, 10, 11, 12, 13, 1, 0] rfl
                                          exact ih378_9 (j + 1) 1 (upd fr4 ((nI j)).toNatClampNeg vx) _ _ _ (by omega) (by omega) (fun q hq => by rw [Nat.zero_add, upd_at (by omega)]; by_cases e9 : q = j; (obtain ⟨dx, hdx, edx⟩ := of_toInt (k := 268435456) hx0 hx1; exact ⟨dx, hdx, (if_pos e9).trans edx⟩); (rw [if_neg e9]; exact limb0N hl5 (by omega))) (fun q hq => by rw [upd_at (by omega), if_neg (by omega)]; exact hsame5 q (by omega)) (by rw [hL9]; exact bw_step (f3 := f3) (by omega) ed4 hd4 hxe hx0 hsb) (by omega) hP hD hS hl
                                · have f363_0 : lv28 fr3 0 (nb_ + 1) < lv28 f3 0 nb_ := f363_0
                                  have fm : lv28 fr3 0 (nb_ + 1) < lv28 f3 0 nb_ := f363_0
                                  rw [hlB] at fm
                                  refine lv_if_ne (tgt := 372) hx hb dX12_divide_366 (by decide) (fun c9 => absurd c9 (by decide)) (fun _ => ?_)
                                  refine lv_goto (tgt := 471) hx hb dX12_divide_369 (by decide) ?_
                                  refine lv_iinc (v := ((nI bb) + (-1))) hx hb dX12_divide_471 hl (k := 10) rfl rfl (by decide) rfl (fun ls (hl : lv_has ls _ ([(10, .int ((nI bb) + (-1))), (0, .ref h0), (1, .int (nI sn)), (2, .int (nI rn)), (3, .int (nI an)), (4, .int (nI bn)), (5, .int (nI na)), (6, .int (nI nb_)), (7, .int (vF 0 (24 * an))), (8, .int (vF 0 (24 * bn))), (9, .int (nI kk)), (11, .int (nI inb)), (12, .int (nI i))])) => ?_)
                                  refine lv_goto (tgt := 284) hx hb dX12_divide_474 (by decide) ?_
                                  have hl : lv_has _ _ ([(0, .ref h0), (1, .int (nI sn)), (2, .int (nI rn)), (3, .int (nI an)), (4, .int (nI bn)), (5, .int (nI na)), (6, .int (nI nb_)), (7, .int (vF 0 (24 * an))), (8, .int (vF 0 (24 * bn))), (9, .int (nI kk)), (10, .int ((nI bb) + (-1)))]) := lv_sub hl [1, 2, 3, 4, 5, 6, 7, 8, 9, 10, 0] rfl
                                  exact ih284_7 ((nI bb) + (-1)) (b1 - 1) (2 * tt) (2 * Q2) fr3 gs4 _ _ _ (by rw [m1T (by omega)]; omega) (by omega) (hl4m) (by omega) (by rw [show b1 - 1 = bb by omega, hA2]; omega) (by rw [hgk, show b1 - 1 = bb by omega, show b1 = bb + 1 by omega, ttZ]) (by (have h9 : tt < 2 ^ (28 - (bb + 1)) := by rw [show bb + 1 = b1 by omega]; exact htt); (have h8 := tt_lt (b := bb) (by omega) h9); rw [show b1 - 1 = bb by omega]; omega) (hz4) (hent4) (by rw [hsv4, show b1 - 1 = bb by omega, show b1 = bb + 1 by omega, svZ]) (by omega) hP hD hS hl
                              · have t_317 : ¬ ((i : Nat) : Int) > ((nb_ : Nat) : Int) := toI_ngt c_317 (nI_toInt (by omega)) (nI_toInt (by omega))
                                obtain ⟨di, hdi, edi⟩ := limb0N hlr2 (q := i) (by omega)
                                refine lv_aload_n hx hb dX12_divide_320 rfl (lv_at hl 0 rfl) ?_
                                refine va_get (D := (dC, dI)) (ci := 12) (v := .ref (a 2)) (C := RX12) (T := TX12) (N := 163) (fs := fM (vS a vi vj)) hx hb hts iwsRX12_divide_in12 hown hK hP 0 rfl rfl 3 (by decide) (hts (.fieldLink RX12 17 "OptimaWorksModel" "rest" "[I") (by decide +kernel)) (fun _ h9 => h9) rfl dX12_divide_321 ?_
                                refine lv_iload hx hb dX12_divide_324 (lv_at hl 12 rfl) ?_
                                refine va_iald (cA := k 2) (n := 60) (f := fr3) hx hb hK hP 3 2 (WR_get 2 (by decide)) (TR_get 2 (by decide)) (vp_in_nI (show i < 60 by omega) (by omega)) dX12_divide_326 ?_
                                refine lv_topi (fun y46 hy46 => ?_)
                                obtain rfl : (fr3 i) = y46 := (hy46.trans (by rw [nI_clamp (by omega)])).symm
                                refine lv_topi (fun y47 hy47 => ?_)
                                obtain rfl : (nI di) = y47 := (hy47.trans ((hsame i (by omega)).trans edi)).symm
                                refine lv_iconst (v := 1) hx hb dX12_divide_327 (by decide) ?_
                                refine lv_ishl hx hb dX12_divide_328 ?_
                                refine lv_iload hx hb dX12_divide_329 (lv_at hl 11 rfl) ?_
                                refine lv_ior hx hb dX12_divide_331 ?_
                                refine lv_topi (fun y48 hy48 => ?_)
                                obtain rfl : (nI (2 * di + inb)) = y48 := (hy48.trans (shl1 (by omega) (by omega))).symm
                                refine lv_istore hx hb dX12_divide_332 hl (by decide) rfl (fun ls (hl : lv_has ls _ ([(13, .int (nI (2 * di + inb))), (0, .ref h0), (1, .int (nI sn)), (2, .int (nI rn)), (3, .int (nI an)), (4, .int (nI bn)), (5, .int (nI na)), (6, .int (nI nb_)), (7, .int (vF 0 (24 * an))), (8, .int (vF 0 (24 * bn))), (9, .int (nI kk)), (10, .int (nI bb)), (11, .int (nI inb)), (12, .int (nI i))])) => ?_)
                                refine lv_iload hx hb dX12_divide_334 (lv_at hl 0 rfl) ?_
                                refine lv_bipush (v := 28) hx hb dX12_divide_336 (by decide) ?_
                                refine lv_ishr hx hb dX12_divide_338 ?_
                                refine lv_topi (fun y49 hy49 => ?_)
                                obtain rfl : (nI ((2 * di + inb) / 268435456)) = y49 := (hy49.trans (shr32 (by omega))).symm
                                refine lv_istore hx hb dX12_divide_339 hl (by decide) rfl (fun ls (hl : lv_has ls _ ([(11, .int (nI ((2 * di + inb) / 268435456))), (13, .int (nI (2 * di + inb))), (0, .ref h0), (1, .int (nI sn)), (2, .int (nI rn)), (3, .int (nI an)), (4, .int (nI bn)), (5, .int (nI na)), (6, .int (nI nb_)), (7, .int (vF 0 (24 * an))), (8, .int (vF 0 (24 * bn))), (9, .int (nI kk)), (10, .int (nI bb)), (12, .int (nI i))])) => ?_)
                                refine lv_aload_n hx hb dX12_divide_341 rfl (lv_at hl 2 rfl) ?_
                                refine va_get (D := (dC, dI)) (ci := 12) (v := .ref (a 2)) (C := RX12) (T := TX12) (N := 163) (fs := fM (vS a vi vj)) hx hb hts iwsRX12_divide_in12 hown hK hP 0 rfl rfl 3 (by decide) (hts (.fieldLink RX12 17 "OptimaWorksModel" "rest" "[I") (by decide +kernel)) (fun _ h9 => h9) rfl dX12_divide_342 ?_
                                refine lv_iload hx hb dX12_divide_345 (lv_at hl 13 rfl) ?_
                                refine lv_iload hx hb dX12_divide_347 (lv_at hl 1 rfl) ?_
                                refine lv_ldcw (v := 268435455) hx hb hown (hts (.constant RX12 373 268435455) (by decide +kernel)) dX12_divide_349 ?_
                                refine lv_iand hx hb dX12_divide_352 ?_
                                refine lv_topi (fun y50 hy50 => ?_)
                                obtain rfl : (nI ((2 * di + inb) % 268435456)) = y50 := (hy50.trans (mask32 (by omega))).symm
                                refine va_iast (cA := k 2) (n := 60) (f := fr3) hx hb hK hP hD hS 3 2 (WR_get 2 (by decide)) (TR_get 2 (by decide)) (vp_in_nI (show i < 60 by omega) (by omega)) dX12_divide_353 (fun H locs hP hD hS => ?_)
                                have e9 : fT (fT vF 2 (upd fr3 ((nI i)).toNatClampNeg (nI ((2 * di + inb) % 268435456)))) 3 f3 = fT (fT (fT vF 2 fr3) 3 f3) 2 (upd fr3 ((nI i)).toNatClampNeg (nI ((2 * di + inb) % 268435456))) := ((fT_sw _ _ _ (Nat.ne_of_beq_eq_false rfl)).trans (congrArg (fun g9 => fT g9 3 f3) (fT_sm _ _ _ _))).symm
                                have hP : va_P (dC, dI) vwCl (WR a k h0 vi vj (fT (fT vF 2 (upd fr3 ((nI i)).toNatClampNeg (nI ((2 * di + inb) % 268435456)))) 3 f3) (fT vG 1 gs4)) H := by rw [e9, ← WR_F 2 (by decide) _ rfl]; exact hP
                                have hD : va_D A (WR a k h0 vi vj (fT (fT vF 2 (upd fr3 ((nI i)).toNatClampNeg (nI ((2 * di + inb) % 268435456)))) 3 f3) (fT vG 1 gs4)) := by rw [e9, ← WR_F 2 (by decide) _ rfl]; exact hD
                                clear e9
                                refine lv_iinc (v := (nI (i + 1))) hx hb dX12_divide_354 hl (k := 13) rfl (nI_add i 1) (by decide) rfl (fun ls (hl : lv_has ls _ ([(12, .int (nI (i + 1))), (11, .int (nI ((2 * di + inb) / 268435456))), (13, .int (nI (2 * di + inb))), (0, .ref h0), (1, .int (nI sn)), (2, .int (nI rn)), (3, .int (nI an)), (4, .int (nI bn)), (5, .int (nI na)), (6, .int (nI nb_)), (7, .int (vF 0 (24 * an))), (8, .int (vF 0 (24 * bn))), (9, .int (nI kk)), (10, .int (nI bb))])) => ?_)
                                refine lv_goto (tgt := 313) hx hb dX12_divide_357 (by decide) ?_
                                have hl : lv_has _ _ ([(0, .ref h0), (1, .int (nI sn)), (2, .int (nI rn)), (3, .int (nI an)), (4, .int (nI bn)), (5, .int (nI na)), (6, .int (nI nb_)), (7, .int (vF 0 (24 * an))), (8, .int (vF 0 (24 * bn))), (9, .int (nI kk)), (10, .int (nI bb)), (11, .int (nI ((2 * di + inb) / 268435456))), (12, .int (nI (i + 1)))]) := lv_sub hl [3, 4, 5, 6, 7, 8, 9, 10, 11, 12, 13, 1, 0] rfl
                                exact ih313_8 (i + 1) ((2 * di + inb) / 268435456) (upd fr3 ((nI i)).toNatClampNeg (nI ((2 * di + inb) % 268435456))) _ _ _ (by omega) (by omega) (sh_step (by omega) (by omega) (by omega) edi hsh) (fun q hq => by rw [Nat.zero_add, upd_at (by omega)]; by_cases e9 : q = i; (exact ⟨(2 * di + inb) % 268435456, by omega, if_pos e9⟩); (rw [if_neg e9]; exact limb0N hl4 (by omega))) (fun q hq => by rw [upd_at (by omega), if_neg (by omega)]; exact hsame q (by omega)) (by omega) hP hD hS hl
                  · have t_163 : ((nb_ : Nat) : Int) = 1 := toI_nne c_163 (nI_toInt (by omega)) (by decide)
                    obtain ⟨d0, hd0, ed0⟩ := hnb3 0 (by omega)
                    have ed1 : f3 0 = nI d0 := by rw [hl3 0 (by omega)]; exact ed0
                    have hd00 : 0 < d0 := Nat.pos_of_ne_zero fun h9 => hnb4 (by omega) (by rw [show 24 * bn + 1 + nb_ = 24 * bn + 2 + 0 by omega, ed0, h9]; exact nI_0)
                    have hB : NB9 = d0 := by rw [hnb5, show nb_ = 1 by omega]; simp only [lv28]; rw [ed0, nI_clamp (by omega)]; simp
                    refine lv_lconst (v := 0) hx hb dX12_divide_166 (by decide) ?_
                    refine lv_lstore hx hb dX12_divide_167 hl (by decide) rfl (fun ls (hl : lv_has ls _ ([(9, .long 0), (0, .ref h0), (1, .int (nI sn)), (2, .int (nI rn)), (3, .int (nI an)), (4, .int (nI bn)), (5, .int (nI na)), (6, .int (nI nb_)), (7, .int (vF 0 (24 * an))), (8, .int (vF 0 (24 * bn)))])) => ?_)
                    refine lv_iload hx hb dX12_divide_169 (lv_at hl 6 rfl) ?_
                    refine lv_iconst (v := 1) hx hb dX12_divide_171 (by decide) ?_
                    refine lv_isub hx hb dX12_divide_172 ?_
                    refine lv_istore hx hb dX12_divide_173 hl (by decide) rfl (fun ls (hl : lv_has ls _ ([(11, .int ((nI na) - 1)), (9, .long 0), (0, .ref h0), (1, .int (nI sn)), (2, .int (nI rn)), (3, .int (nI an)), (4, .int (nI bn)), (5, .int (nI na)), (6, .int (nI nb_)), (7, .int (vF 0 (24 * an))), (8, .int (vF 0 (24 * bn)))])) => ?_)
                    have hl : lv_has _ _ ([(0, .ref h0), (1, .int (nI sn)), (2, .int (nI rn)), (3, .int (nI an)), (4, .int (nI bn)), (5, .int (nI na)), (6, .int (nI nb_)), (7, .int (vF 0 (24 * an))), (8, .int (vF 0 (24 * bn))), (9, .long (lN 0)), (11, .int ((nI na) - 1))]) := lv_sub hl [2, 3, 4, 5, 6, 7, 8, 9, 10, 1, 0] rfl
                    refine (fun (loop : ∀ (n9 : Nat) (kq : Int32) (kk1 : Nat) (QQ : Nat) (cr : Nat) (gs3 : Nat → Int64) (H : Heap) (locs : List Loc) (ls : Array Slot), ((kq).toInt = (kk1 : Int) - 1) → (kk1 ≤ na) → (cr < d0) → (lv28 (vF 0) (24 * an + 2) na / 2 ^ (28 * kk1) = QQ * d0 + cr) → (∀ q, q < kk1 → gs3 q = 0) → (∀ q, q < na → 0 ≤ (gs3 q).toInt ∧ (gs3 q).toInt < 268435456) → (sv28 gs3 na = ((QQ * 2 ^ (28 * kk1) : Nat) : Int)) →  (kk1 < n9) → va_P (dC, dI) vwCl (WR a k h0 vi vj (fT (fT vF 2 f2) 3 f3) (fT vG 1 gs3)) H → va_D A (WR a k h0 vi vj (fT (fT vF 2 f2) 3 f3) (fT vG 1 gs3)) → va_S A s.heap H locs → lv_has ls 15 [(0, .ref h0), (1, .int (nI sn)), (2, .int (nI rn)), (3, .int (nI an)), (4, .int (nI bn)), (5, .int (nI na)), (6, .int (nI nb_)), (7, .int (vF 0 (24 * an))), (8, .int (vF 0 (24 * bn))), (9, .long (lN cr)), (11, .int kq)] → W p l e _ s m _ below meth c H locs 0 0 _ (F0 m 175 ls [])) => loop (na + 1) ((nI na) - 1) na 0 0 gs1 _ _ _ (by exact pk_sub_toInt (a := na) (b := 1) (by omega) (by omega)) (by omega) (by omega) (by rw [Nat.div_eq_of_lt (lv28_lt hna3)]; simp) (fun q hq => hzs q (by omega)) (fun q hq => by rw [hzs q (by omega)]; decide) (by rw [sv28_zero (fun q hq => hzs q (by omega))]; simp) (by omega) hP hD hS hl) ?_
                    intro n9
                    induction n9 with
                    | zero => intro kq kk1 QQ cr gs3 H locs ls hkq hkn hcr hQ hz3 hent hsv hf9; exact False.elim (by omega)
                    | succ n9 ih175_10 =>
                      intro kq kk1 QQ cr gs3 H locs ls hkq hkn hcr hQ hz3 hent hsv hf175_10 hP hD hS hl
                      refine lv_iload hx hb dX12_divide_175 (lv_at hl 10 rfl) ?_
                      refine lv_if_lt (tgt := 238) hx hb dX12_divide_177 (by decide) (fun c_177 => ?_) (fun c_177 => ?_)
                      · have t_177 : (kq).toInt < 0 := toI_lt c_177 rfl (by decide)
                        have hk0 : kk1 = 0 := by omega
                        rw [hk0] at hQ hsv
                        simp only [Nat.mul_zero, Nat.pow_zero, Nat.div_one, Nat.mul_one] at hQ hsv
                        obtain ⟨hQ1, hR1⟩ := divQ (A := NA9) (B := NB9) (by rw [hna5, hB]; exact hQ) (by omega)
                        have ecr : (lN cr).toInt = (cr : Int) := pk_lT (by omega)
                        have ecn : (-(lN cr)).toInt = -(cr : Int) := by rw [Int64.toInt_neg, ecr]; exact Int.bmod_eq_of_le (by omega) (by omega)
                        refine lv_aload_n hx hb dX12_divide_238 rfl (lv_at hl 0 rfl) ?_
                        refine lv_iload_n hx hb dX12_divide_239 rfl (lv_at hl 1 rfl) ?_
                        refine lv_iload hx hb dX12_divide_240 (lv_at hl 5 rfl) ?_
                        refine lv_iload hx hb dX12_divide_242 (lv_at hl 7 rfl) ?_
                        refine lv_iload hx hb dX12_divide_244 (lv_at hl 8 rfl) ?_
                        refine lv_imul hx hb dX12_divide_246 ?_
                        have hFc := allFree hD hS hA
                        refine va_callv (va_runV (As := [.int (nI sn), .int (nI na), .int ((vF 0 (24 * an)) * (vF 0 (24 * bn)))]) (rest := []) ⟨hx, hb, hml, hown, hts⟩ (r_X12_carry l dC dI a k h0 vi vj (fT (fT vF 2 f2) 3 f3) (fT vG 1 gs3) sn na ((vF 0 (24 * an)) * (vF 0 (24 * bn))) (NA9 / NB9) (if xa * xb < 0 then -1 else 1) (by first | with_reducible assumption | decide | omega | rfl | assumption) (by first | with_reducible assumption | decide | omega | rfl | assumption) (fun q hq => by have := hent q hq; show -1152921504606846976 ≤ (gs3 q).toInt ∧ (gs3 q).toInt ≤ 1152921504606846976; omega) (by show sv28 gs3 na = _; rw [hsv, hQ1]) (Nat.lt_of_le_of_lt (Nat.div_le_self _ _) hAb.out) (fun h9 => sgProd hSA.out hSB.out (by rw [eNA.out, eNB.out]; exact Nat.mul_pos (by omega) (by omega))) H.size) (cwV 3 hts gwsRX12_divide_4 rfl rfl rfl hd_yX12_carry_RX12 (by decide +kernel)) (fz_pre (va_recv hK hP (ci := 12) (q0 := 0) rfl rfl) hP hK hD) rfl rfl hl.1 rfl (lv_room (Nat.le_of_ble_eq_true rfl)) dX12_divide_247 (by decide +kernel)) hS (fun q _ h => hFc q h) hFc (fun g247 t9_ H locs ht hvm hw9 hB9 hz1 hk1 hS => ?_)
                        have hP : va_P (dC, dI) vwCl (WR a k h0 vi vj (fT (fT (fT vF 2 f2) 3 f3) 0 g247) (fT vG 1 gs3)) H := fz_P ht hB9.1
                        have hD : va_D A (WR a k h0 vi vj (fT (fT (fT vF 2 f2) 3 f3) 0 g247) (fT vG 1 gs3)) := hB9.2.weaken (fun _ q _ h => hFc q.1 h)
                        revert hw9
                        refine fz_a2 ?_
                        intro f247_0 f247_1
                        have f247_1 : ∀ q, (q < 24 * sn ∨ 24 * sn + 24 ≤ q) → g247 q = (vF 0) q := f247_1
                        refine lv_aload_n hx hb dX12_divide_250 rfl (lv_at hl 0 rfl) ?_
                        refine lv_iload_n hx hb dX12_divide_251 rfl (lv_at hl 2 rfl) ?_
                        refine lv_iload hx hb dX12_divide_252 (lv_at hl 7 rfl) ?_
                        refine lv_if_ge (tgt := 263) hx hb dX12_divide_254 (by decide) (fun c_254 => ?_) (fun c_254 => ?_)
                        · have t_254 : ((vF 0 (24 * an))).toInt ≥ 0 := toI_ge c_254 rfl (by decide)
                          refine lv_lload hx hb dX12_divide_263 (lv_at hl 9 rfl) ?_
                          have hFc := allFree hD hS hA
                          refine va_callv (va_runV (As := [.int (nI rn), .long (lN cr)]) (rest := []) ⟨hx, hb, hml, hown, hts⟩ (r_X12_put l dC dI a k h0 vi vj (fT (fT (fT vF 2 f2) 3 f3) 0 g247) (fT vG 1 gs3) rn (lN cr) (by first | with_reducible assumption | decide | omega | rfl | assumption) (by show -9223372036854775808 < (lN cr).toInt; rw [ecr]; omega) H.size) (cwV 2 hts gwsRX12_divide_2 rfl rfl rfl hd_yX12_put_RX12 (by decide +kernel)) (fz_pre (va_recv hK hP (ci := 12) (q0 := 0) rfl rfl) hP hK hD) rfl rfl hl.1 rfl (lv_room (Nat.le_of_ble_eq_true rfl)) dX12_divide_265 (by decide +kernel)) hS (fun q _ h => hFc q h) hFc (fun g265 t9_ H locs ht hvm hw9 hB9 hz1 hk1 hS => ?_)
                          have hP : va_P (dC, dI) vwCl (WR a k h0 vi vj (fT (fT (fT (fT vF 2 f2) 3 f3) 0 g247) 0 g265) (fT vG 1 gs3)) H := fz_P ht hB9.1
                          have hD : va_D A (WR a k h0 vi vj (fT (fT (fT (fT vF 2 f2) 3 f3) 0 g247) 0 g265) (fT vG 1 gs3)) := hB9.2.weaken (fun _ q _ h => hFc q.1 h)
                          have e9 : fT (fT (fT vF 2 f2) 3 f3) 0 g265 = fT (fT (fT (fT vF 2 f2) 3 f3) 0 g247) 0 g265 := (fT_sm _ _ _ _).symm
                          rw [← e9] at hP hD
                          clear e9
                          have hP : va_P (dC, dI) vwCl (WR a k h0 vi vj (fT (fT (fT vF 2 f2) 3 f3) 0 g265) (fT vG 1 gs3)) H := hP
                          have hD : va_D A (WR a k h0 vi vj (fT (fT (fT vF 2 f2) 3 f3) 0 g265) (fT vG 1 gs3)) := hD
                          revert hw9
                          refine fz_a2 ?_
                          intro f265_0 f265_1
                          have f265_1 : ∀ q, (q < 24 * rn ∨ 24 * rn + 24 ≤ q) → g265 q = g247 q := f265_1
                          refine W.widen (k := 0) (n := 0) (by decide +kernel) (by decide +kernel) ?_
                          exact W.vret hx hb hr (fun t9_ ht hW => ⟨⟨(g265, f2, f3, gs3), rfl, by (try dsimp only); (have e1 := tdivE (x := xa) (y := xb) eb0.out); (have e2 := tmodE (x := xa) (y := xb)); (have sa := hSA.out); (have sb := hSB.out); (have za : xa ≠ 0 := by (have q9 : xa.natAbs = NA9 := eNA.out); omega); rw [eNA.out, eNB.out] at e1 e2; rw [hR1] at e2; rw [e1] at f247_0; rw [ecr] at f265_0; exact ⟨f247_0.keep (fun q h1 h2 => f265_1 q (by omega)), by rw [← e2]; split <;> first | (rw [Int.one_mul]; exact f265_0) | (rw [Int.neg_mul, Int.one_mul]; exact f265_0) | (exfalso; omega), fun q h1 h2 => (f265_1 q h2).trans (f247_1 q h1)⟩, by rw [ht]; exact hP, hD⟩, hS.F ht⟩) hS.2.2 dX12_divide_268
                        · have t_254 : ¬ ((vF 0 (24 * an))).toInt ≥ 0 := toI_nge c_254 rfl (by decide)
                          refine lv_lload hx hb dX12_divide_257 (lv_at hl 9 rfl) ?_
                          refine lv_lneg hx hb dX12_divide_259 ?_
                          refine lv_goto (tgt := 265) hx hb dX12_divide_260 (by decide) ?_
                          have hFc := allFree hD hS hA
                          refine va_callv (va_runV (As := [.int (nI rn), .long (-(lN cr))]) (rest := []) ⟨hx, hb, hml, hown, hts⟩ (r_X12_put l dC dI a k h0 vi vj (fT (fT (fT vF 2 f2) 3 f3) 0 g247) (fT vG 1 gs3) rn (-(lN cr)) (by first | with_reducible assumption | decide | omega | rfl | assumption) (by show -9223372036854775808 < (-(lN cr)).toInt; rw [ecn]; omega) H.size) (cwV 2 hts gwsRX12_divide_2 rfl rfl rfl hd_yX12_put_RX12 (by decide +kernel)) (fz_pre (va_recv hK hP (ci := 12) (q0 := 0) rfl rfl) hP hK hD) rfl rfl hl.1 rfl (lv_room (Nat.le_of_ble_eq_true rfl)) dX12_divide_265 (by decide +kernel)) hS (fun q _ h => hFc q h) hFc (fun g265_1 t9_ H locs ht hvm hw9 hB9 hz1 hk1 hS => ?_)
                          have hP : va_P (dC, dI) vwCl (WR a k h0 vi vj (fT (fT (fT (fT vF 2 f2) 3 f3) 0 g247) 0 g265_1) (fT vG 1 gs3)) H := fz_P ht hB9.1
                          have hD : va_D A (WR a k h0 vi vj (fT (fT (fT (fT vF 2 f2) 3 f3) 0 g247) 0 g265_1) (fT vG 1 gs3)) := hB9.2.weaken (fun _ q _ h => hFc q.1 h)
                          have e9 : fT (fT (fT vF 2 f2) 3 f3) 0 g265_1 = fT (fT (fT (fT vF 2 f2) 3 f3) 0 g247) 0 g265_1 := (fT_sm _ _ _ _).symm
                          rw [← e9] at hP hD
                          clear e9
                          have hP : va_P (dC, dI) vwCl (WR a k h0 vi vj (fT (fT (fT vF 2 f2) 3 f3) 0 g265_1) (fT vG 1 gs3)) H := hP
                          have hD : va_D A (WR a k h0 vi vj (fT (fT (fT vF 2 f2) 3 f3) 0 g265_1) (fT vG 1 gs3)) := hD
                          revert hw9
                          refine fz_a2 ?_
                          intro f265_1_0 f265_1_1
                          have f265_1_1 : ∀ q, (q < 24 * rn ∨ 24 * rn + 24 ≤ q) → g265_1 q = g247 q := f265_1_1
                          refine W.widen (k := 0) (n := 0) (by decide +kernel) (by decide +kernel) ?_
                          exact W.vret hx hb hr (fun t9_ ht hW => ⟨⟨(g265_1, f2, f3, gs3), rfl, by (try dsimp only); (have e1 := tdivE (x := xa) (y := xb) eb0.out); (have e2 := tmodE (x := xa) (y := xb)); (have sa := hSA.out); (have sb := hSB.out); (have za : xa ≠ 0 := by (have q9 : xa.natAbs = NA9 := eNA.out); omega); rw [eNA.out, eNB.out] at e1 e2; rw [hR1] at e2; rw [e1] at f247_0; rw [ecn] at f265_1_0; exact ⟨f247_0.keep (fun q h1 h2 => f265_1_1 q (by omega)), by rw [← e2]; split <;> first | (rw [Int.one_mul]; exact f265_1_0) | (rw [Int.neg_mul, Int.one_mul]; exact f265_1_0) | (exfalso; omega), fun q h1 h2 => (f265_1_1 q h2).trans (f247_1 q h1)⟩, by rw [ht]; exact hP, hD⟩, hS.F ht⟩) hS.2.2 dX12_divide_268
                      · have t_177 : ¬ (kq).toInt < 0 := toI_nlt c_177 rfl (by decide)
                        obtain ⟨kk, h_kk, rfl⟩ := of_toInt (x := kq) (k := 23) (by omega) (by omega)
                        have e_kk : (nI kk).toInt = (kk : Int) := nI_toInt (by omega)
                        obtain ⟨dk, hdk, edk⟩ := hna3 kk (by omega)
                        refine lv_lload hx hb dX12_divide_180 (lv_at hl 9 rfl) ?_
                        refine lv_bipush (v := 28) hx hb dX12_divide_182 (by decide) ?_
                        refine lv_lshl hx hb dX12_divide_184 rfl ?_
                        refine lv_aload_n hx hb dX12_divide_185 rfl (lv_at hl 0 rfl) ?_
                        refine va_get (D := (dC, dI)) (ci := 12) (v := .ref (a 0)) (C := RX12) (T := TX12) (N := 163) (fs := fM (vS a vi vj)) hx hb hts iwsRX12_divide_in12 hown hK hP 0 rfl rfl 1 (by decide) (hts (.fieldLink RX12 7 "OptimaWorksModel" "big" "[I") (by decide +kernel)) (fun _ h9 => h9) rfl dX12_divide_186 ?_
                        refine lv_bipush (v := 24) hx hb dX12_divide_189 (by decide) ?_
                        refine lv_iload_n hx hb dX12_divide_191 rfl (lv_at hl 3 rfl) ?_
                        refine lv_imul hx hb dX12_divide_192 ?_
                        refine lv_topi (fun y51 hy51 => ?_)
                        obtain rfl : (nI (24 * an)) = y51 := (hy51.trans (pk_mul 24 an)).symm
                        refine lv_iconst (v := 2) hx hb dX12_divide_193 (by decide) ?_
                        refine lv_iadd hx hb dX12_divide_194 ?_
                        refine lv_topi (fun y52 hy52 => ?_)
                        obtain rfl : (nI ((24 * an) + 2)) = y52 := (hy52.trans (nI_add (24 * an) 2)).symm
                        refine lv_iload hx hb dX12_divide_195 (lv_at hl 10 rfl) ?_
                        refine lv_iadd hx hb dX12_divide_197 ?_
                        refine lv_topi (fun y53 hy53 => ?_)
                        obtain rfl : (nI (((24 * an) + 2) + kk)) = y53 := (hy53.trans (nI_add ((24 * an) + 2) kk)).symm
                        refine va_iald (cA := k 0) (n := 26400) (f := (vF 0)) hx hb hK hP 1 0 (WR_get 0 (by decide)) (TR_get 0 (by decide)) (vp_in_nI (show (((24 * an) + 2) + kk) < 26400 by omega) (by omega)) dX12_divide_198 ?_
                        refine lv_topi (fun y54 hy54 => ?_)
                        obtain rfl : ((vF 0) (((24 * an) + 2) + kk)) = y54 := (hy54.trans (by rw [nI_clamp (by omega)])).symm
                        refine lv_topi (fun y55 hy55 => ?_)
                        obtain rfl : (nI dk) = y55 := (hy55.trans (edk)).symm
                        refine lv_i2l hx hb dX12_divide_199 rfl ?_
                        refine lv_topl (fun y56 hy56 => ?_)
                        obtain rfl : (lN dk) = y56 := (hy56.trans (nI_l (by omega))).symm
                        refine lv_lor hx hb dX12_divide_200 ?_
                        refine lv_topl (fun y57 hy57 => ?_)
                        obtain rfl : (lN (cr * 268435456 + dk)) = y57 := (hy57.trans (lor28 (by omega) (by omega))).symm
                        refine lv_lstore hx hb dX12_divide_201 hl (by decide) rfl (fun ls (hl : lv_has ls _ ([(12, .long (lN (cr * 268435456 + dk))), (0, .ref h0), (1, .int (nI sn)), (2, .int (nI rn)), (3, .int (nI an)), (4, .int (nI bn)), (5, .int (nI na)), (6, .int (nI nb_)), (7, .int (vF 0 (24 * an))), (8, .int (vF 0 (24 * bn))), (9, .long (lN cr)), (11, .int (nI kk))])) => ?_)
                        refine lv_aload_n hx hb dX12_divide_203 rfl (lv_at hl 1 rfl) ?_
                        refine va_get (D := (dC, dI)) (ci := 12) (v := .ref (a 1)) (C := RX12) (T := TX12) (N := 163) (fs := fM (vS a vi vj)) hx hb hts iwsRX12_divide_in12 hown hK hP 0 rfl rfl 2 (by decide) (hts (.fieldLink RX12 13 "OptimaWorksModel" "sum" "[J") (by decide +kernel)) (fun _ h9 => h9) rfl dX12_divide_204 ?_
                        refine lv_iload hx hb dX12_divide_207 (lv_at hl 11 rfl) ?_
                        refine lv_lload hx hb dX12_divide_209 (lv_at hl 0 rfl) ?_
                        refine lv_aload_n hx hb dX12_divide_211 rfl (lv_at hl 1 rfl) ?_
                        refine va_get (D := (dC, dI)) (ci := 12) (v := .ref (a 3)) (C := RX12) (T := TX12) (N := 163) (fs := fM (vS a vi vj)) hx hb hts iwsRX12_divide_in12 hown hK hP 0 rfl rfl 4 (by decide) (hts (.fieldLink RX12 20 "OptimaWorksModel" "less" "[I") (by decide +kernel)) (fun _ h9 => h9) rfl dX12_divide_212 ?_
                        refine lv_iconst (v := 0) hx hb dX12_divide_215 (by decide) ?_
                        refine va_iald (cA := k 3) (n := 30) (f := f3) hx hb hK hP 4 3 (WR_get 3 (by decide)) (TR_get 3 (by decide)) (show ¬ ((0 : Int32) < 0 ∨ 30 ≤ (0 : Int32).toNatClampNeg) by decide) dX12_divide_216 ?_
                        refine lv_topi (fun y58 hy58 => ?_)
                        obtain rfl : (f3 0) = y58 := (hy58.trans (rfl)).symm
                        refine lv_topi (fun y59 hy59 => ?_)
                        obtain rfl : (nI d0) = y59 := (hy59.trans (ed1)).symm
                        refine lv_i2l hx hb dX12_divide_217 rfl ?_
                        refine lv_topl (fun y60 hy60 => ?_)
                        obtain rfl : (lN d0) = y60 := (hy60.trans (nI_l (by omega))).symm
                        refine lv_ldiv hx hb dX12_divide_218 (by exact lN_ne0 (by omega) (by omega)) ?_
                        refine lv_topl (fun y61 hy61 => ?_)
                        obtain rfl : (lN ((cr * 268435456 + dk) / d0)) = y61 := (hy61.trans (lN_div (a := (cr * 268435456 + dk)) (b := d0) (by omega) (by omega) (by omega))).symm
                        refine va_last (cA := k 1) (n := 48) (f := gs3) hx hb hK hP hD hS 2 1 (WR_get 1 (by decide)) (TR_get 1 (by decide)) (vp_in_nI (show kk < 48 by omega) (by omega)) dX12_divide_219 (fun H locs hP hD hS => ?_)
                        have e9 : fT vG 1 (vp_updL gs3 ((nI kk)).toNatClampNeg (lN ((cr * 268435456 + dk) / d0))) = fT (fT vG 1 gs3) 1 (vp_updL gs3 ((nI kk)).toNatClampNeg (lN ((cr * 268435456 + dk) / d0))) := (fT_sm _ _ _ _).symm
                        have hP : va_P (dC, dI) vwCl (WR a k h0 vi vj (fT (fT vF 2 f2) 3 f3) (fT vG 1 (vp_updL gs3 ((nI kk)).toNatClampNeg (lN ((cr * 268435456 + dk) / d0))))) H := by rw [e9, ← WR_G 1 (by decide) _ rfl]; exact hP
                        have hD : va_D A (WR a k h0 vi vj (fT (fT vF 2 f2) 3 f3) (fT vG 1 (vp_updL gs3 ((nI kk)).toNatClampNeg (lN ((cr * 268435456 + dk) / d0))))) := by rw [e9, ← WR_G 1 (by decide) _ rfl]; exact hD
                        clear e9
                        refine lv_lload hx hb dX12_divide_220 (lv_at hl 0 rfl) ?_
                        refine lv_aload_n hx hb dX12_divide_222 rfl (lv_at hl 1 rfl) ?_
                        refine va_get (D := (dC, dI)) (ci := 12) (v := .ref (a 3)) (C := RX12) (T := TX12) (N := 163) (fs := fM (vS a vi vj)) hx hb hts iwsRX12_divide_in12 hown hK hP 0 rfl rfl 4 (by decide) (hts (.fieldLink RX12 20 "OptimaWorksModel" "less" "[I") (by decide +kernel)) (fun _ h9 => h9) rfl dX12_divide_223 ?_
                        refine lv_iconst (v := 0) hx hb dX12_divide_226 (by decide) ?_
                        refine va_iald (cA := k 3) (n := 30) (f := f3) hx hb hK hP 4 3 (WR_get 3 (by decide)) (TR_get 3 (by decide)) (show ¬ ((0 : Int32) < 0 ∨ 30 ≤ (0 : Int32).toNatClampNeg) by decide) dX12_divide_227 ?_
                        refine lv_topi (fun y62 hy62 => ?_)
                        obtain rfl : (f3 0) = y62 := (hy62.trans (rfl)).symm
                        refine lv_topi (fun y63 hy63 => ?_)
                        obtain rfl : (nI d0) = y63 := (hy63.trans (ed1)).symm
                        refine lv_i2l hx hb dX12_divide_228 rfl ?_
                        refine lv_topl (fun y64 hy64 => ?_)
                        obtain rfl : (lN d0) = y64 := (hy64.trans (nI_l (by omega))).symm
                        refine lv_lrem hx hb dX12_divide_229 (by exact lN_ne0 (by omega) (by omega)) ?_
                        refine lv_topl (fun y65 hy65 => ?_)
                        obtain rfl : (lN ((cr * 268435456 + dk) % d0)) = y65 := (hy65.trans (lN_rem (a := (cr * 268435456 + dk)) (b := d0) (by omega) (by omega) (by omega))).symm
                        refine lv_lstore hx hb dX12_divide_230 hl (by decide) rfl (fun ls (hl : lv_has ls _ ([(9, .long (lN ((cr * 268435456 + dk) % d0))), (12, .long (lN (cr * 268435456 + dk))), (0, .ref h0), (1, .int (nI sn)), (2, .int (nI rn)), (3, .int (nI an)), (4, .int (nI bn)), (5, .int (nI na)), (6, .int (nI nb_)), (7, .int (vF 0 (24 * an))), (8, .int (vF 0 (24 * bn))), (11, .int (nI kk))])) => ?_)
                        refine lv_iinc (v := ((nI kk) + (-1))) hx hb dX12_divide_232 hl (k := 11) rfl rfl (by decide) rfl (fun ls (hl : lv_has ls _ ([(11, .int ((nI kk) + (-1))), (9, .long (lN ((cr * 268435456 + dk) % d0))), (12, .long (lN (cr * 268435456 + dk))), (0, .ref h0), (1, .int (nI sn)), (2, .int (nI rn)), (3, .int (nI an)), (4, .int (nI bn)), (5, .int (nI na)), (6, .int (nI nb_)), (7, .int (vF 0 (24 * an))), (8, .int (vF 0 (24 * bn)))])) => ?_)
                        refine lv_goto (tgt := 175) hx hb dX12_divide_235 (by decide) ?_
                        have hl : lv_has _ _ ([(0, .ref h0), (1, .int (nI sn)), (2, .int (nI rn)), (3, .int (nI an)), (4, .int (nI bn)), (5, .int (nI na)), (6, .int (nI nb_)), (7, .int (vF 0 (24 * an))), (8, .int (vF 0 (24 * bn))), (9, .long (lN ((cr * 268435456 + dk) % d0))), (11, .int ((nI kk) + (-1)))]) := lv_sub hl [3, 4, 5, 6, 7, 8, 9, 10, 11, 1, 0] rfl
                        exact ih175_10 ((nI kk) + (-1)) (kk1 - 1) (QQ * 268435456 + (cr * 268435456 + dk) / d0) ((cr * 268435456 + dk) % d0) (vp_updL gs3 ((nI kk)).toNatClampNeg (lN ((cr * 268435456 + dk) / d0))) _ _ _ (by rw [m1T (by omega)]; omega) (by omega) (Nat.mod_lt _ (by omega)) (by rw [show kk1 - 1 = kk by omega, lv28_divs hna3 (by omega) hdk edk, show kk + 1 = kk1 by omega]; exact limbQ hQ) (fun q hq => by rw [updL_at (by omega), if_neg (by omega)]; exact hz3 q (by omega)) (fun q hq => by rw [updL_at (by omega)]; by_cases e9 : q = kk; (rw [if_pos e9, pk_lT (by have := vdiv_lt hcr hdk; omega)]; exact ⟨Int.natCast_nonneg _, Int.ofNat_lt.mpr (vdiv_lt hcr hdk)⟩); (rw [if_neg e9]; exact hent q hq)) (by (have e0 : (0 : Int64).toInt = 0 := by decide); (have hv9 := vdiv_lt hcr hdk); rw [sv28_upd (by omega) (by omega), hz3 kk (by omega), e0, pk_lT (by omega), show kk1 - 1 = kk by omega]; exact svL (by rw [show kk + 1 = kk1 by omega]; exact hsv)) (by omega) hP hD hS hl
                · have t_129 : ¬ ((i3 : Nat) : Int) ≥ ((nb_ : Nat) : Int) := toI_nge c_129 (nI_toInt (by omega)) (nI_toInt (by omega))
                  refine lv_aload_n hx hb dX12_divide_132 rfl (lv_at hl 0 rfl) ?_
                  refine va_get (D := (dC, dI)) (ci := 12) (v := .ref (a 3)) (C := RX12) (T := TX12) (N := 163) (fs := fM (vS a vi vj)) hx hb hts iwsRX12_divide_in12 hown hK hP 0 rfl rfl 4 (by decide) (hts (.fieldLink RX12 20 "OptimaWorksModel" "less" "[I") (by decide +kernel)) (fun _ h9 => h9) rfl dX12_divide_133 ?_
                  refine lv_iload hx hb dX12_divide_136 (lv_at hl 9 rfl) ?_
                  refine lv_aload_n hx hb dX12_divide_138 rfl (lv_at hl 0 rfl) ?_
                  refine va_get (D := (dC, dI)) (ci := 12) (v := .ref (a 0)) (C := RX12) (T := TX12) (N := 163) (fs := fM (vS a vi vj)) hx hb hts iwsRX12_divide_in12 hown hK hP 0 rfl rfl 1 (by decide) (hts (.fieldLink RX12 7 "OptimaWorksModel" "big" "[I") (by decide +kernel)) (fun _ h9 => h9) rfl dX12_divide_139 ?_
                  refine lv_bipush (v := 24) hx hb dX12_divide_142 (by decide) ?_
                  refine lv_iload hx hb dX12_divide_144 (lv_at hl 4 rfl) ?_
                  refine lv_imul hx hb dX12_divide_146 ?_
                  refine lv_topi (fun y66 hy66 => ?_)
                  obtain rfl : (nI (24 * bn)) = y66 := (hy66.trans (pk_mul 24 bn)).symm
                  refine lv_iconst (v := 2) hx hb dX12_divide_147 (by decide) ?_
                  refine lv_iadd hx hb dX12_divide_148 ?_
                  refine lv_topi (fun y67 hy67 => ?_)
                  obtain rfl : (nI ((24 * bn) + 2)) = y67 := (hy67.trans (nI_add (24 * bn) 2)).symm
                  refine lv_iload hx hb dX12_divide_149 (lv_at hl 9 rfl) ?_
                  refine lv_iadd hx hb dX12_divide_151 ?_
                  refine lv_topi (fun y68 hy68 => ?_)
                  obtain rfl : (nI (((24 * bn) + 2) + i3)) = y68 := (hy68.trans (nI_add ((24 * bn) + 2) i3)).symm
                  refine va_iald (cA := k 0) (n := 26400) (f := (vF 0)) hx hb hK hP 1 0 (WR_get 0 (by decide)) (TR_get 0 (by decide)) (vp_in_nI (show (((24 * bn) + 2) + i3) < 26400 by omega) (by omega)) dX12_divide_152 ?_
                  refine lv_topi (fun y69 hy69 => ?_)
                  obtain rfl : ((vF 0) (((24 * bn) + 2) + i3)) = y69 := (hy69.trans (by rw [nI_clamp (by omega)])).symm
                  refine va_iast (cA := k 3) (n := 30) (f := f3) hx hb hK hP hD hS 4 3 (WR_get 3 (by decide)) (TR_get 3 (by decide)) (vp_in_nI (show i3 < 30 by omega) (by omega)) dX12_divide_153 (fun H locs hP hD hS => ?_)
                  have e9 : fT (fT vF 2 f2) 3 (upd f3 ((nI i3)).toNatClampNeg ((vF 0) (((24 * bn) + 2) + i3))) = fT (fT (fT vF 2 f2) 3 f3) 3 (upd f3 ((nI i3)).toNatClampNeg ((vF 0) (((24 * bn) + 2) + i3))) := (fT_sm _ _ _ _).symm
                  have hP : va_P (dC, dI) vwCl (WR a k h0 vi vj (fT (fT vF 2 f2) 3 (upd f3 ((nI i3)).toNatClampNeg ((vF 0) (((24 * bn) + 2) + i3)))) (fT vG 1 gs1)) H := by rw [e9, ← WR_F 3 (by decide) _ rfl]; exact hP
                  have hD : va_D A (WR a k h0 vi vj (fT (fT vF 2 f2) 3 (upd f3 ((nI i3)).toNatClampNeg ((vF 0) (((24 * bn) + 2) + i3)))) (fT vG 1 gs1)) := by rw [e9, ← WR_F 3 (by decide) _ rfl]; exact hD
                  clear e9
                  refine lv_iinc (v := (nI (i3 + 1))) hx hb dX12_divide_154 hl (k := 9) rfl (nI_add i3 1) (by decide) rfl (fun ls (hl : lv_has ls _ ([(9, .int (nI (i3 + 1))), (0, .ref h0), (1, .int (nI sn)), (2, .int (nI rn)), (3, .int (nI an)), (4, .int (nI bn)), (5, .int (nI na)), (6, .int (nI nb_)), (7, .int (vF 0 (24 * an))), (8, .int (vF 0 (24 * bn)))])) => ?_)
                  refine lv_goto (tgt := 125) hx hb dX12_divide_157 (by decide) ?_
                  have hl : lv_has _ _ ([(0, .ref h0), (1, .int (nI sn)), (2, .int (nI rn)), (3, .int (nI an)), (4, .int (nI bn)), (5, .int (nI na)), (6, .int (nI nb_)), (7, .int (vF 0 (24 * an))), (8, .int (vF 0 (24 * bn))), (9, .int (nI (i3 + 1)))]) := lv_sub hl [1, 2, 3, 4, 5, 6, 7, 8, 9, 0] rfl
                  exact ih125_2 (i3 + 1) (upd f3 ((nI i3)).toNatClampNeg ((vF 0) (((24 * bn) + 2) + i3))) _ _ _ (by omega) (fun q hq => by rw [upd_at (by omega)]; by_cases e9 : q = i3; (rw [if_pos e9, e9]); (rw [if_neg e9]; exact hl3 q (by omega))) (by omega) hP hD hS hl
            · have t_105 : ¬ ((i : Nat) : Int) ≥ ((na : Nat) : Int) := toI_nge c_105 (nI_toInt (by omega)) (nI_toInt (by omega))
              refine lv_aload_n hx hb dX12_divide_108 rfl (lv_at hl 0 rfl) ?_
              refine va_get (D := (dC, dI)) (ci := 12) (v := .ref (a 1)) (C := RX12) (T := TX12) (N := 163) (fs := fM (vS a vi vj)) hx hb hts iwsRX12_divide_in12 hown hK hP 0 rfl rfl 2 (by decide) (hts (.fieldLink RX12 13 "OptimaWorksModel" "sum" "[J") (by decide +kernel)) (fun _ h9 => h9) rfl dX12_divide_109 ?_
              refine lv_iload hx hb dX12_divide_112 (lv_at hl 9 rfl) ?_
              refine lv_lconst (v := 0) hx hb dX12_divide_114 (by decide) ?_
              refine va_last (cA := k 1) (n := 48) (f := gs1) hx hb hK hP hD hS 2 1 (WR_get 1 (by decide)) (TR_get 1 (by decide)) (vp_in_nI (show i < 48 by omega) (by omega)) dX12_divide_115 (fun H locs hP hD hS => ?_)
              have e9 : fT vG 1 (vp_updL gs1 ((nI i)).toNatClampNeg 0) = fT (fT vG 1 gs1) 1 (vp_updL gs1 ((nI i)).toNatClampNeg 0) := (fT_sm _ _ _ _).symm
              have hP : va_P (dC, dI) vwCl (WR a k h0 vi vj (fT vF 2 f2) (fT vG 1 (vp_updL gs1 ((nI i)).toNatClampNeg 0))) H := by rw [e9, ← WR_G 1 (by decide) _ rfl]; exact hP
              have hD : va_D A (WR a k h0 vi vj (fT vF 2 f2) (fT vG 1 (vp_updL gs1 ((nI i)).toNatClampNeg 0))) := by rw [e9, ← WR_G 1 (by decide) _ rfl]; exact hD
              clear e9
              refine lv_iinc (v := (nI (i + 1))) hx hb dX12_divide_116 hl (k := 9) rfl (nI_add i 1) (by decide) rfl (fun ls (hl : lv_has ls _ ([(9, .int (nI (i + 1))), (0, .ref h0), (1, .int (nI sn)), (2, .int (nI rn)), (3, .int (nI an)), (4, .int (nI bn)), (5, .int (nI na)), (6, .int (nI nb_)), (7, .int (vF 0 (24 * an))), (8, .int (vF 0 (24 * bn)))])) => ?_)
              refine lv_goto (tgt := 101) hx hb dX12_divide_119 (by decide) ?_
              have hl : lv_has _ _ ([(0, .ref h0), (1, .int (nI sn)), (2, .int (nI rn)), (3, .int (nI an)), (4, .int (nI bn)), (5, .int (nI na)), (6, .int (nI nb_)), (7, .int (vF 0 (24 * an))), (8, .int (vF 0 (24 * bn))), (9, .int (nI (i + 1)))]) := lv_sub hl [1, 2, 3, 4, 5, 6, 7, 8, 9, 0] rfl
              exact ih101_1 (i + 1) (vp_updL gs1 ((nI i)).toNatClampNeg 0) _ _ _ (by omega) (fun q hq => by rw [updL_at (by omega)]; by_cases e9 : q = i; (rw [if_pos e9]); (rw [if_neg e9]; exact hzs q (by omega))) (by omega) hP hD hS hl
        · have t_81 : ¬ ((i : Nat) : Int) > (((nb_ + 1) : Nat) : Int) := toI_ngt c_81 (nI_toInt (by omega)) (nI_toInt (by omega))
          refine lv_aload_n hx hb dX12_divide_84 rfl (lv_at hl 0 rfl) ?_
          refine va_get (D := (dC, dI)) (ci := 12) (v := .ref (a 2)) (C := RX12) (T := TX12) (N := 163) (fs := fM (vS a vi vj)) hx hb hts iwsRX12_divide_in12 hown hK hP 0 rfl rfl 3 (by decide) (hts (.fieldLink RX12 17 "OptimaWorksModel" "rest" "[I") (by decide +kernel)) (fun _ h9 => h9) rfl dX12_divide_85 ?_
          refine lv_iload hx hb dX12_divide_88 (lv_at hl 9 rfl) ?_
          refine lv_iconst (v := 0) hx hb dX12_divide_90 (by decide) ?_
          refine va_iast (cA := k 2) (n := 60) (f := f2) hx hb hK hP hD hS 3 2 (WR_get 2 (by decide)) (TR_get 2 (by decide)) (vp_in_nI (show i < 60 by omega) (by omega)) dX12_divide_91 (fun H locs hP hD hS => ?_)
          have e9 : fT vF 2 (upd f2 ((nI i)).toNatClampNeg 0) = fT (fT vF 2 f2) 2 (upd f2 ((nI i)).toNatClampNeg 0) := (fT_sm _ _ _ _).symm
          have hP : va_P (dC, dI) vwCl (WR a k h0 vi vj (fT vF 2 (upd f2 ((nI i)).toNatClampNeg 0)) vG) H := by rw [e9, ← WR_F 2 (by decide) _ rfl]; exact hP
          have hD : va_D A (WR a k h0 vi vj (fT vF 2 (upd f2 ((nI i)).toNatClampNeg 0)) vG) := by rw [e9, ← WR_F 2 (by decide) _ rfl]; exact hD
          clear e9
          refine lv_iinc (v := (nI (i + 1))) hx hb dX12_divide_92 hl (k := 9) rfl (nI_add i 1) (by decide) rfl (fun ls (hl : lv_has ls _ ([(9, .int (nI (i + 1))), (0, .ref h0), (1, .int (nI sn)), (2, .int (nI rn)), (3, .int (nI an)), (4, .int (nI bn)), (5, .int (nI na)), (6, .int (nI nb_)), (7, .int (vF 0 (24 * an))), (8, .int (vF 0 (24 * bn)))])) => ?_)
          refine lv_goto (tgt := 75) hx hb dX12_divide_95 (by decide) ?_
          have hl : lv_has _ _ ([(0, .ref h0), (1, .int (nI sn)), (2, .int (nI rn)), (3, .int (nI an)), (4, .int (nI bn)), (5, .int (nI na)), (6, .int (nI nb_)), (7, .int (vF 0 (24 * an))), (8, .int (vF 0 (24 * bn))), (9, .int (nI (i + 1)))]) := lv_sub hl [1, 2, 3, 4, 5, 6, 7, 8, 9, 0] rfl
          exact ih75 (i + 1) (upd f2 ((nI i)).toNatClampNeg 0) _ _ _ (by omega) (fun q hq => by rw [upd_at (by omega)]; by_cases e9 : q = i; (rw [if_pos e9]); (rw [if_neg e9]; exact hr0 q (by omega))) (by omega) hP hD hS hl
    · have t_56 : ¬ (r53).toInt ≥ 0 := toI_nge c_56 rfl (by decide)
      have hlt9 : NA9 < NB9 := by omega
      have hlt : xa.natAbs < xb.natAbs := by rw [eNA.out, eNB.out]; exact hlt9
      refine lv_aload_n hx hb dX12_divide_59 rfl (lv_at hl 4 rfl) ?_
      refine lv_iload_n hx hb dX12_divide_60 rfl (lv_at hl 6 rfl) ?_
      refine lv_iload_n hx hb dX12_divide_61 rfl (lv_at hl 7 rfl) ?_
      have hFc := allFree hD hS hA
      refine va_callv (va_runV (As := [.int (nI rn), .int (nI an)]) (rest := []) ⟨hx, hb, hml, hown, hts⟩ (r_X12_copy l dC dI a k h0 vi vj vF vG rn an na (by first | with_reducible assumption | decide | omega | rfl | assumption) (by first | with_reducible assumption | decide | omega | rfl | assumption) (by omega) (hna2) (by first | with_reducible assumption | decide | omega | rfl | assumption) H.size) (cwV 2 hts gwsRX12_divide_1 rfl rfl rfl hd_yX12_copy_RX12 (by decide +kernel)) (fz_pre (va_recv hK hP (ci := 12) (q0 := 0) rfl rfl) hP hK hD) rfl rfl hl.1 rfl (lv_room (Nat.le_of_ble_eq_true rfl)) dX12_divide_62 (by decide +kernel)) hS (fun q _ h => hFc q h) hFc (fun g62_1 t9_ H locs ht hvm hw9 hB9 hz1 hk1 hS => ?_)
      have hP : va_P (dC, dI) vwCl (WR a k h0 vi vj (fT vF 0 g62_1) vG) H := fz_P ht hB9.1
      have hD : va_D A (WR a k h0 vi vj (fT vF 0 g62_1) vG) := hB9.2.weaken (fun _ q _ h => hFc q.1 h)
      revert hw9
      refine fz_a2 ?_
      intro f62_1_0 f62_1_1
      have f62_1_0 : ∀ q, q < na + 2 → g62_1 (24 * rn + q) = (vF 0) (24 * an + q) := f62_1_0
      have f62_1_1 : ∀ q, (q < 24 * rn ∨ 24 * rn + 24 ≤ q) → g62_1 q = (vF 0) q := f62_1_1
      refine lv_aload_n hx hb dX12_divide_65 rfl (lv_at hl 4 rfl) ?_
      refine lv_iload_n hx hb dX12_divide_66 rfl (lv_at hl 5 rfl) ?_
      refine lv_lconst (v := 0) hx hb dX12_divide_67 (by decide) ?_
      have hFc := allFree hD hS hA
      refine va_callv (va_runV (As := [.int (nI sn), .long 0]) (rest := []) ⟨hx, hb, hml, hown, hts⟩ (r_X12_put l dC dI a k h0 vi vj (fT vF 0 g62_1) vG sn 0 (by first | with_reducible assumption | decide | omega | rfl | assumption) (by first | with_reducible assumption | decide | omega | rfl | assumption) H.size) (cwV 2 hts gwsRX12_divide_2 rfl rfl rfl hd_yX12_put_RX12 (by decide +kernel)) (fz_pre (va_recv hK hP (ci := 12) (q0 := 0) rfl rfl) hP hK hD) rfl rfl hl.1 rfl (lv_room (Nat.le_of_ble_eq_true rfl)) dX12_divide_68 (by decide +kernel)) hS (fun q _ h => hFc q h) hFc (fun g68_1 t9_ H locs ht hvm hw9 hB9 hz1 hk1 hS => ?_)
      have hP : va_P (dC, dI) vwCl (WR a k h0 vi vj (fT (fT vF 0 g62_1) 0 g68_1) vG) H := fz_P ht hB9.1
      have hD : va_D A (WR a k h0 vi vj (fT (fT vF 0 g62_1) 0 g68_1) vG) := hB9.2.weaken (fun _ q _ h => hFc q.1 h)
      have e9 : fT vF 0 g68_1 = fT (fT vF 0 g62_1) 0 g68_1 := (fT_sm _ _ _ _).symm
      rw [← e9] at hP hD
      clear e9
      have hP : va_P (dC, dI) vwCl (WR a k h0 vi vj (fT vF 0 g68_1) vG) H := hP
      have hD : va_D A (WR a k h0 vi vj (fT vF 0 g68_1) vG) := hD
      revert hw9
      refine fz_a2 ?_
      intro f68_1_0 f68_1_1
      have f68_1_1 : ∀ q, (q < 24 * sn ∨ 24 * sn + 24 ≤ q) → g68_1 q = g62_1 q := f68_1_1
      refine W.widen (k := 0) (n := 0) (by decide +kernel) (by decide +kernel) ?_
      have e9 : fT (fT (fT vF 2 (vF 2)) 3 (vF 3)) 0 g68_1 = fT vF 0 g68_1 := by funext q9; by_cases h9_2 : q9 = 2; (subst h9_2; exact ((fT_ne _ _ (Nat.ne_of_beq_eq_false rfl)).trans ((fT_ne _ _ (Nat.ne_of_beq_eq_false rfl)).trans (fT_eq _ _ _))).trans (Eq.trans (by first | with_reducible rfl | with_reducible assumption | (symm; with_reducible assumption) | rfl | assumption | (symm; assumption) | (subst_vars; rfl)) (fT_ne _ _ (Nat.ne_of_beq_eq_false rfl)).symm)); by_cases h9_3 : q9 = 3; (subst h9_3; exact ((fT_ne _ _ (Nat.ne_of_beq_eq_false rfl)).trans (fT_eq _ _ _)).trans (Eq.trans (by first | with_reducible rfl | with_reducible assumption | (symm; with_reducible assumption) | rfl | assumption | (symm; assumption) | (subst_vars; rfl)) (fT_ne _ _ (Nat.ne_of_beq_eq_false rfl)).symm)); by_cases h9_0 : q9 = 0; (subst h9_0; exact (fT_eq _ _ _).trans (Eq.trans (by first | with_reducible rfl | with_reducible assumption | (symm; with_reducible assumption) | rfl | assumption | (symm; assumption) | (subst_vars; rfl)) (fT_eq _ _ _).symm)); exact ((fT_ne _ _ h9_0).trans ((fT_ne _ _ h9_3).trans (fT_ne _ _ h9_2))).trans (fT_ne _ _ h9_0).symm
      have hP : va_P (dC, dI) vwCl (WR a k h0 vi vj (fT (fT (fT vF 2 (vF 2)) 3 (vF 3)) 0 g68_1) vG) H := by rw [e9]; exact hP
      have hD : va_D A (WR a k h0 vi vj (fT (fT (fT vF 2 (vF 2)) 3 (vF 3)) 0 g68_1) vG) := by rw [e9]; exact hD
      clear e9
      have e9 : fT vG 1 (vG 1) = vG := fT_id _ _ (rfl)
      have hP : va_P (dC, dI) vwCl (WR a k h0 vi vj (fT (fT (fT vF 2 (vF 2)) 3 (vF 3)) 0 g68_1) (fT vG 1 (vG 1))) H := by rw [e9]; exact hP
      have hD : va_D A (WR a k h0 vi vj (fT (fT (fT vF 2 (vF 2)) 3 (vF 3)) 0 g68_1) (fT vG 1 (vG 1))) := by rw [e9]; exact hD
      clear e9
      exact W.vret hx hb hr (fun t9_ ht hW => ⟨⟨(g68_1, (vF 2), (vF 3), (vG 1)), rfl, by (try dsimp only); (have e0 : (0 : Int64).toInt = 0 := by decide); rw [e0] at f68_1_0; exact ⟨by rw [tdiv_small hlt]; exact f68_1_0, by rw [tmod_small hlt]; exact (Nu.congr hxa hna2 hna1 f62_1_0).keep (fun q h1 h2 => f68_1_1 q (by omega)), fun q h1 h2 => (f68_1_1 q h1).trans (f62_1_1 q h2)⟩, by rw [ht]; exact hP, hD⟩, hS.F ht⟩) hS.2.2 dX12_divide_71
end
section
theorem Met.monoV {l : Launch} {y : MethodName} {ws : List Cond} {rm : Room} {Pc : Array Value → State → Prop} {mc ms : Nat} {fr : Addr → Prop} {S : Type} {φ ψ : S → Prop} {B : S → State → Prop} {A : Nat → Prop} (h : Met l y ws rm Pc (va_Qv φ B A) mc ms fr) (hm : ∀ u, φ u → ψ u) : Met l y ws rm Pc (va_Qv ψ B A) mc ms fr := by
  intro p e h1 h2 h3 s m args below hf ha hP hK
  obtain ⟨n, o, q1, q2, q3, ⟨⟨u, q4, q5, q6⟩, q7⟩, q8⟩ := h p e h1 h2 h3 s m args below hf ha hP hK
  exact ⟨n, o, q1, q2, q3, ⟨⟨u, q4, hm u q5, q6⟩, q7⟩, q8⟩
theorem Met.monoI {l : Launch} {y : MethodName} {ws : List Cond} {rm : Room} {Pc : Array Value → State → Prop} {mc ms : Nat} {fr : Addr → Prop} {S : Type} {φ ψ : Int32 → S → Prop} {B : S → State → Prop} {A : Nat → Prop} (h : Met l y ws rm Pc (va_Qi φ B A) mc ms fr) (hm : ∀ r u, φ r u → ψ r u) : Met l y ws rm Pc (va_Qi ψ B A) mc ms fr := by
  intro p e h1 h2 h3 s m args below hf ha hP hK
  obtain ⟨n, o, q1, q2, q3, ⟨⟨r, u, q4, q5, q6⟩, q7⟩, q8⟩ := h p e h1 h2 h3 s m args below hf ha hP hK
  exact ⟨n, o, q1, q2, q3, ⟨⟨r, u, q4, hm r u q5, q6⟩, q7⟩, q8⟩
theorem Met.monoL {l : Launch} {y : MethodName} {ws : List Cond} {rm : Room} {Pc : Array Value → State → Prop} {mc ms : Nat} {fr : Addr → Prop} {S : Type} {φ ψ : Int64 → S → Prop} {B : S → State → Prop} {A : Nat → Prop} (h : Met l y ws rm Pc (va_Ql φ B A) mc ms fr) (hm : ∀ r u, φ r u → ψ r u) : Met l y ws rm Pc (va_Ql ψ B A) mc ms fr := by
  intro p e h1 h2 h3 s m args below hf ha hP hK
  obtain ⟨n, o, q1, q2, q3, ⟨⟨r, u, q4, q5, q6⟩, q7⟩, q8⟩ := h p e h1 h2 h3 s m args below hf ha hP hK
  exact ⟨n, o, q1, q2, q3, ⟨⟨r, u, q4, hm r u q5, q6⟩, q7⟩, q8⟩
/-- the slots of big hold the whole numbers m -/
def Bg (f : Nat → Int32) (m : Nat → Int) : Prop := ∀ s, s < 1100 → Nu f s (m s)
theorem Bg.set {f g : Nat → Int32} {m : Nat → Int} {sn : Nat} {x : Int} (h : Bg f m) (hn : Nu g sn x) (ho : ∀ q, (q < 24 * sn ∨ 24 * sn + 24 ≤ q) → g q = f q) : Bg g (fT m sn x) := fun s hs => by
  by_cases e : s = sn
  · subst e; rw [fT_eq]; exact hn
  · rw [fT_ne _ _ e]; exact (h s hs).keep (fun q h1 h2 => ho q (by omega))
theorem Bg.set2 {f g : Nat → Int32} {m : Nat → Int} {sn rn : Nat} {x y : Int} (h : Bg f m) (hn : Nu g sn x) (hr : Nu g rn y) (hne : sn ≠ rn) (ho : ∀ q, (q < 24 * sn ∨ 24 * sn + 24 ≤ q) → (q < 24 * rn ∨ 24 * rn + 24 ≤ q) → g q = f q) : Bg g (fT (fT m sn x) rn y) := fun s hs => by
  by_cases e : s = rn
  · subst e; rw [fT_eq]; exact hr
  · rw [fT_ne _ _ e]
    by_cases e2 : s = sn
    · subst e2; rw [fT_eq]; exact hn
    · rw [fT_ne _ _ e2]; exact (h s hs).keep (fun q h1 h2 => ho q (by omega) (by omega))
theorem Bg.turn {f : Nat → Int32} {m : Nat → Int} {sn : Nat} (h : Bg f m) (hs : sn < 1100) : Bg (upd f (nI (24 * sn)).toNatClampNeg (-(f (24 * sn)))) (fT m sn (-(m sn))) := by
  have ho : ∀ q, q ≠ 24 * sn → upd f (nI (24 * sn)).toNatClampNeg (-(f (24 * sn))) q = f q := fun q hq => by rw [upd_at (by omega), if_neg hq]
  refine Bg.set h ?_ (fun q hq => ho q (by omega))
  obtain ⟨n, n1, n2, n3, n4, n5, n6⟩ := h sn hs
  refine ⟨n, n1, by rw [ho _ (by omega)]; exact n2, fun q hq => by rw [ho _ (by omega)]; exact n3 q hq, fun h9 => by rw [ho _ (by omega)]; exact n4 h9, ?_, ?_⟩
  · rw [Int.natAbs_neg, n5]; exact lv28_congr (fun q hq => (ho _ (by omega)).symm)
  · rw [upd_at (by omega), if_pos rfl]
    rcases n6 with ⟨e1, e2⟩ | ⟨e1, e2⟩ | ⟨e1, e2⟩
    · exact Or.inl ⟨by omega, by rw [e2]; decide⟩
    · exact Or.inr (Or.inr ⟨by omega, by rw [e2]⟩)
    · exact Or.inr (Or.inl ⟨by omega, by rw [e2]; decide⟩)
theorem Bg.sgn {f : Nat → Int32} {m : Nat → Int} {sn : Nat} (h : Bg f m) (hs : sn < 1100) : (m sn = 0 ∧ (f (24 * sn)).toInt = 0) ∨ (0 < m sn ∧ (f (24 * sn)).toInt = 1) ∨ (m sn < 0 ∧ (f (24 * sn)).toInt = -1) := by
  obtain ⟨n, n1, n2, n3, n4, n5, n6⟩ := h sn hs
  exact sgT n6
theorem Bg.len {f : Nat → Int32} {m : Nat → Int} {sn : Nat} (h : Bg f m) (hs : sn < 1100) : ∃ n, f (24 * sn + 1) = nI n ∧ n ≤ 22 := by
  obtain ⟨n, n1, n2, n3, n4, n5, n6⟩ := h sn hs
  exact ⟨n, n2, n1⟩
end
section
theorem b_X12_sign (l : Launch) (dC : Nat → ClassId) (dI : Nat → Nat → Nat) (a : Nat → Nat) (k : Nat → ClassId) (h0 : Nat) (vi : Nat → Int32) (vj : Nat → Int64) (vF : Nat → Nat → Int32) (vG : Nat → Nat → Int64) (sn : Nat) (mg : Nat → Int) (hBg : Bg (vF 0) mg) (x : Int) (v_x : mg sn = x) (hs : sn < 1100) (sz : Nat) : Met l yX12_sign wsRX12_sign ({ frames := 0, cells := 0, slots := 0, locals := 0 }) (va_Pc [.ref h0, .int (nI sn)] (fun U => U.heap.size = sz ∧ va_P (dC, dI) vwCl (WR a k h0 vi vj vF vG) U.heap ∧ va_K (dC, dI) vwCl (tX12 k) U ∧ va_D (fun _ => True) (WR a k h0 vi vj vF vG))) (va_Qi (fun (r : Int32) (u : Unit) => (((r).toInt = 0 ∧ x = 0) ∨ ((r).toInt = 1 ∧ 0 < x) ∨ ((r).toInt = -1 ∧ x < 0))) (fun (u : Unit) t => va_P (dC, dI) vwCl (WR a k h0 vi vj vF vG) t.heap ∧ va_D (va_A (WR a k h0 vi vj vF vG) sz) (WR a k h0 vi vj vF vG)) (va_A (WR a k h0 vi vj vF vG) sz)) 0 0 (va_A (WR a k h0 vi vj vF vG) sz) := by
  subst v_x
  exact Met.monoI (r_X12_sign l dC dI a k h0 vi vj vF vG sn hs sz) (fun r u h => by (try dsimp only at h ⊢); rcases Bg.sgn hBg hs with ⟨q1, q2⟩ | ⟨q1, q2⟩ | ⟨q1, q2⟩; (exact Or.inl ⟨by rw [h]; exact q2, q1⟩); (exact Or.inr (Or.inl ⟨by rw [h]; exact q2, q1⟩)); (exact Or.inr (Or.inr ⟨by rw [h]; exact q2, q1⟩)))
theorem b_X12_turn (l : Launch) (dC : Nat → ClassId) (dI : Nat → Nat → Nat) (a : Nat → Nat) (k : Nat → ClassId) (h0 : Nat) (vi : Nat → Int32) (vj : Nat → Int64) (vF : Nat → Nat → Int32) (vG : Nat → Nat → Int64) (sn : Nat) (mg : Nat → Int) (hBg : Bg (vF 0) mg) (x : Int) (v_x : mg sn = x) (hs : sn < 1100) (sz : Nat) : Met l yX12_turn wsRX12_turn ({ frames := 0, cells := 0, slots := 0, locals := 0 }) (va_Pc [.ref h0, .int (nI sn)] (fun U => U.heap.size = sz ∧ va_P (dC, dI) vwCl (WR a k h0 vi vj vF vG) U.heap ∧ va_K (dC, dI) vwCl (tX12 k) U ∧ va_D (fun _ => True) (WR a k h0 vi vj vF vG))) (va_Qv (fun (u : Unit) => (Bg (upd (vF 0) (nI (24 * sn)).toNatClampNeg (-(vF 0 (24 * sn)))) (fT mg sn (-x)))) (fun (u : Unit) t => va_P (dC, dI) vwCl (WR a k h0 vi vj (fT vF 0 (upd (vF 0) (nI (24 * sn)).toNatClampNeg (-(vF 0 (24 * sn))))) vG) t.heap ∧ va_D (va_A (WR a k h0 vi vj vF vG) sz) (WR a k h0 vi vj (fT vF 0 (upd (vF 0) (nI (24 * sn)).toNatClampNeg (-(vF 0 (24 * sn))))) vG)) (va_A (WR a k h0 vi vj vF vG) sz)) 0 0 (va_A (WR a k h0 vi vj vF vG) sz) := by
  subst v_x
  exact Met.monoV (r_X12_turn l dC dI a k h0 vi vj vF vG sn hs sz) (fun u h => by (try dsimp only at h ⊢); exact hBg.turn hs)
theorem b_X12_copy (l : Launch) (dC : Nat → ClassId) (dI : Nat → Nat → Nat) (a : Nat → Nat) (k : Nat → ClassId) (h0 : Nat) (vi : Nat → Int32) (vj : Nat → Int64) (vF : Nat → Nat → Int32) (vG : Nat → Nat → Int64) (sn : Nat) (fn : Nat) (mg : Nat → Int) (hBg : Bg (vF 0) mg) (x : Int) (v_x : mg fn = x) (hs : sn < 1100) (hf : fn < 1100) (hne : sn ≠ fn) (sz : Nat) : Met l yX12_copy wsRX12_copy ({ frames := 0, cells := 0, slots := 0, locals := 0 }) (va_Pc [.ref h0, .int (nI sn), .int (nI fn)] (fun U => U.heap.size = sz ∧ va_P (dC, dI) vwCl (WR a k h0 vi vj vF vG) U.heap ∧ va_K (dC, dI) vwCl (tX12 k) U ∧ va_D (fun _ => True) (WR a k h0 vi vj vF vG))) (va_Qv (fun (u : Nat → Int32) => (Bg u (fT mg sn x))) (fun (u : Nat → Int32) t => va_P (dC, dI) vwCl (WR a k h0 vi vj (fT vF 0 u) vG) t.heap ∧ va_D (va_A (WR a k h0 vi vj vF vG) sz) (WR a k h0 vi vj (fT vF 0 u) vG)) (va_A (WR a k h0 vi vj vF vG) sz)) 0 0 (va_A (WR a k h0 vi vj vF vG) sz) := by
  subst v_x
  obtain ⟨n, hn, hn22⟩ := Bg.len hBg hf
  exact Met.monoV (r_X12_copy l dC dI a k h0 vi vj vF vG sn fn n hs hf hne hn hn22 sz) (fun u h => by (try dsimp only at h ⊢); exact Bg.set hBg (Nu.congr (hBg fn hf) hn hn22 h.1) h.2)
theorem b_X12_put (l : Launch) (dC : Nat → ClassId) (dI : Nat → Nat → Nat) (a : Nat → Nat) (k : Nat → ClassId) (h0 : Nat) (vi : Nat → Int32) (vj : Nat → Int64) (vF : Nat → Nat → Int32) (vG : Nat → Nat → Int64) (sn : Nat) (xv : Int64) (xi : Int) (mg : Nat → Int) (hBg : Bg (vF 0) mg) (hs : sn < 1100) (hxi : xv.toInt = xi) (hxv : -9223372036854775808 < xi) (sz : Nat) : Met l yX12_put wsRX12_put ({ frames := 0, cells := 0, slots := 0, locals := 0 }) (va_Pc [.ref h0, .int (nI sn), .long xv] (fun U => U.heap.size = sz ∧ va_P (dC, dI) vwCl (WR a k h0 vi vj vF vG) U.heap ∧ va_K (dC, dI) vwCl (tX12 k) U ∧ va_D (fun _ => True) (WR a k h0 vi vj vF vG))) (va_Qv (fun (u : Nat → Int32) => (Bg u (fT mg sn xi))) (fun (u : Nat → Int32) t => va_P (dC, dI) vwCl (WR a k h0 vi vj (fT vF 0 u) vG) t.heap ∧ va_D (va_A (WR a k h0 vi vj vF vG) sz) (WR a k h0 vi vj (fT vF 0 u) vG)) (va_A (WR a k h0 vi vj vF vG) sz)) 0 0 (va_A (WR a k h0 vi vj vF vG) sz) := by
  exact Met.monoV (r_X12_put l dC dI a k h0 vi vj vF vG sn xv hs (by rw [hxi]; exact hxv) sz) (fun u h => by (try dsimp only at h ⊢); rw [hxi] at h; exact Bg.set hBg h.1 h.2)
theorem b_X12_bare (l : Launch) (dC : Nat → ClassId) (dI : Nat → Nat → Nat) (a : Nat → Nat) (k : Nat → ClassId) (h0 : Nat) (vi : Nat → Int32) (vj : Nat → Int64) (vF : Nat → Nat → Int32) (vG : Nat → Nat → Int64) (an : Nat) (bn : Nat) (mg : Nat → Int) (hBg : Bg (vF 0) mg) (xa : Int) (xb : Int) (v_xa : mg an = xa) (v_xb : mg bn = xb) (hna : an < 1100) (hnb : bn < 1100) (sz : Nat) : Met l yX12_bare wsRX12_bare ({ frames := 0, cells := 0, slots := 0, locals := 0 }) (va_Pc [.ref h0, .int (nI an), .int (nI bn)] (fun U => U.heap.size = sz ∧ va_P (dC, dI) vwCl (WR a k h0 vi vj vF vG) U.heap ∧ va_K (dC, dI) vwCl (tX12 k) U ∧ va_D (fun _ => True) (WR a k h0 vi vj vF vG))) (va_Qi (fun (r : Int32) (u : Unit) => (((r).toInt < 0 ∧ (xa).natAbs < (xb).natAbs) ∨ ((r).toInt = 0 ∧ (xa).natAbs = (xb).natAbs) ∨ (0 < (r).toInt ∧ (xb).natAbs < (xa).natAbs)) ∧ (-1073741824 < (r).toInt ∧ (r).toInt < 1073741824)) (fun (u : Unit) t => va_P (dC, dI) vwCl (WR a k h0 vi vj vF vG) t.heap ∧ va_D (va_A (WR a k h0 vi vj vF vG) sz) (WR a k h0 vi vj vF vG)) (va_A (WR a k h0 vi vj vF vG) sz)) 0 0 (va_A (WR a k h0 vi vj vF vG) sz) := by
  subst v_xa
  subst v_xb
  exact Met.monoI (r_X12_bare l dC dI a k h0 vi vj vF vG an bn (mg an) (mg bn) hna hnb (hBg an hna) (hBg bn hnb) sz) (fun r u h => by (try dsimp only at h ⊢); exact h)
theorem b_X12_compare (l : Launch) (dC : Nat → ClassId) (dI : Nat → Nat → Nat) (a : Nat → Nat) (k : Nat → ClassId) (h0 : Nat) (vi : Nat → Int32) (vj : Nat → Int64) (vF : Nat → Nat → Int32) (vG : Nat → Nat → Int64) (an : Nat) (bn : Nat) (mg : Nat → Int) (hBg : Bg (vF 0) mg) (xa : Int) (xb : Int) (v_xa : mg an = xa) (v_xb : mg bn = xb) (hna : an < 1100) (hnb : bn < 1100) (sz : Nat) : Met l yX12_compare wsRX12_compare ({ frames := 1, cells := 0, slots := 0, locals := 24 }) (va_Pc [.ref h0, .int (nI an), .int (nI bn)] (fun U => U.heap.size = sz ∧ va_P (dC, dI) vwCl (WR a k h0 vi vj vF vG) U.heap ∧ va_K (dC, dI) vwCl (tX12 k) U ∧ va_D (fun _ => True) (WR a k h0 vi vj vF vG))) (va_Qi (fun (r : Int32) (u : Unit) => (((r).toInt < 0 ∧ xa < xb) ∨ ((r).toInt = 0 ∧ xa = xb) ∨ (0 < (r).toInt ∧ xb < xa))) (fun (u : Unit) t => va_P (dC, dI) vwCl (WR a k h0 vi vj vF vG) t.heap ∧ va_D (va_A (WR a k h0 vi vj vF vG) sz) (WR a k h0 vi vj vF vG)) (va_A (WR a k h0 vi vj vF vG) sz)) 0 0 (va_A (WR a k h0 vi vj vF vG) sz) := by
  subst v_xa
  subst v_xb
  exact Met.monoI (r_X12_compare l dC dI a k h0 vi vj vF vG an bn (mg an) (mg bn) hna hnb (hBg an hna) (hBg bn hnb) sz) (fun r u h => by (try dsimp only at h ⊢); exact h)
theorem b_X12_add (l : Launch) (dC : Nat → ClassId) (dI : Nat → Nat → Nat) (a : Nat → Nat) (k : Nat → ClassId) (h0 : Nat) (vi : Nat → Int32) (vj : Nat → Int64) (vF : Nat → Nat → Int32) (vG : Nat → Nat → Int64) (sn : Nat) (hw : Int32) (hI : Int) (an : Nat) (bn : Nat) (mg : Nat → Int) (hBg : Bg (vF 0) mg) (xa : Int) (xb : Int) (v_xa : mg an = xa) (v_xb : mg bn = xb) (hna : an < 1100) (hnb : bn < 1100) (hs : sn < 1100) (hhw : (hI = 1 ∧ hw = 1) ∨ (hI = -1 ∧ hw = -1)) (hbig : (xa + hI * xb).natAbs < 2 ^ 616) (sz : Nat) : Met l yX12_add wsRX12_add ({ frames := 1, cells := 0, slots := 0, locals := 28 }) (va_Pc [.ref h0, .int (nI sn), .int (nI an), .int (nI bn), .int hw] (fun U => U.heap.size = sz ∧ va_P (dC, dI) vwCl (WR a k h0 vi vj vF vG) U.heap ∧ va_K (dC, dI) vwCl (tX12 k) U ∧ va_D (fun _ => True) (WR a k h0 vi vj vF vG))) (va_Qv (fun (u : (Nat → Int32) × (Nat → Int64)) => (Bg (u.1) (fT mg sn (xa + hI * xb)))) (fun (u : (Nat → Int32) × (Nat → Int64)) t => va_P (dC, dI) vwCl (WR a k h0 vi vj (fT vF 0 (u.1)) (fT vG 1 (u.2))) t.heap ∧ va_D (va_A (WR a k h0 vi vj vF vG) sz) (WR a k h0 vi vj (fT vF 0 (u.1)) (fT vG 1 (u.2)))) (va_A (WR a k h0 vi vj vF vG) sz)) 0 0 (va_A (WR a k h0 vi vj vF vG) sz) := by
  subst v_xa
  subst v_xb
  exact Met.monoV (r_X12_add l dC dI a k h0 vi vj vF vG sn hs an bn (mg an) (mg bn) hw hI hna hnb (hBg an hna) (hBg bn hnb) hhw hbig sz) (fun u h => by (try dsimp only at h ⊢); exact Bg.set hBg h.1 h.2)
theorem b_X12_times (l : Launch) (dC : Nat → ClassId) (dI : Nat → Nat → Nat) (a : Nat → Nat) (k : Nat → ClassId) (h0 : Nat) (vi : Nat → Int32) (vj : Nat → Int64) (vF : Nat → Nat → Int32) (vG : Nat → Nat → Int64) (sn : Nat) (an : Nat) (bn : Nat) (mg : Nat → Int) (hBg : Bg (vF 0) mg) (xa : Int) (xb : Int) (v_xa : mg an = xa) (v_xb : mg bn = xb) (hna : an < 1100) (hnb : bn < 1100) (hs : sn < 1100) (hbig : (xa).natAbs * (xb).natAbs < 2 ^ 588) (sz : Nat) : Met l yX12_times wsRX12_times ({ frames := 1, cells := 0, slots := 0, locals := 28 }) (va_Pc [.ref h0, .int (nI sn), .int (nI an), .int (nI bn)] (fun U => U.heap.size = sz ∧ va_P (dC, dI) vwCl (WR a k h0 vi vj vF vG) U.heap ∧ va_K (dC, dI) vwCl (tX12 k) U ∧ va_D (fun _ => True) (WR a k h0 vi vj vF vG))) (va_Qv (fun (u : (Nat → Int32) × (Nat → Int64)) => (Bg (u.1) (fT mg sn (xa * xb)))) (fun (u : (Nat → Int32) × (Nat → Int64)) t => va_P (dC, dI) vwCl (WR a k h0 vi vj (fT vF 0 (u.1)) (fT vG 1 (u.2))) t.heap ∧ va_D (va_A (WR a k h0 vi vj vF vG) sz) (WR a k h0 vi vj (fT vF 0 (u.1)) (fT vG 1 (u.2)))) (va_A (WR a k h0 vi vj vF vG) sz)) 0 0 (va_A (WR a k h0 vi vj vF vG) sz) := by
  subst v_xa
  subst v_xb
  exact Met.monoV (r_X12_times l dC dI a k h0 vi vj vF vG sn hs an bn (mg an) (mg bn) hna hnb (hBg an hna) (hBg bn hnb) hbig sz) (fun u h => by (try dsimp only at h ⊢); exact Bg.set hBg h.1 h.2)
theorem b_X12_divide (l : Launch) (dC : Nat → ClassId) (dI : Nat → Nat → Nat) (a : Nat → Nat) (k : Nat → ClassId) (h0 : Nat) (vi : Nat → Int32) (vj : Nat → Int64) (vF : Nat → Nat → Int32) (vG : Nat → Nat → Int64) (sn : Nat) (rn : Nat) (an : Nat) (bn : Nat) (mg : Nat → Int) (hBg : Bg (vF 0) mg) (xa : Int) (xb : Int) (v_xa : mg an = xa) (v_xb : mg bn = xb) (hna : an < 1100) (hnb : bn < 1100) (hs : sn < 1100) (hrn : rn < 1100) (hsr : sn ≠ rn) (hra : rn ≠ an) (hb0 : xb ≠ 0) (sz : Nat) : Met l yX12_divide wsRX12_divide ({ frames := 1, cells := 0, slots := 0, locals := 28 }) (va_Pc [.ref h0, .int (nI sn), .int (nI rn), .int (nI an), .int (nI bn)] (fun U => U.heap.size = sz ∧ va_P (dC, dI) vwCl (WR a k h0 vi vj vF vG) U.heap ∧ va_K (dC, dI) vwCl (tX12 k) U ∧ va_D (fun _ => True) (WR a k h0 vi vj vF vG))) (va_Qv (fun (u : (Nat → Int32) × (Nat → Int32) × (Nat → Int32) × (Nat → Int64)) => (Bg (u.1) (fT (fT mg sn ((xa).tdiv xb)) rn ((xa).tmod xb)))) (fun (u : (Nat → Int32) × (Nat → Int32) × (Nat → Int32) × (Nat → Int64)) t => va_P (dC, dI) vwCl (WR a k h0 vi vj (fT (fT (fT vF 2 (u.2.1)) 3 (u.2.2.1)) 0 (u.1)) (fT vG 1 (u.2.2.2))) t.heap ∧ va_D (va_A (WR a k h0 vi vj vF vG) sz) (WR a k h0 vi vj (fT (fT (fT vF 2 (u.2.1)) 3 (u.2.2.1)) 0 (u.1)) (fT vG 1 (u.2.2.2)))) (va_A (WR a k h0 vi vj vF vG) sz)) 0 0 (va_A (WR a k h0 vi vj vF vG) sz) := by
  subst v_xa
  subst v_xb
  exact Met.monoV (r_X12_divide l dC dI a k h0 vi vj vF vG sn rn an bn (mg an) (mg bn) hs hrn hsr hra hna hnb (hBg an hna) (hBg bn hnb) hb0 sz) (fun u h => by (try dsimp only at h ⊢); exact Bg.set2 hBg h.1 h.2.1 hsr h.2.2)
end
section
theorem gcd_step (x y : Int) : Int.gcd y (x.tmod y) = Int.gcd x y := by
  unfold Int.gcd
  rw [Int.natAbs_tmod, Nat.gcd_comm, ← Nat.gcd_rec, Nat.gcd_comm]
theorem tmod_nn {x : Int} (h : 0 ≤ x) (y : Int) : 0 ≤ x.tmod y := Int.tmod_nonneg y h
theorem tmod_abs {x y : Int} (h : y ≠ 0) : (x.tmod y).natAbs < y.natAbs := by
  rw [Int.natAbs_tmod]; exact Nat.mod_lt _ (by omega)
theorem gcd_end {x y : Int} (h : y ≤ 0) (hx : 0 ≤ x) (hy : 0 ≤ y) : x = ((Int.gcd x y : Nat) : Int) := by
  have e : y = 0 := by omega
  rw [e, Int.gcd_zero_right]; omega
theorem gcd_ne {x y : Int} (h : x ≠ 0 ∨ y ≠ 0) : ((Int.gcd x y : Nat) : Int) ≠ 0 := fun e => by
  have e2 : Int.gcd x y = 0 := by omega
  have := Int.gcd_eq_zero_iff.mp e2
  omega
theorem sh_le (x y : Int) : (x.tdiv y).natAbs ≤ x.natAbs := by
  rw [Int.natAbs_tdiv]; exact Nat.div_le_self _ _
theorem tdiv_pos {x g : Int} (hx : 0 < x) (hg : 0 < g) (h : g ≤ x) : 0 < x.tdiv g := by
  rw [Int.tdiv_eq_ediv_of_nonneg (by omega)]
  have := (Int.le_ediv_iff_mul_le hg (a := 1) (b := x)).mpr (by omega)
  omega
theorem gcd_le {x y : Int} (hy : 0 < y) : ((Int.gcd x y : Nat) : Int) ≤ y := Int.le_of_dvd hy (Int.gcd_dvd_right x y)
theorem gcd_pos {x y : Int} (hy : 0 < y) : 0 < ((Int.gcd x y : Nat) : Int) := by
  have := gcd_ne (x := x) (y := y) (Or.inr (by omega)); omega
end
section
theorem hd_yX12_turn_RX12 : yX12_turn.cls = RX12 ∧ yX12_turn.cls ≠ "java/lang/invoke/MethodHandle" ∧ yX12_turn.cls ≠ "java/lang/invoke/VarHandle" ∧ (parseMethodDescriptor yX12_turn.desc).map (fun d => d.parameters.length) = some 1 := by decide +kernel
theorem hd_yX12_divide_RX12 : yX12_divide.cls = RX12 ∧ yX12_divide.cls ≠ "java/lang/invoke/MethodHandle" ∧ yX12_divide.cls ≠ "java/lang/invoke/VarHandle" ∧ (parseMethodDescriptor yX12_divide.desc).map (fun d => d.parameters.length) = some 4 := by decide +kernel
theorem hd_yX12_common_RX12 : yX12_common.cls = RX12 ∧ yX12_common.cls ≠ "java/lang/invoke/MethodHandle" ∧ yX12_common.cls ≠ "java/lang/invoke/VarHandle" ∧ (parseMethodDescriptor yX12_common.desc).map (fun d => d.parameters.length) = some 3 := by decide +kernel
theorem hd_yX12_times_RX12 : yX12_times.cls = RX12 ∧ yX12_times.cls ≠ "java/lang/invoke/MethodHandle" ∧ yX12_times.cls ≠ "java/lang/invoke/VarHandle" ∧ (parseMethodDescriptor yX12_times.desc).map (fun d => d.parameters.length) = some 3 := by decide +kernel
theorem hd_yX12_compare_RX12 : yX12_compare.cls = RX12 ∧ yX12_compare.cls ≠ "java/lang/invoke/MethodHandle" ∧ yX12_compare.cls ≠ "java/lang/invoke/VarHandle" ∧ (parseMethodDescriptor yX12_compare.desc).map (fun d => d.parameters.length) = some 2 := by decide +kernel
theorem dX12_common_0 : decode cX12_common 0 = .ok (.aload_n 0, 1) := dk_42 (by decide +kernel)
theorem dX12_common_1 : decode cX12_common 1 = .ok (.iconst 5, 1) := dk_8 (by decide +kernel)
theorem dX12_common_2 : decode cX12_common 2 = .ok (.iload_n 2, 1) := dk_28 (by decide +kernel)
theorem dX12_common_3 : decode cX12_common 3 = .ok (.invokevirtual 365, 3) := dk_182 (by decide +kernel)
theorem dX12_common_6 : decode cX12_common 6 = .ok (.aload_n 0, 1) := dk_42 (by decide +kernel)
theorem dX12_common_7 : decode cX12_common 7 = .ok (.bipush 6, 2) := dk_16 (by decide +kernel)
theorem dX12_common_9 : decode cX12_common 9 = .ok (.iload_n 3, 1) := dk_29 (by decide +kernel)
theorem dX12_common_10 : decode cX12_common 10 = .ok (.invokevirtual 365, 3) := dk_182 (by decide +kernel)
theorem dX12_common_13 : decode cX12_common 13 = .ok (.aload_n 0, 1) := dk_42 (by decide +kernel)
theorem dX12_common_14 : decode cX12_common 14 = .ok (.iconst 5, 1) := dk_8 (by decide +kernel)
theorem dX12_common_15 : decode cX12_common 15 = .ok (.invokevirtual 353, 3) := dk_182 (by decide +kernel)
theorem dX12_common_18 : decode cX12_common 18 = .ok (.ifCond .ge 8, 3) := dk_156 (by decide +kernel)
theorem dX12_common_21 : decode cX12_common 21 = .ok (.aload_n 0, 1) := dk_42 (by decide +kernel)
theorem dX12_common_22 : decode cX12_common 22 = .ok (.iconst 5, 1) := dk_8 (by decide +kernel)
theorem dX12_common_23 : decode cX12_common 23 = .ok (.invokevirtual 379, 3) := dk_182 (by decide +kernel)
theorem dX12_common_26 : decode cX12_common 26 = .ok (.aload_n 0, 1) := dk_42 (by decide +kernel)
theorem dX12_common_27 : decode cX12_common 27 = .ok (.bipush 6, 2) := dk_16 (by decide +kernel)
theorem dX12_common_29 : decode cX12_common 29 = .ok (.invokevirtual 353, 3) := dk_182 (by decide +kernel)
theorem dX12_common_32 : decode cX12_common 32 = .ok (.ifCond .ge 9, 3) := dk_156 (by decide +kernel)
theorem dX12_common_35 : decode cX12_common 35 = .ok (.aload_n 0, 1) := dk_42 (by decide +kernel)
theorem dX12_common_36 : decode cX12_common 36 = .ok (.bipush 6, 2) := dk_16 (by decide +kernel)
theorem dX12_common_38 : decode cX12_common 38 = .ok (.invokevirtual 379, 3) := dk_182 (by decide +kernel)
theorem dX12_common_41 : decode cX12_common 41 = .ok (.aload_n 0, 1) := dk_42 (by decide +kernel)
theorem dX12_common_42 : decode cX12_common 42 = .ok (.bipush 6, 2) := dk_16 (by decide +kernel)
theorem dX12_common_44 : decode cX12_common 44 = .ok (.invokevirtual 353, 3) := dk_182 (by decide +kernel)
theorem dX12_common_47 : decode cX12_common 47 = .ok (.ifCond .le 32, 3) := dk_158 (by decide +kernel)
theorem dX12_common_50 : decode cX12_common 50 = .ok (.aload_n 0, 1) := dk_42 (by decide +kernel)
theorem dX12_common_51 : decode cX12_common 51 = .ok (.bipush 7, 2) := dk_16 (by decide +kernel)
theorem dX12_common_53 : decode cX12_common 53 = .ok (.bipush 8, 2) := dk_16 (by decide +kernel)
theorem dX12_common_55 : decode cX12_common 55 = .ok (.iconst 5, 1) := dk_8 (by decide +kernel)
theorem dX12_common_56 : decode cX12_common 56 = .ok (.bipush 6, 2) := dk_16 (by decide +kernel)
theorem dX12_common_58 : decode cX12_common 58 = .ok (.invokevirtual 383, 3) := dk_182 (by decide +kernel)
theorem dX12_common_61 : decode cX12_common 61 = .ok (.aload_n 0, 1) := dk_42 (by decide +kernel)
theorem dX12_common_62 : decode cX12_common 62 = .ok (.iconst 5, 1) := dk_8 (by decide +kernel)
theorem dX12_common_63 : decode cX12_common 63 = .ok (.bipush 6, 2) := dk_16 (by decide +kernel)
theorem dX12_common_65 : decode cX12_common 65 = .ok (.invokevirtual 365, 3) := dk_182 (by decide +kernel)
theorem dX12_common_68 : decode cX12_common 68 = .ok (.aload_n 0, 1) := dk_42 (by decide +kernel)
theorem dX12_common_69 : decode cX12_common 69 = .ok (.bipush 6, 2) := dk_16 (by decide +kernel)
theorem dX12_common_71 : decode cX12_common 71 = .ok (.bipush 8, 2) := dk_16 (by decide +kernel)
theorem dX12_common_73 : decode cX12_common 73 = .ok (.invokevirtual 365, 3) := dk_182 (by decide +kernel)
theorem dX12_common_76 : decode cX12_common 76 = .ok (.goto (-35), 3) := dk_167 (by decide +kernel)
theorem dX12_common_79 : decode cX12_common 79 = .ok (.aload_n 0, 1) := dk_42 (by decide +kernel)
theorem dX12_common_80 : decode cX12_common 80 = .ok (.iload_n 1, 1) := dk_27 (by decide +kernel)
theorem dX12_common_81 : decode cX12_common 81 = .ok (.iconst 5, 1) := dk_8 (by decide +kernel)
theorem dX12_common_82 : decode cX12_common 82 = .ok (.invokevirtual 365, 3) := dk_182 (by decide +kernel)
theorem dX12_common_85 : decode cX12_common 85 = .ok (.return_, 1) := dk_177 (by decide +kernel)
def wsRX12_common : List Cond := .code yX12_common cX12_common 4 none :: ([] ++ wsX120 ++ (wsV RX12 365 RX12 yX12_copy wsRX12_copy) ++ (wsV RX12 353 RX12 yX12_sign wsRX12_sign) ++ (wsV RX12 379 RX12 yX12_turn wsRX12_turn) ++ (wsV RX12 383 RX12 yX12_divide wsRX12_divide))
theorem iwsRX12_common_in12 : ∀ w ∈ wsX120, w ∈ wsRX12_common := fun _ h => List.mem_cons_of_mem _ (List.mem_append_left _ (List.mem_append_left _ (List.mem_append_left _ (List.mem_append_left _ (List.mem_append_right _ h)))))
theorem gwsRX12_common_0 : GoodIn wsRX12_common (wsV RX12 365 RX12 yX12_copy wsRX12_copy) := goodIn_sub (fun _ h => List.mem_cons_of_mem _ (List.mem_append_left _ (List.mem_append_left _ (List.mem_append_left _ (List.mem_append_right _ h))))) (gdV (by decide +kernel) gdwsRX12_copy)
theorem gwsRX12_common_1 : GoodIn wsRX12_common (wsV RX12 353 RX12 yX12_sign wsRX12_sign) := goodIn_sub (fun _ h => List.mem_cons_of_mem _ (List.mem_append_left _ (List.mem_append_left _ (List.mem_append_right _ h)))) (gdV (by decide +kernel) gdwsRX12_sign)
theorem gwsRX12_common_2 : GoodIn wsRX12_common (wsV RX12 379 RX12 yX12_turn wsRX12_turn) := goodIn_sub (fun _ h => List.mem_cons_of_mem _ (List.mem_append_left _ (List.mem_append_right _ h))) (gdV (by decide +kernel) gdwsRX12_turn)
theorem gwsRX12_common_3 : GoodIn wsRX12_common (wsV RX12 383 RX12 yX12_divide wsRX12_divide) := goodIn_sub (fun _ h => List.mem_cons_of_mem _ (List.mem_append_right _ h)) (gdV (by decide +kernel) gdwsRX12_divide)
theorem gdwsRX12_common : wsRX12_common.all goodWord = true := gdC rfl (gdA (gdA (gdA (gdA (gdA (by decide +kernel : ([] : List Cond).all goodWord = true) gdwsX120) (gdV (by decide +kernel) gdwsRX12_copy)) (gdV (by decide +kernel) gdwsRX12_sign)) (gdV (by decide +kernel) gdwsRX12_turn)) (gdV (by decide +kernel) gdwsRX12_divide))
set_option maxHeartbeats 4000000 in
set_option maxRecDepth 100000 in
/-- common(s, a, b) -/
theorem r_X12_common (l : Launch) (dC : Nat → ClassId) (dI : Nat → Nat → Nat) (a : Nat → Nat) (k : Nat → ClassId) (h0 : Nat) (vi : Nat → Int32) (vj : Nat → Int64) (vF : Nat → Nat → Int32) (vG : Nat → Nat → Int64) (sn : Nat) (an : Nat) (bn : Nat) (mg : Nat → Int) (hBg : Bg (vF 0) mg) (xa : Int) (xb : Int) (v_xa : mg an = xa) (v_xb : mg bn = xb) (hna : an < 1100) (hnb : bn < 1100) (hs : sn < 1100) (h58s : (sn < 5 ∨ 8 < sn)) (h58a : (an < 5 ∨ 8 < an)) (h58b : (bn < 5 ∨ 8 < bn)) (sz : Nat) : Met l yX12_common wsRX12_common ({ frames := 2, cells := 0, slots := 0, locals := 62 }) (va_Pc [.ref h0, .int (nI sn), .int (nI an), .int (nI bn)] (fun U => U.heap.size = sz ∧ va_P (dC, dI) vwCl (WR a k h0 vi vj vF vG) U.heap ∧ va_K (dC, dI) vwCl (tX12 k) U ∧ va_D (fun _ => True) (WR a k h0 vi vj vF vG))) (va_Qv (fun (u : (Nat → Int32) × (Nat → Int32) × (Nat → Int32) × (Nat → Int64) × (Nat → Int)) => (Bg (u.1) (u.2.2.2.2)) ∧ ((u.2.2.2.2) sn = ((Int.gcd xa xb : Nat) : Int)) ∧ (∀ q, q ≠ sn → (q < 5 ∨ 8 < q) → (u.2.2.2.2) q = mg q)) (fun (u : (Nat → Int32) × (Nat → Int32) × (Nat → Int32) × (Nat → Int64) × (Nat → Int)) t => va_P (dC, dI) vwCl (WR a k h0 vi vj (fT (fT (fT vF 0 (u.1)) 2 (u.2.1)) 3 (u.2.2.1)) (fT vG 1 (u.2.2.2.1))) t.heap ∧ va_D (va_A (WR a k h0 vi vj vF vG) sz) (WR a k h0 vi vj (fT (fT (fT vF 0 (u.1)) 2 (u.2.1)) 3 (u.2.2.1)) (fT vG 1 (u.2.2.2.1)))) (va_A (WR a k h0 vi vj vF vG) sz)) 0 0 (va_A (WR a k h0 vi vj vF vG) sz) := by
  refine Met.ofW (cc := cX12_common) (maxL := 4) (ret := none) (by decide) rfl ?_
  intro p e s m args below meth c s₁ B hml hv
  obtain ⟨rfl, hsz, hP, hK, hD0⟩ := hv
  have hx := B.exec
  have hb := B.bytes
  have hr := B.returns
  have hts := atoms_spec (ws := wsRX12_common) B.pre
  have hown : s.vm.findClass RX12 = some m.cls := findClass_of_methodNamed B.named
  have hlocks := B.notSynchronized
  subst hsz
  have hD := hD0.self (sz := s.heap.size)
  generalize hAe : va_A (WR a k h0 vi vj vF vG) s.heap.size = A at hD ⊢
  have hA : ∀ q : Nat, s.heap.size ≤ q → A q := fun q h => by rw [← hAe]; exact Or.inr h
  have hS : va_S A s.heap s.heap [] := va_S.rf
  have hl := lv_entry ([.ref h0, .int (nI sn), .int (nI an), .int (nI bn)]) (n := 4) (Nat.le_of_ble_eq_true rfl)
  rw [lg_entry_eq]
  generalize (lg_sl ([.ref h0, .int (nI sn), .int (nI an), .int (nI bn)]) ++ List.replicate (4 - (lg_sl ([.ref h0, .int (nI sn), .int (nI an), .int (nI bn)])).length) Slot.unset).toArray = ls at hl ⊢
  have hl : lv_has ls 4 [(0, .ref h0), (1, .int (nI sn)), (2, .int (nI an)), (3, .int (nI bn))] := hl
  refine lv_aload_n hx hb dX12_common_0 rfl (lv_at hl 0 rfl) ?_
  refine lv_iconst (v := 5) hx hb dX12_common_1 (by decide) ?_
  refine lv_iload_n hx hb dX12_common_2 rfl (lv_at hl 2 rfl) ?_
  have hFc := allFree hD hS hA
  refine va_callv (va_runV (As := [.int 5, .int (nI an)]) (rest := []) ⟨hx, hb, hml, hown, hts⟩ (b_X12_copy l dC dI a k h0 vi vj vF vG 5 an mg hBg xa (by rw [v_xa]) (by first | with_reducible assumption | decide | omega | rfl | assumption) (by first | with_reducible assumption | decide | omega | rfl | assumption) (by first | with_reducible assumption | decide | omega | rfl | assumption) s.heap.size) (cwV 2 hts gwsRX12_common_0 rfl rfl rfl hd_yX12_copy_RX12 (by decide +kernel)) (fz_pre (va_recv hK hP (ci := 12) (q0 := 0) rfl rfl) hP hK hD) rfl rfl hl.1 rfl (lv_room (Nat.le_of_ble_eq_true rfl)) dX12_common_3 (by decide +kernel)) hS (fun q _ h => hFc q h) hFc (fun g3 t9_ H locs ht hvm hw9 hB9 hz1 hk1 hS => ?_)
  have hP : va_P (dC, dI) vwCl (WR a k h0 vi vj (fT vF 0 g3) vG) H := fz_P ht hB9.1
  have hD : va_D A (WR a k h0 vi vj (fT vF 0 g3) vG) := hB9.2.weaken (fun _ q _ h => hFc q.1 h)
  have f3_0 := hw9
  try dsimp only at f3_0
  refine lv_aload_n hx hb dX12_common_6 rfl (lv_at hl 0 rfl) ?_
  refine lv_bipush (v := 6) hx hb dX12_common_7 (by decide) ?_
  refine lv_iload_n hx hb dX12_common_9 rfl (lv_at hl 3 rfl) ?_
  have hFc := allFree hD hS hA
  refine va_callv (va_runV (As := [.int 6, .int (nI bn)]) (rest := []) ⟨hx, hb, hml, hown, hts⟩ (b_X12_copy l dC dI a k h0 vi vj (fT vF 0 g3) vG 6 bn (fT mg 5 xa) f3_0 xb (by rw [fT_ne _ _ (by omega), v_xb]) (by first | with_reducible assumption | decide | omega | rfl | assumption) (by first | with_reducible assumption | decide | omega | rfl | assumption) (by first | with_reducible assumption | decide | omega | rfl | assumption) H.size) (cwV 2 hts gwsRX12_common_0 rfl rfl rfl hd_yX12_copy_RX12 (by decide +kernel)) (fz_pre (va_recv hK hP (ci := 12) (q0 := 0) rfl rfl) hP hK hD) rfl rfl hl.1 rfl (lv_room (Nat.le_of_ble_eq_true rfl)) dX12_common_10 (by decide +kernel)) hS (fun q _ h => hFc q h) hFc (fun g10 t9_ H locs ht hvm hw9 hB9 hz1 hk1 hS => ?_)
  have hP : va_P (dC, dI) vwCl (WR a k h0 vi vj (fT (fT vF 0 g3) 0 g10) vG) H := fz_P ht hB9.1
  have hD : va_D A (WR a k h0 vi vj (fT (fT vF 0 g3) 0 g10) vG) := hB9.2.weaken (fun _ q _ h => hFc q.1 h)
  have e9 : fT vF 0 g10 = fT (fT vF 0 g3) 0 g10 := (fT_sm _ _ _ _).symm
  rw [← e9] at hP hD
  clear e9
  have hP : va_P (dC, dI) vwCl (WR a k h0 vi vj (fT vF 0 g10) vG) H := hP
  have hD : va_D A (WR a k h0 vi vj (fT vF 0 g10) vG) := hD
  have f10_0 := hw9
  try dsimp only at f10_0
  refine lv_aload_n hx hb dX12_common_13 rfl (lv_at hl 0 rfl) ?_
  refine lv_iconst (v := 5) hx hb dX12_common_14 (by decide) ?_
  have hFc := allFree hD hS hA
  refine va_calli (va_runV (As := [.int 5]) (rest := []) ⟨hx, hb, hml, hown, hts⟩ (b_X12_sign l dC dI a k h0 vi vj (fT vF 0 g10) vG 5 (fT (fT mg 5 xa) 6 xb) f10_0 xa (by rw [fT_ne _ _ (by omega), fT_eq]) (by first | with_reducible assumption | decide | omega | rfl | assumption) H.size) (cwV 1 hts gwsRX12_common_1 rfl rfl rfl hd_yX12_sign_RX12 (by decide +kernel)) (fz_pre (va_recv hK hP (ci := 12) (q0 := 0) rfl rfl) hP hK hD) rfl rfl hl.1 rfl (lv_room (Nat.le_of_ble_eq_true rfl)) dX12_common_15 (by decide +kernel)) hS (fun q _ h => hFc q h) hFc (fun r15 u t9_ H locs ht hvm hw9 hB9 hz1 hk1 hS => ?_)
  have hP : va_P (dC, dI) vwCl (WR a k h0 vi vj (fT vF 0 g10) vG) H := fz_P ht hB9.1
  have hD : va_D A (WR a k h0 vi vj (fT vF 0 g10) vG) := hB9.2.weaken (fun _ q _ h => hFc q.1 h)
  have f15_0 := hw9
  try dsimp only at f15_0
  refine W.cut (pc := 26) (fun H locs ls stk => ∃ (ga : Nat → Int32) (ma : Nat → Int) (y5 : Int) (y6 : Int), (Bg ga ma) ∧ (ma 5 = y5) ∧ (ma 6 = y6) ∧ (y5 = xa.natAbs) ∧ (y6 = xb) ∧ (∀ q, (q < 5 ∨ 8 < q) → ma q = mg q) ∧  stk = [] ∧ va_P (dC, dI) vwCl (WR a k h0 vi vj (fT vF 0 ga) vG) H ∧ va_D A (WR a k h0 vi vj (fT vF 0 ga) vG) ∧ va_S A s.heap H locs ∧ lv_has ls 4 [(0, .ref h0), (1, .int (nI sn))]) (fun join1 => ?_) ?_
  · refine lv_if_ge (tgt := 26) hx hb dX12_common_18 (by decide) (fun c_18 => ?_) (fun c_18 => ?_)
    · have t_18 : (r15).toInt ≥ 0 := toI_ge c_18 rfl (by decide)
      have hl : lv_has _ _ ([(0, .ref h0), (1, .int (nI sn))]) := lv_sub hl [0, 1] rfl
      exact join1 _ _ _ _ ⟨g10, (fT (fT mg 5 xa) 6 xb), xa, xb, f10_0, (by rw [fT_ne _ _ (by omega), fT_eq]), (by rw [fT_eq]), by omega, by omega, fun q hq => by (rw [fT_ne _ _ (by omega), fT_ne _ _ (by omega)]), rfl, hP, hD, hS, hl⟩
    · have t_18 : ¬ (r15).toInt ≥ 0 := toI_nge c_18 rfl (by decide)
      refine lv_aload_n hx hb dX12_common_21 rfl (lv_at hl 0 rfl) ?_
      refine lv_iconst (v := 5) hx hb dX12_common_22 (by decide) ?_
      have hFc := allFree hD hS hA
      refine va_callv (va_runV (As := [.int 5]) (rest := []) ⟨hx, hb, hml, hown, hts⟩ (b_X12_turn l dC dI a k h0 vi vj (fT vF 0 g10) vG 5 (fT (fT mg 5 xa) 6 xb) f10_0 xa (by rw [fT_ne _ _ (by omega), fT_eq]) (by first | with_reducible assumption | decide | omega | rfl | assumption) H.size) (cwV 1 hts gwsRX12_common_2 rfl rfl rfl hd_yX12_turn_RX12 (by decide +kernel)) (fz_pre (va_recv hK hP (ci := 12) (q0 := 0) rfl rfl) hP hK hD) rfl rfl hl.1 rfl (lv_room (Nat.le_of_ble_eq_true rfl)) dX12_common_23 (by decide +kernel)) hS (fun q _ h => hFc q h) hFc (fun u t9_ H locs ht hvm hw9 hB9 hz1 hk1 hS => ?_)
      have hP : va_P (dC, dI) vwCl (WR a k h0 vi vj (fT (fT vF 0 g10) 0 (upd g10 (nI (24 * 5)).toNatClampNeg (-(g10 (24 * 5))))) vG) H := fz_P ht hB9.1
      have hD : va_D A (WR a k h0 vi vj (fT (fT vF 0 g10) 0 (upd g10 (nI (24 * 5)).toNatClampNeg (-(g10 (24 * 5))))) vG) := hB9.2.weaken (fun _ q _ h => hFc q.1 h)
      have e9 : fT vF 0 (upd g10 (nI (24 * 5)).toNatClampNeg (-(g10 (24 * 5)))) = fT (fT vF 0 g10) 0 (upd g10 (nI (24 * 5)).toNatClampNeg (-(g10 (24 * 5)))) := (fT_sm _ _ _ _).symm
      rw [← e9] at hP hD
      clear e9
      have hP : va_P (dC, dI) vwCl (WR a k h0 vi vj (fT vF 0 (upd g10 (nI (24 * 5)).toNatClampNeg (-(g10 (24 * 5))))) vG) H := hP
      have hD : va_D A (WR a k h0 vi vj (fT vF 0 (upd g10 (nI (24 * 5)).toNatClampNeg (-(g10 (24 * 5))))) vG) := hD
      have f23_0 := hw9
      try dsimp only at f23_0
      have f23_0 : Bg (upd g10 (nI (24 * 5)).toNatClampNeg (-(g10 (24 * 5)))) (fT (fT (fT mg 5 xa) 6 xb) 5 (-xa)) := f23_0
      have hl : lv_has _ _ ([(0, .ref h0), (1, .int (nI sn))]) := lv_sub hl [0, 1] rfl
      exact join1 _ _ _ _ ⟨(upd g10 (nI (24 * 5)).toNatClampNeg (-(g10 (24 * 5)))), (fT (fT (fT mg 5 xa) 6 xb) 5 (-xa)), (-xa), xb, f23_0, (by rw [fT_eq]), (by rw [fT_ne _ _ (by omega), fT_eq]), by omega, by omega, fun q hq => by (rw [fT_ne _ _ (by omega), fT_ne _ _ (by omega), fT_ne _ _ (by omega)]), rfl, hP, hD, hS, hl⟩
  · rintro H locs ls stk ⟨ga, ma, y5, y6, hBa, v_y5, v_y6, hy5, hy6, hoa, rfl, hP, hD, hS, hl⟩
    refine lv_aload_n hx hb dX12_common_26 rfl (lv_at hl 0 rfl) ?_
    refine lv_bipush (v := 6) hx hb dX12_common_27 (by decide) ?_
    have hFc := allFree hD hS hA
    refine va_calli (va_runV (As := [.int 6]) (rest := []) ⟨hx, hb, hml, hown, hts⟩ (b_X12_sign l dC dI a k h0 vi vj (fT vF 0 ga) vG 6 ma hBa y6 (by rw [v_y6]) (by first | with_reducible assumption | decide | omega | rfl | assumption) H.size) (cwV 1 hts gwsRX12_common_1 rfl rfl rfl hd_yX12_sign_RX12 (by decide +kernel)) (fz_pre (va_recv hK hP (ci := 12) (q0 := 0) rfl rfl) hP hK hD) rfl rfl hl.1 rfl (lv_room (Nat.le_of_ble_eq_true rfl)) dX12_common_29 (by decide +kernel)) hS (fun q _ h => hFc q h) hFc (fun r29 u t9_ H locs ht hvm hw9 hB9 hz1 hk1 hS => ?_)
    have hP : va_P (dC, dI) vwCl (WR a k h0 vi vj (fT vF 0 ga) vG) H := fz_P ht hB9.1
    have hD : va_D A (WR a k h0 vi vj (fT vF 0 ga) vG) := hB9.2.weaken (fun _ q _ h => hFc q.1 h)
    have f29_0 := hw9
    try dsimp only at f29_0
    refine W.cut (pc := 41) (fun H locs ls stk => ∃ (gb : Nat → Int32) (mb : Nat → Int) (z5 : Int) (z6 : Int), (Bg gb mb) ∧ (mb 5 = z5) ∧ (mb 6 = z6) ∧ (z5 = xa.natAbs) ∧ (z6 = xb.natAbs) ∧ (∀ q, (q < 5 ∨ 8 < q) → mb q = mg q) ∧  stk = [] ∧ va_P (dC, dI) vwCl (WR a k h0 vi vj (fT vF 0 gb) vG) H ∧ va_D A (WR a k h0 vi vj (fT vF 0 gb) vG) ∧ va_S A s.heap H locs ∧ lv_has ls 4 [(0, .ref h0), (1, .int (nI sn))]) (fun join2 => ?_) ?_
    · refine lv_if_ge (tgt := 41) hx hb dX12_common_32 (by decide) (fun c_32 => ?_) (fun c_32 => ?_)
      · have t_32 : (r29).toInt ≥ 0 := toI_ge c_32 rfl (by decide)
        have hl : lv_has _ _ ([(0, .ref h0), (1, .int (nI sn))]) := lv_sub hl [0, 1] rfl
        exact join2 _ _ _ _ ⟨ga, ma, y5, y6, hBa, (by rw [v_y5]), (by rw [v_y6]), by omega, by omega, hoa, rfl, hP, hD, hS, hl⟩
      · have t_32 : ¬ (r29).toInt ≥ 0 := toI_nge c_32 rfl (by decide)
        refine lv_aload_n hx hb dX12_common_35 rfl (lv_at hl 0 rfl) ?_
        refine lv_bipush (v := 6) hx hb dX12_common_36 (by decide) ?_
        have hFc := allFree hD hS hA
        refine va_callv (va_runV (As := [.int 6]) (rest := []) ⟨hx, hb, hml, hown, hts⟩ (b_X12_turn l dC dI a k h0 vi vj (fT vF 0 ga) vG 6 ma hBa y6 (by rw [v_y6]) (by first | with_reducible assumption | decide | omega | rfl | assumption) H.size) (cwV 1 hts gwsRX12_common_2 rfl rfl rfl hd_yX12_turn_RX12 (by decide +kernel)) (fz_pre (va_recv hK hP (ci := 12) (q0 := 0) rfl rfl) hP hK hD) rfl rfl hl.1 rfl (lv_room (Nat.le_of_ble_eq_true rfl)) dX12_common_38 (by decide +kernel)) hS (fun q _ h => hFc q h) hFc (fun u t9_ H locs ht hvm hw9 hB9 hz1 hk1 hS => ?_)
        have hP : va_P (dC, dI) vwCl (WR a k h0 vi vj (fT (fT vF 0 ga) 0 (upd ga (nI (24 * 6)).toNatClampNeg (-(ga (24 * 6))))) vG) H := fz_P ht hB9.1
        have hD : va_D A (WR a k h0 vi vj (fT (fT vF 0 ga) 0 (upd ga (nI (24 * 6)).toNatClampNeg (-(ga (24 * 6))))) vG) := hB9.2.weaken (fun _ q _ h => hFc q.1 h)
        have e9 : fT vF 0 (upd ga (nI (24 * 6)).toNatClampNeg (-(ga (24 * 6)))) = fT (fT vF 0 ga) 0 (upd ga (nI (24 * 6)).toNatClampNeg (-(ga (24 * 6)))) := (fT_sm _ _ _ _).symm
        rw [← e9] at hP hD
        clear e9
        have hP : va_P (dC, dI) vwCl (WR a k h0 vi vj (fT vF 0 (upd ga (nI (24 * 6)).toNatClampNeg (-(ga (24 * 6))))) vG) H := hP
        have hD : va_D A (WR a k h0 vi vj (fT vF 0 (upd ga (nI (24 * 6)).toNatClampNeg (-(ga (24 * 6))))) vG) := hD
        have f38_0 := hw9
        try dsimp only at f38_0
        have f38_0 : Bg (upd ga (nI (24 * 6)).toNatClampNeg (-(ga (24 * 6)))) (fT ma 6 (-y6)) := f38_0
        have hl : lv_has _ _ ([(0, .ref h0), (1, .int (nI sn))]) := lv_sub hl [0, 1] rfl
        exact join2 _ _ _ _ ⟨(upd ga (nI (24 * 6)).toNatClampNeg (-(ga (24 * 6)))), (fT ma 6 (-y6)), y5, (-y6), f38_0, (by rw [fT_ne _ _ (by omega), v_y5]), (by rw [fT_eq]), by omega, by omega, fun q hq => by (rw [fT_ne _ _ (by omega)]); exact hoa q hq, rfl, hP, hD, hS, hl⟩
    · rintro H locs ls stk ⟨gb, mb, z5, z6, hBb, v_z5, v_z6, hz5, hz6, hob, rfl, hP, hD, hS, hl⟩
      have e9 : fT (fT (fT vF 0 gb) 2 (vF 2)) 3 (vF 3) = fT vF 0 gb := by funext q9; by_cases h9_0 : q9 = 0; (subst h9_0; exact ((fT_ne _ _ (Nat.ne_of_beq_eq_false rfl)).trans ((fT_ne _ _ (Nat.ne_of_beq_eq_false rfl)).trans (fT_eq _ _ _))).trans (Eq.trans (by first | with_reducible rfl | with_reducible assumption | (symm; with_reducible assumption) | rfl | assumption | (symm; assumption) | (subst_vars; rfl)) (fT_eq _ _ _).symm)); by_cases h9_2 : q9 = 2; (subst h9_2; exact ((fT_ne _ _ (Nat.ne_of_beq_eq_false rfl)).trans (fT_eq _ _ _)).trans (Eq.trans (by first | with_reducible rfl | with_reducible assumption | (symm; with_reducible assumption) | rfl | assumption | (symm; assumption) | (subst_vars; rfl)) (fT_ne _ _ (Nat.ne_of_beq_eq_false rfl)).symm)); by_cases h9_3 : q9 = 3; (subst h9_3; exact (fT_eq _ _ _).trans (Eq.trans (by first | with_reducible rfl | with_reducible assumption | (symm; with_reducible assumption) | rfl | assumption | (symm; assumption) | (subst_vars; rfl)) (fT_ne _ _ (Nat.ne_of_beq_eq_false rfl)).symm)); exact ((fT_ne _ _ h9_3).trans ((fT_ne _ _ h9_2).trans (fT_ne _ _ h9_0))).trans (fT_ne _ _ h9_0).symm
      have hP : va_P (dC, dI) vwCl (WR a k h0 vi vj (fT (fT (fT vF 0 gb) 2 (vF 2)) 3 (vF 3)) vG) H := by rw [e9]; exact hP
      have hD : va_D A (WR a k h0 vi vj (fT (fT (fT vF 0 gb) 2 (vF 2)) 3 (vF 3)) vG) := by rw [e9]; exact hD
      clear e9
      have e9 : fT vG 1 (vG 1) = vG := by funext q9; by_cases h9_1 : q9 = 1; (subst h9_1; exact (fT_eq _ _ _).trans (Eq.trans (by first | with_reducible rfl | with_reducible assumption | (symm; with_reducible assumption) | rfl | assumption | (symm; assumption) | (subst_vars; rfl)) (Eq.refl _).symm)); exact (fT_ne _ _ h9_1).trans (Eq.refl _).symm
      have hP : va_P (dC, dI) vwCl (WR a k h0 vi vj (fT (fT (fT vF 0 gb) 2 (vF 2)) 3 (vF 3)) (fT vG 1 (vG 1))) H := by rw [e9]; exact hP
      have hD : va_D A (WR a k h0 vi vj (fT (fT (fT vF 0 gb) 2 (vF 2)) 3 (vF 3)) (fT vG 1 (vG 1))) := by rw [e9]; exact hD
      clear e9
      have hl : lv_has _ _ ([(0, .ref h0), (1, .int (nI sn))]) := lv_sub hl [0, 1] rfl
      refine (fun (loop : ∀ (n9 : Nat) (g : Nat → Int32) (f2 : Nat → Int32) (f3 : Nat → Int32) (gs1 : Nat → Int64) (m1 : Nat → Int) (x5 : Int) (x6 : Int) (H : Heap) (locs : List Loc) (ls : Array Slot), (Bg g m1) → (m1 5 = x5) → (m1 6 = x6) → (Int.gcd x5 x6 = Int.gcd xa xb) → (0 ≤ x5) → (0 ≤ x6) → (∀ q, (q < 5 ∨ 8 < q) → m1 q = mg q) →  (x6.natAbs < n9) → va_P (dC, dI) vwCl (WR a k h0 vi vj (fT (fT (fT vF 0 g) 2 f2) 3 f3) (fT vG 1 gs1)) H → va_D A (WR a k h0 vi vj (fT (fT (fT vF 0 g) 2 f2) 3 f3) (fT vG 1 gs1)) → va_S A s.heap H locs → lv_has ls 4 [(0, .ref h0), (1, .int (nI sn))] → W p l e _ s m _ below meth c H locs 0 0 _ (F0 m 41 ls [])) => loop ((z6).natAbs + 1) gb (vF 2) (vF 3) (vG 1) mb z5 z6 _ _ _ (hBb) ((by rw [v_z5])) ((by rw [v_z6])) (by rw [hz5, hz6]; rfl) (by omega) (by omega) (hob) (by omega) hP hD hS hl) ?_
      intro n9
      induction n9 with
      | zero => intro g f2 f3 gs1 m1 x5 x6 H locs ls hB1 v_x5 v_x6 hgc hp5 hp6 ho hf9; exact False.elim (by omega)
      | succ n9 ih41 =>
        intro g f2 f3 gs1 m1 x5 x6 H locs ls hB1 v_x5 v_x6 hgc hp5 hp6 ho hf41 hP hD hS hl
        refine lv_aload_n hx hb dX12_common_41 rfl (lv_at hl 0 rfl) ?_
        refine lv_bipush (v := 6) hx hb dX12_common_42 (by decide) ?_
        have hFc := allFree hD hS hA
        refine va_calli (va_runV (As := [.int 6]) (rest := []) ⟨hx, hb, hml, hown, hts⟩ (b_X12_sign l dC dI a k h0 vi vj (fT (fT (fT vF 0 g) 2 f2) 3 f3) (fT vG 1 gs1) 6 m1 hB1 x6 (by rw [v_x6]) (by first | with_reducible assumption | decide | omega | rfl | assumption) H.size) (cwV 1 hts gwsRX12_common_1 rfl rfl rfl hd_yX12_sign_RX12 (by decide +kernel)) (fz_pre (va_recv hK hP (ci := 12) (q0 := 0) rfl rfl) hP hK hD) rfl rfl hl.1 rfl (lv_room (Nat.le_of_ble_eq_true rfl)) dX12_common_44 (by decide +kernel)) hS (fun q _ h => hFc q h) hFc (fun r44 u t9_ H locs ht hvm hw9 hB9 hz1 hk1 hS => ?_)
        have hP : va_P (dC, dI) vwCl (WR a k h0 vi vj (fT (fT (fT vF 0 g) 2 f2) 3 f3) (fT vG 1 gs1)) H := fz_P ht hB9.1
        have hD : va_D A (WR a k h0 vi vj (fT (fT (fT vF 0 g) 2 f2) 3 f3) (fT vG 1 gs1)) := hB9.2.weaken (fun _ q _ h => hFc q.1 h)
        have f44_0 := hw9
        try dsimp only at f44_0
        refine lv_if_le (tgt := 79) hx hb dX12_common_47 (by decide) (fun c_47 => ?_) (fun c_47 => ?_)
        · have t_47 : (r44).toInt ≤ 0 := toI_le c_47 rfl (by decide)
          refine lv_aload_n hx hb dX12_common_79 rfl (lv_at hl 0 rfl) ?_
          refine lv_iload_n hx hb dX12_common_80 rfl (lv_at hl 1 rfl) ?_
          refine lv_iconst (v := 5) hx hb dX12_common_81 (by decide) ?_
          have hFc := allFree hD hS hA
          refine va_callv (va_runV (As := [.int (nI sn), .int 5]) (rest := []) ⟨hx, hb, hml, hown, hts⟩ (b_X12_copy l dC dI a k h0 vi vj (fT (fT (fT vF 0 g) 2 f2) 3 f3) (fT vG 1 gs1) sn 5 m1 hB1 x5 (by rw [v_x5]) (by first | with_reducible assumption | decide | omega | rfl | assumption) (by first | with_reducible assumption | decide | omega | rfl | assumption) (by first | with_reducible assumption | decide | omega | rfl | assumption) H.size) (cwV 2 hts gwsRX12_common_0 rfl rfl rfl hd_yX12_copy_RX12 (by decide +kernel)) (fz_pre (va_recv hK hP (ci := 12) (q0 := 0) rfl rfl) hP hK hD) rfl rfl hl.1 rfl (lv_room (Nat.le_of_ble_eq_true rfl)) dX12_common_82 (by decide +kernel)) hS (fun q _ h => hFc q h) hFc (fun g82 t9_ H locs ht hvm hw9 hB9 hz1 hk1 hS => ?_)
          have hP : va_P (dC, dI) vwCl (WR a k h0 vi vj (fT (fT (fT (fT vF 0 g) 2 f2) 3 f3) 0 g82) (fT vG 1 gs1)) H := fz_P ht hB9.1
          have hD : va_D A (WR a k h0 vi vj (fT (fT (fT (fT vF 0 g) 2 f2) 3 f3) 0 g82) (fT vG 1 gs1)) := hB9.2.weaken (fun _ q _ h => hFc q.1 h)
          have e9 : fT (fT (fT vF 0 g82) 2 f2) 3 f3 = fT (fT (fT (fT vF 0 g) 2 f2) 3 f3) 0 g82 := ((fT_sw _ _ _ (Nat.ne_of_beq_eq_false rfl)).trans (congrArg (fun g9 => fT g9 3 f3) ((fT_sw _ _ _ (Nat.ne_of_beq_eq_false rfl)).trans (congrArg (fun g9 => fT g9 2 f2) (fT_sm _ _ _ _))))).symm
          rw [← e9] at hP hD
          clear e9
          have hP : va_P (dC, dI) vwCl (WR a k h0 vi vj (fT (fT (fT vF 0 g82) 2 f2) 3 f3) (fT vG 1 gs1)) H := hP
          have hD : va_D A (WR a k h0 vi vj (fT (fT (fT vF 0 g82) 2 f2) 3 f3) (fT vG 1 gs1)) := hD
          have f82_0 := hw9
          try dsimp only at f82_0
          refine W.widen (k := 0) (n := 0) (by decide +kernel) (by decide +kernel) ?_
          exact W.vret hx hb hr (fun t9_ ht hW => ⟨⟨(g82, f2, f3, gs1, (fT m1 sn x5)), rfl, by (try dsimp only); exact ⟨f82_0, by rw [fT_eq, ← hgc]; exact gcd_end (by omega) hp5 (by omega), fun q h1 h2 => by rw [fT_ne _ _ h1]; exact ho q h2⟩, by rw [ht]; exact hP, hD⟩, hS.F ht⟩) hS.2.2 dX12_common_85
        · have t_47 : ¬ (r44).toInt ≤ 0 := toI_nle c_47 rfl (by decide)
          refine lv_aload_n hx hb dX12_common_50 rfl (lv_at hl 0 rfl) ?_
          refine lv_bipush (v := 7) hx hb dX12_common_51 (by decide) ?_
          refine lv_bipush (v := 8) hx hb dX12_common_53 (by decide) ?_
          refine lv_iconst (v := 5) hx hb dX12_common_55 (by decide) ?_
          refine lv_bipush (v := 6) hx hb dX12_common_56 (by decide) ?_
          have hFc := allFree hD hS hA
          refine va_callv (va_runV (As := [.int 7, .int 8, .int 5, .int 6]) (rest := []) ⟨hx, hb, hml, hown, hts⟩ (b_X12_divide l dC dI a k h0 vi vj (fT (fT (fT vF 0 g) 2 f2) 3 f3) (fT vG 1 gs1) 7 8 5 6 m1 hB1 x5 x6 (by rw [v_x5]) (by rw [v_x6]) (by first | with_reducible assumption | decide | omega | rfl | assumption) (by first | with_reducible assumption | decide | omega | rfl | assumption) (by first | with_reducible assumption | decide | omega | rfl | assumption) (by first | with_reducible assumption | decide | omega | rfl | assumption) (by first | with_reducible assumption | decide | omega | rfl | assumption) (by first | with_reducible assumption | decide | omega | rfl | assumption) (by first | with_reducible assumption | decide | omega | rfl | assumption) H.size) (cwV 4 hts gwsRX12_common_3 rfl rfl rfl hd_yX12_divide_RX12 (by decide +kernel)) (fz_pre (va_recv hK hP (ci := 12) (q0 := 0) rfl rfl) hP hK hD) rfl rfl hl.1 rfl (lv_room (Nat.le_of_ble_eq_true rfl)) dX12_common_58 (by decide +kernel)) hS (fun q _ h => hFc q h) hFc (fun u t9_ H locs ht hvm hw9 hB9 hz1 hk1 hS => ?_)
          revert u
          refine fz_p4 ?_
          intro g58 f2w58 f3w58 gs58 hw9 hB9
          try dsimp only at hw9 hB9
          have hP : va_P (dC, dI) vwCl (WR a k h0 vi vj (fT (fT (fT (fT (fT (fT vF 0 g) 2 f2) 3 f3) 2 f2w58) 3 f3w58) 0 g58) (fT (fT vG 1 gs1) 1 gs58)) H := fz_P ht hB9.1
          have hD : va_D A (WR a k h0 vi vj (fT (fT (fT (fT (fT (fT vF 0 g) 2 f2) 3 f3) 2 f2w58) 3 f3w58) 0 g58) (fT (fT vG 1 gs1) 1 gs58)) := hB9.2.weaken (fun _ q _ h => hFc q.1 h)
          have e9 : fT (fT (fT vF 0 g58) 2 f2w58) 3 f3w58 = fT (fT (fT (fT (fT (fT vF 0 g) 2 f2) 3 f3) 2 f2w58) 3 f3w58) 0 g58 := ((congrArg (fun g9 => fT (fT g9 3 f3w58) 0 g58) ((fT_sw _ _ _ (Nat.ne_of_beq_eq_false rfl)).trans (congrArg (fun g9 => fT g9 3 f3) (fT_sm _ _ _ _)))).trans ((congrArg (fun g9 => fT g9 0 g58) (fT_sm _ _ _ _)).trans ((fT_sw _ _ _ (Nat.ne_of_beq_eq_false rfl)).trans (congrArg (fun g9 => fT g9 3 f3w58) ((fT_sw _ _ _ (Nat.ne_of_beq_eq_false rfl)).trans (congrArg (fun g9 => fT g9 2 f2w58) (fT_sm _ _ _ _))))))).symm
          rw [← e9] at hP hD
          clear e9
          have e9 : fT vG 1 gs58 = fT (fT vG 1 gs1) 1 gs58 := (fT_sm _ _ _ _).symm
          rw [← e9] at hP hD
          clear e9
          have hP : va_P (dC, dI) vwCl (WR a k h0 vi vj (fT (fT (fT vF 0 g58) 2 f2w58) 3 f3w58) (fT vG 1 gs58)) H := hP
          have hD : va_D A (WR a k h0 vi vj (fT (fT (fT vF 0 g58) 2 f2w58) 3 f3w58) (fT vG 1 gs58)) := hD
          have f58_0 := hw9
          try dsimp only at f58_0
          refine lv_aload_n hx hb dX12_common_61 rfl (lv_at hl 0 rfl) ?_
          refine lv_iconst (v := 5) hx hb dX12_common_62 (by decide) ?_
          refine lv_bipush (v := 6) hx hb dX12_common_63 (by decide) ?_
          have hFc := allFree hD hS hA
          refine va_callv (va_runV (As := [.int 5, .int 6]) (rest := []) ⟨hx, hb, hml, hown, hts⟩ (b_X12_copy l dC dI a k h0 vi vj (fT (fT (fT vF 0 g58) 2 f2w58) 3 f3w58) (fT vG 1 gs58) 5 6 (fT (fT m1 7 ((x5).tdiv x6)) 8 ((x5).tmod x6)) f58_0 x6 (by rw [fT_ne _ _ (by omega), fT_ne _ _ (by omega), v_x6]) (by first | with_reducible assumption | decide | omega | rfl | assumption) (by first | with_reducible assumption | decide | omega | rfl | assumption) (by first | with_reducible assumption | decide | omega | rfl | assumption) H.size) (cwV 2 hts gwsRX12_common_0 rfl rfl rfl hd_yX12_copy_RX12 (by decide +kernel)) (fz_pre (va_recv hK hP (ci := 12) (q0 := 0) rfl rfl) hP hK hD) rfl rfl hl.1 rfl (lv_room (Nat.le_of_ble_eq_true rfl)) dX12_common_65 (by decide +kernel)) hS (fun q _ h => hFc q h) hFc (fun g65 t9_ H locs ht hvm hw9 hB9 hz1 hk1 hS => ?_)
          have hP : va_P (dC, dI) vwCl (WR a k h0 vi vj (fT (fT (fT (fT vF 0 g58) 2 f2w58) 3 f3w58) 0 g65) (fT vG 1 gs58)) H := fz_P ht hB9.1
          have hD : va_D A (WR a k h0 vi vj (fT (fT (fT (fT vF 0 g58) 2 f2w58) 3 f3w58) 0 g65) (fT vG 1 gs58)) := hB9.2.weaken (fun _ q _ h => hFc q.1 h)
          have e9 : fT (fT (fT vF 0 g65) 2 f2w58) 3 f3w58 = fT (fT (fT (fT vF 0 g58) 2 f2w58) 3 f3w58) 0 g65 := ((fT_sw _ _ _ (Nat.ne_of_beq_eq_false rfl)).trans (congrArg (fun g9 => fT g9 3 f3w58) ((fT_sw _ _ _ (Nat.ne_of_beq_eq_false rfl)).trans (congrArg (fun g9 => fT g9 2 f2w58) (fT_sm _ _ _ _))))).symm
          rw [← e9] at hP hD
          clear e9
          have hP : va_P (dC, dI) vwCl (WR a k h0 vi vj (fT (fT (fT vF 0 g65) 2 f2w58) 3 f3w58) (fT vG 1 gs58)) H := hP
          have hD : va_D A (WR a k h0 vi vj (fT (fT (fT vF 0 g65) 2 f2w58) 3 f3w58) (fT vG 1 gs58)) := hD
          have f65_0 := hw9
          try dsimp only at f65_0
          refine lv_aload_n hx hb dX12_common_68 rfl (lv_at hl 0 rfl) ?_
          refine lv_bipush (v := 6) hx hb dX12_common_69 (by decide) ?_
          refine lv_bipush (v := 8) hx hb dX12_common_71 (by decide) ?_
          have hFc := allFree hD hS hA
          refine va_callv (va_runV (As := [.int 6, .int 8]) (rest := []) ⟨hx, hb, hml, hown, hts⟩ (b_X12_copy l dC dI a k h0 vi vj (fT (fT (fT vF 0 g65) 2 f2w58) 3 f3w58) (fT vG 1 gs58) 6 8 (fT (fT (fT m1 7 ((x5).tdiv x6)) 8 ((x5).tmod x6)) 5 x6) f65_0 ((x5).tmod x6) (by rw [fT_ne _ _ (by omega), fT_eq]) (by first | with_reducible assumption | decide | omega | rfl | assumption) (by first | with_reducible assumption | decide | omega | rfl | assumption) (by first | with_reducible assumption | decide | omega | rfl | assumption) H.size) (cwV 2 hts gwsRX12_common_0 rfl rfl rfl hd_yX12_copy_RX12 (by decide +kernel)) (fz_pre (va_recv hK hP (ci := 12) (q0 := 0) rfl rfl) hP hK hD) rfl rfl hl.1 rfl (lv_room (Nat.le_of_ble_eq_true rfl)) dX12_common_73 (by decide +kernel)) hS (fun q _ h => hFc q h) hFc (fun g73 t9_ H locs ht hvm hw9 hB9 hz1 hk1 hS => ?_)
          have hP : va_P (dC, dI) vwCl (WR a k h0 vi vj (fT (fT (fT (fT vF 0 g65) 2 f2w58) 3 f3w58) 0 g73) (fT vG 1 gs58)) H := fz_P ht hB9.1
          have hD : va_D A (WR a k h0 vi vj (fT (fT (fT (fT vF 0 g65) 2 f2w58) 3 f3w58) 0 g73) (fT vG 1 gs58)) := hB9.2.weaken (fun _ q _ h => hFc q.1 h)
          have e9 : fT (fT (fT vF 0 g73) 2 f2w58) 3 f3w58 = fT (fT (fT (fT vF 0 g65) 2 f2w58) 3 f3w58) 0 g73 := ((fT_sw _ _ _ (Nat.ne_of_beq_eq_false rfl)).trans (congrArg (fun g9 => fT g9 3 f3w58) ((fT_sw _ _ _ (Nat.ne_of_beq_eq_false rfl)).trans (congrArg (fun g9 => fT g9 2 f2w58) (fT_sm _ _ _ _))))).symm
          rw [← e9] at hP hD
          clear e9
          have hP : va_P (dC, dI) vwCl (WR a k h0 vi vj (fT (fT (fT vF 0 g73) 2 f2w58) 3 f3w58) (fT vG 1 gs58)) H := hP
          have hD : va_D A (WR a k h0 vi vj (fT (fT (fT vF 0 g73) 2 f2w58) 3 f3w58) (fT vG 1 gs58)) := hD
          have f73_0 := hw9
          try dsimp only at f73_0
          refine lv_goto (tgt := 41) hx hb dX12_common_76 (by decide) ?_
          have hl : lv_has _ _ ([(0, .ref h0), (1, .int (nI sn))]) := lv_sub hl [0, 1] rfl
          exact ih41 g73 f2w58 f3w58 gs58 (fT (fT (fT (fT m1 7 ((x5).tdiv x6)) 8 ((x5).tmod x6)) 5 x6) 6 ((x5).tmod x6)) x6 ((x5).tmod x6) _ _ _ (f73_0) ((by rw [fT_ne _ _ (by omega), fT_eq])) ((by rw [fT_eq])) ((gcd_step x5 x6).trans hgc) (by omega) (tmod_nn hp5 x6) (fun q hq => by (rw [fT_ne _ _ (by omega), fT_ne _ _ (by omega), fT_ne _ _ (by omega), fT_ne _ _ (by omega)]); exact ho q hq) (by have h9 := tmod_abs (x := x5) (y := x6) (by omega); omega) hP hD hS hl
theorem dX12_shorten_0 : decode cX12_shorten 0 = .ok (.aload_n 0, 1) := dk_42 (by decide +kernel)
theorem dX12_shorten_1 : decode cX12_shorten 1 = .ok (.iload_n 2, 1) := dk_28 (by decide +kernel)
theorem dX12_shorten_2 : decode cX12_shorten 2 = .ok (.invokevirtual 353, 3) := dk_182 (by decide +kernel)
theorem dX12_shorten_5 : decode cX12_shorten 5 = .ok (.ifCond .ge 13, 3) := dk_156 (by decide +kernel)
theorem dX12_shorten_8 : decode cX12_shorten 8 = .ok (.aload_n 0, 1) := dk_42 (by decide +kernel)
theorem dX12_shorten_9 : decode cX12_shorten 9 = .ok (.iload_n 1, 1) := dk_27 (by decide +kernel)
theorem dX12_shorten_10 : decode cX12_shorten 10 = .ok (.invokevirtual 379, 3) := dk_182 (by decide +kernel)
theorem dX12_shorten_13 : decode cX12_shorten 13 = .ok (.aload_n 0, 1) := dk_42 (by decide +kernel)
theorem dX12_shorten_14 : decode cX12_shorten 14 = .ok (.iload_n 2, 1) := dk_28 (by decide +kernel)
theorem dX12_shorten_15 : decode cX12_shorten 15 = .ok (.invokevirtual 379, 3) := dk_182 (by decide +kernel)
theorem dX12_shorten_18 : decode cX12_shorten 18 = .ok (.aload_n 0, 1) := dk_42 (by decide +kernel)
theorem dX12_shorten_19 : decode cX12_shorten 19 = .ok (.bipush 9, 2) := dk_16 (by decide +kernel)
theorem dX12_shorten_21 : decode cX12_shorten 21 = .ok (.iload_n 1, 1) := dk_27 (by decide +kernel)
theorem dX12_shorten_22 : decode cX12_shorten 22 = .ok (.iload_n 2, 1) := dk_28 (by decide +kernel)
theorem dX12_shorten_23 : decode cX12_shorten 23 = .ok (.invokevirtual 387, 3) := dk_182 (by decide +kernel)
theorem dX12_shorten_26 : decode cX12_shorten 26 = .ok (.aload_n 0, 1) := dk_42 (by decide +kernel)
theorem dX12_shorten_27 : decode cX12_shorten 27 = .ok (.bipush 7, 2) := dk_16 (by decide +kernel)
theorem dX12_shorten_29 : decode cX12_shorten 29 = .ok (.bipush 8, 2) := dk_16 (by decide +kernel)
theorem dX12_shorten_31 : decode cX12_shorten 31 = .ok (.iload_n 1, 1) := dk_27 (by decide +kernel)
theorem dX12_shorten_32 : decode cX12_shorten 32 = .ok (.bipush 9, 2) := dk_16 (by decide +kernel)
theorem dX12_shorten_34 : decode cX12_shorten 34 = .ok (.invokevirtual 383, 3) := dk_182 (by decide +kernel)
theorem dX12_shorten_37 : decode cX12_shorten 37 = .ok (.aload_n 0, 1) := dk_42 (by decide +kernel)
theorem dX12_shorten_38 : decode cX12_shorten 38 = .ok (.iload_n 1, 1) := dk_27 (by decide +kernel)
theorem dX12_shorten_39 : decode cX12_shorten 39 = .ok (.bipush 7, 2) := dk_16 (by decide +kernel)
theorem dX12_shorten_41 : decode cX12_shorten 41 = .ok (.invokevirtual 365, 3) := dk_182 (by decide +kernel)
theorem dX12_shorten_44 : decode cX12_shorten 44 = .ok (.aload_n 0, 1) := dk_42 (by decide +kernel)
theorem dX12_shorten_45 : decode cX12_shorten 45 = .ok (.bipush 7, 2) := dk_16 (by decide +kernel)
theorem dX12_shorten_47 : decode cX12_shorten 47 = .ok (.bipush 8, 2) := dk_16 (by decide +kernel)
theorem dX12_shorten_49 : decode cX12_shorten 49 = .ok (.iload_n 2, 1) := dk_28 (by decide +kernel)
theorem dX12_shorten_50 : decode cX12_shorten 50 = .ok (.bipush 9, 2) := dk_16 (by decide +kernel)
theorem dX12_shorten_52 : decode cX12_shorten 52 = .ok (.invokevirtual 383, 3) := dk_182 (by decide +kernel)
theorem dX12_shorten_55 : decode cX12_shorten 55 = .ok (.aload_n 0, 1) := dk_42 (by decide +kernel)
theorem dX12_shorten_56 : decode cX12_shorten 56 = .ok (.iload_n 2, 1) := dk_28 (by decide +kernel)
theorem dX12_shorten_57 : decode cX12_shorten 57 = .ok (.bipush 7, 2) := dk_16 (by decide +kernel)
theorem dX12_shorten_59 : decode cX12_shorten 59 = .ok (.invokevirtual 365, 3) := dk_182 (by decide +kernel)
theorem dX12_shorten_62 : decode cX12_shorten 62 = .ok (.return_, 1) := dk_177 (by decide +kernel)
def wsRX12_shorten : List Cond := .code yX12_shorten cX12_shorten 3 none :: ([] ++ wsX120 ++ (wsV RX12 353 RX12 yX12_sign wsRX12_sign) ++ (wsV RX12 387 RX12 yX12_common wsRX12_common) ++ (wsV RX12 383 RX12 yX12_divide wsRX12_divide) ++ (wsV RX12 365 RX12 yX12_copy wsRX12_copy) ++ (wsV RX12 379 RX12 yX12_turn wsRX12_turn))
theorem iwsRX12_shorten_in12 : ∀ w ∈ wsX120, w ∈ wsRX12_shorten := fun _ h => List.mem_cons_of_mem _ (List.mem_append_left _ (List.mem_append_left _ (List.mem_append_left _ (List.mem_append_left _ (List.mem_append_left _ (List.mem_append_right _ h))))))
theorem gwsRX12_shorten_0 : GoodIn wsRX12_shorten (wsV RX12 353 RX12 yX12_sign wsRX12_sign) := goodIn_sub (fun _ h => List.mem_cons_of_mem _ (List.mem_append_left _ (List.mem_append_left _ (List.mem_append_left _ (List.mem_append_left _ (List.mem_append_right _ h)))))) (gdV (by decide +kernel) gdwsRX12_sign)
theorem gwsRX12_shorten_1 : GoodIn wsRX12_shorten (wsV RX12 387 RX12 yX12_common wsRX12_common) := goodIn_sub (fun _ h => List.mem_cons_of_mem _ (List.mem_append_left _ (List.mem_append_left _ (List.mem_append_left _ (List.mem_append_right _ h))))) (gdV (by decide +kernel) gdwsRX12_common)
theorem gwsRX12_shorten_2 : GoodIn wsRX12_shorten (wsV RX12 383 RX12 yX12_divide wsRX12_divide) := goodIn_sub (fun _ h => List.mem_cons_of_mem _ (List.mem_append_left _ (List.mem_append_left _ (List.mem_append_right _ h)))) (gdV (by decide +kernel) gdwsRX12_divide)
theorem gwsRX12_shorten_3 : GoodIn wsRX12_shorten (wsV RX12 365 RX12 yX12_copy wsRX12_copy) := goodIn_sub (fun _ h => List.mem_cons_of_mem _ (List.mem_append_left _ (List.mem_append_right _ h))) (gdV (by decide +kernel) gdwsRX12_copy)
theorem gwsRX12_shorten_4 : GoodIn wsRX12_shorten (wsV RX12 379 RX12 yX12_turn wsRX12_turn) := goodIn_sub (fun _ h => List.mem_cons_of_mem _ (List.mem_append_right _ h)) (gdV (by decide +kernel) gdwsRX12_turn)
theorem gdwsRX12_shorten : wsRX12_shorten.all goodWord = true := gdC rfl (gdA (gdA (gdA (gdA (gdA (gdA (by decide +kernel : ([] : List Cond).all goodWord = true) gdwsX120) (gdV (by decide +kernel) gdwsRX12_sign)) (gdV (by decide +kernel) gdwsRX12_common)) (gdV (by decide +kernel) gdwsRX12_divide)) (gdV (by decide +kernel) gdwsRX12_copy)) (gdV (by decide +kernel) gdwsRX12_turn))
set_option maxHeartbeats 4000000 in
set_option maxRecDepth 100000 in
/-- shorten(n, d) -/
theorem r_X12_shorten (l : Launch) (dC : Nat → ClassId) (dI : Nat → Nat → Nat) (a : Nat → Nat) (k : Nat → ClassId) (h0 : Nat) (vi : Nat → Int32) (vj : Nat → Int64) (vF : Nat → Nat → Int32) (vG : Nat → Nat → Int64) (an : Nat) (bn : Nat) (mg : Nat → Int) (hBg : Bg (vF 0) mg) (xa : Int) (xb : Int) (v_xa : mg an = xa) (v_xb : mg bn = xb) (hna : an < 1100) (hnb : bn < 1100) (hab : an ≠ bn) (h59a : (an < 5 ∨ 9 < an)) (h59b : (bn < 5 ∨ 9 < bn)) (hb0 : xb ≠ 0) (sz : Nat) : Met l yX12_shorten wsRX12_shorten ({ frames := 3, cells := 0, slots := 0, locals := 85 }) (va_Pc [.ref h0, .int (nI an), .int (nI bn)] (fun U => U.heap.size = sz ∧ va_P (dC, dI) vwCl (WR a k h0 vi vj vF vG) U.heap ∧ va_K (dC, dI) vwCl (tX12 k) U ∧ va_D (fun _ => True) (WR a k h0 vi vj vF vG))) (va_Qv (fun (u : (Nat → Int32) × (Nat → Int32) × (Nat → Int32) × (Nat → Int64) × (Nat → Int)) => (Bg (u.1) (u.2.2.2.2)) ∧ (((u.2.2.2.2) an).natAbs ≤ xa.natAbs) ∧ (((u.2.2.2.2) bn).natAbs ≤ xb.natAbs) ∧ (∀ q, q ≠ an → q ≠ bn → (q < 5 ∨ 9 < q) → (u.2.2.2.2) q = mg q) ∧ (0 < (u.2.2.2.2) bn)) (fun (u : (Nat → Int32) × (Nat → Int32) × (Nat → Int32) × (Nat → Int64) × (Nat → Int)) t => va_P (dC, dI) vwCl (WR a k h0 vi vj (fT (fT (fT vF 0 (u.1)) 2 (u.2.1)) 3 (u.2.2.1)) (fT vG 1 (u.2.2.2.1))) t.heap ∧ va_D (va_A (WR a k h0 vi vj vF vG) sz) (WR a k h0 vi vj (fT (fT (fT vF 0 (u.1)) 2 (u.2.1)) 3 (u.2.2.1)) (fT vG 1 (u.2.2.2.1)))) (va_A (WR a k h0 vi vj vF vG) sz)) 0 0 (va_A (WR a k h0 vi vj vF vG) sz) := by
  refine Met.ofW (cc := cX12_shorten) (maxL := 3) (ret := none) (by decide) rfl ?_
  intro p e s m args below meth c s₁ B hml hv
  obtain ⟨rfl, hsz, hP, hK, hD0⟩ := hv
  have hx := B.exec
  have hb := B.bytes
  have hr := B.returns
  have hts := atoms_spec (ws := wsRX12_shorten) B.pre
  have hown : s.vm.findClass RX12 = some m.cls := findClass_of_methodNamed B.named
  have hlocks := B.notSynchronized
  subst hsz
  have hD := hD0.self (sz := s.heap.size)
  generalize hAe : va_A (WR a k h0 vi vj vF vG) s.heap.size = A at hD ⊢
  have hA : ∀ q : Nat, s.heap.size ≤ q → A q := fun q h => by rw [← hAe]; exact Or.inr h
  have hS : va_S A s.heap s.heap [] := va_S.rf
  have hl := lv_entry ([.ref h0, .int (nI an), .int (nI bn)]) (n := 3) (Nat.le_of_ble_eq_true rfl)
  rw [lg_entry_eq]
  generalize (lg_sl ([.ref h0, .int (nI an), .int (nI bn)]) ++ List.replicate (3 - (lg_sl ([.ref h0, .int (nI an), .int (nI bn)])).length) Slot.unset).toArray = ls at hl ⊢
  have hl : lv_has ls 3 [(0, .ref h0), (1, .int (nI an)), (2, .int (nI bn))] := hl
  refine lv_aload_n hx hb dX12_shorten_0 rfl (lv_at hl 0 rfl) ?_
  refine lv_iload_n hx hb dX12_shorten_1 rfl (lv_at hl 2 rfl) ?_
  have hFc := allFree hD hS hA
  refine va_calli (va_runV (As := [.int (nI bn)]) (rest := []) ⟨hx, hb, hml, hown, hts⟩ (b_X12_sign l dC dI a k h0 vi vj vF vG bn mg hBg xb (by rw [v_xb]) (by first | with_reducible assumption | decide | omega | rfl | assumption) s.heap.size) (cwV 1 hts gwsRX12_shorten_0 rfl rfl rfl hd_yX12_sign_RX12 (by decide +kernel)) (fz_pre (va_recv hK hP (ci := 12) (q0 := 0) rfl rfl) hP hK hD) rfl rfl hl.1 rfl (lv_room (Nat.le_of_ble_eq_true rfl)) dX12_shorten_2 (by decide +kernel)) hS (fun q _ h => hFc q h) hFc (fun r2 u t9_ H locs ht hvm hw9 hB9 hz1 hk1 hS => ?_)
  have hP : va_P (dC, dI) vwCl (WR a k h0 vi vj vF vG) H := fz_P ht hB9.1
  have hD : va_D A (WR a k h0 vi vj vF vG) := hB9.2.weaken (fun _ q _ h => hFc q.1 h)
  have f2_0 := hw9
  try dsimp only at f2_0
  refine lv_if_ge (tgt := 18) hx hb dX12_shorten_5 (by decide) (fun c_5 => ?_) (fun c_5 => ?_)
  · have t_5 : (r2).toInt ≥ 0 := toI_ge c_5 rfl (by decide)
    refine lv_aload_n hx hb dX12_shorten_18 rfl (lv_at hl 0 rfl) ?_
    refine lv_bipush (v := 9) hx hb dX12_shorten_19 (by decide) ?_
    refine lv_iload_n hx hb dX12_shorten_21 rfl (lv_at hl 1 rfl) ?_
    refine lv_iload_n hx hb dX12_shorten_22 rfl (lv_at hl 2 rfl) ?_
    have hFc := allFree hD hS hA
    refine va_callv (va_runV (As := [.int 9, .int (nI an), .int (nI bn)]) (rest := []) ⟨hx, hb, hml, hown, hts⟩ (r_X12_common l dC dI a k h0 vi vj vF vG 9 an bn mg hBg xa xb (by rw [v_xa]) (by rw [v_xb]) (by first | with_reducible assumption | decide | omega | rfl | assumption) (by first | with_reducible assumption | decide | omega | rfl | assumption) (by first | with_reducible assumption | decide | omega | rfl | assumption) (by first | with_reducible assumption | decide | omega | rfl | assumption) (by first | with_reducible assumption | decide | omega | rfl | assumption) (by first | with_reducible assumption | decide | omega | rfl | assumption) H.size) (cwV 3 hts gwsRX12_shorten_1 rfl rfl rfl hd_yX12_common_RX12 (by decide +kernel)) (fz_pre (va_recv hK hP (ci := 12) (q0 := 0) rfl rfl) hP hK hD) rfl rfl hl.1 rfl (lv_room (Nat.le_of_ble_eq_true rfl)) dX12_shorten_23 (by decide +kernel)) hS (fun q _ h => hFc q h) hFc (fun u t9_ H locs ht hvm hw9 hB9 hz1 hk1 hS => ?_)
    revert u
    refine fz_p5 ?_
    intro g23 f2w23 f3w23 gs23 m223 hw9 hB9
    try dsimp only at hw9 hB9
    have hP : va_P (dC, dI) vwCl (WR a k h0 vi vj (fT (fT (fT vF 0 g23) 2 f2w23) 3 f3w23) (fT vG 1 gs23)) H := fz_P ht hB9.1
    have hD : va_D A (WR a k h0 vi vj (fT (fT (fT vF 0 g23) 2 f2w23) 3 f3w23) (fT vG 1 gs23)) := hB9.2.weaken (fun _ q _ h => hFc q.1 h)
    revert hw9
    refine fz_a3 ?_
    intro f23_0 f23_1 f23_2
    refine lv_aload_n hx hb dX12_shorten_26 rfl (lv_at hl 0 rfl) ?_
    refine lv_bipush (v := 7) hx hb dX12_shorten_27 (by decide) ?_
    refine lv_bipush (v := 8) hx hb dX12_shorten_29 (by decide) ?_
    refine lv_iload_n hx hb dX12_shorten_31 rfl (lv_at hl 1 rfl) ?_
    refine lv_bipush (v := 9) hx hb dX12_shorten_32 (by decide) ?_
    have hFc := allFree hD hS hA
    refine va_callv (va_runV (As := [.int 7, .int 8, .int (nI an), .int 9]) (rest := []) ⟨hx, hb, hml, hown, hts⟩ (b_X12_divide l dC dI a k h0 vi vj (fT (fT (fT vF 0 g23) 2 f2w23) 3 f3w23) (fT vG 1 gs23) 7 8 an 9 m223 f23_0 xa ((Int.gcd xa xb : Nat) : Int) (by rw [f23_2 _ (by omega) (by omega), v_xa]) (by rw [f23_1]) (by first | with_reducible assumption | decide | omega | rfl | assumption) (by first | with_reducible assumption | decide | omega | rfl | assumption) (by first | with_reducible assumption | decide | omega | rfl | assumption) (by first | with_reducible assumption | decide | omega | rfl | assumption) (by first | with_reducible assumption | decide | omega | rfl | assumption) (by first | with_reducible assumption | decide | omega | rfl | assumption) (gcd_ne (Or.inr (by omega))) H.size) (cwV 4 hts gwsRX12_shorten_2 rfl rfl rfl hd_yX12_divide_RX12 (by decide +kernel)) (fz_pre (va_recv hK hP (ci := 12) (q0 := 0) rfl rfl) hP hK hD) rfl rfl hl.1 rfl (lv_room (Nat.le_of_ble_eq_true rfl)) dX12_shorten_34 (by decide +kernel)) hS (fun q _ h => hFc q h) hFc (fun u t9_ H locs ht hvm hw9 hB9 hz1 hk1 hS => ?_)
    revert u
    refine fz_p4 ?_
    intro g34 f2w34 f3w34 gs34 hw9 hB9
    try dsimp only at hw9 hB9
    have hP : va_P (dC, dI) vwCl (WR a k h0 vi vj (fT (fT (fT (fT (fT (fT vF 0 g23) 2 f2w23) 3 f3w23) 2 f2w34) 3 f3w34) 0 g34) (fT (fT vG 1 gs23) 1 gs34)) H := fz_P ht hB9.1
    have hD : va_D A (WR a k h0 vi vj (fT (fT (fT (fT (fT (fT vF 0 g23) 2 f2w23) 3 f3w23) 2 f2w34) 3 f3w34) 0 g34) (fT (fT vG 1 gs23) 1 gs34)) := hB9.2.weaken (fun _ q _ h => hFc q.1 h)
    have e9 : fT (fT (fT vF 0 g34) 2 f2w34) 3 f3w34 = fT (fT (fT (fT (fT (fT vF 0 g23) 2 f2w23) 3 f3w23) 2 f2w34) 3 f3w34) 0 g34 := ((congrArg (fun g9 => fT (fT g9 3 f3w34) 0 g34) ((fT_sw _ _ _ (Nat.ne_of_beq_eq_false rfl)).trans (congrArg (fun g9 => fT g9 3 f3w23) (fT_sm _ _ _ _)))).trans ((congrArg (fun g9 => fT g9 0 g34) (fT_sm _ _ _ _)).trans ((fT_sw _ _ _ (Nat.ne_of_beq_eq_false rfl)).trans (congrArg (fun g9 => fT g9 3 f3w34) ((fT_sw _ _ _ (Nat.ne_of_beq_eq_false rfl)).trans (congrArg (fun g9 => fT g9 2 f2w34) (fT_sm _ _ _ _))))))).symm
    rw [← e9] at hP hD
    clear e9
    have e9 : fT vG 1 gs34 = fT (fT vG 1 gs23) 1 gs34 := (fT_sm _ _ _ _).symm
    rw [← e9] at hP hD
    clear e9
    have hP : va_P (dC, dI) vwCl (WR a k h0 vi vj (fT (fT (fT vF 0 g34) 2 f2w34) 3 f3w34) (fT vG 1 gs34)) H := hP
    have hD : va_D A (WR a k h0 vi vj (fT (fT (fT vF 0 g34) 2 f2w34) 3 f3w34) (fT vG 1 gs34)) := hD
    have f34_0 := hw9
    try dsimp only at f34_0
    refine lv_aload_n hx hb dX12_shorten_37 rfl (lv_at hl 0 rfl) ?_
    refine lv_iload_n hx hb dX12_shorten_38 rfl (lv_at hl 1 rfl) ?_
    refine lv_bipush (v := 7) hx hb dX12_shorten_39 (by decide) ?_
    have hFc := allFree hD hS hA
    refine va_callv (va_runV (As := [.int (nI an), .int 7]) (rest := []) ⟨hx, hb, hml, hown, hts⟩ (b_X12_copy l dC dI a k h0 vi vj (fT (fT (fT vF 0 g34) 2 f2w34) 3 f3w34) (fT vG 1 gs34) an 7 (fT (fT m223 7 ((xa).tdiv ((Int.gcd xa xb : Nat) : Int))) 8 ((xa).tmod ((Int.gcd xa xb : Nat) : Int))) f34_0 ((xa).tdiv ((Int.gcd xa xb : Nat) : Int)) (by rw [fT_ne _ _ (by omega), fT_eq]) (by first | with_reducible assumption | decide | omega | rfl | assumption) (by first | with_reducible assumption | decide | omega | rfl | assumption) (by first | with_reducible assumption | decide | omega | rfl | assumption) H.size) (cwV 2 hts gwsRX12_shorten_3 rfl rfl rfl hd_yX12_copy_RX12 (by decide +kernel)) (fz_pre (va_recv hK hP (ci := 12) (q0 := 0) rfl rfl) hP hK hD) rfl rfl hl.1 rfl (lv_room (Nat.le_of_ble_eq_true rfl)) dX12_shorten_41 (by decide +kernel)) hS (fun q _ h => hFc q h) hFc (fun g41 t9_ H locs ht hvm hw9 hB9 hz1 hk1 hS => ?_)
    have hP : va_P (dC, dI) vwCl (WR a k h0 vi vj (fT (fT (fT (fT vF 0 g34) 2 f2w34) 3 f3w34) 0 g41) (fT vG 1 gs34)) H := fz_P ht hB9.1
    have hD : va_D A (WR a k h0 vi vj (fT (fT (fT (fT vF 0 g34) 2 f2w34) 3 f3w34) 0 g41) (fT vG 1 gs34)) := hB9.2.weaken (fun _ q _ h => hFc q.1 h)
    have e9 : fT (fT (fT vF 0 g41) 2 f2w34) 3 f3w34 = fT (fT (fT (fT vF 0 g34) 2 f2w34) 3 f3w34) 0 g41 := ((fT_sw _ _ _ (Nat.ne_of_beq_eq_false rfl)).trans (congrArg (fun g9 => fT g9 3 f3w34) ((fT_sw _ _ _ (Nat.ne_of_beq_eq_false rfl)).trans (congrArg (fun g9 => fT g9 2 f2w34) (fT_sm _ _ _ _))))).symm
    rw [← e9] at hP hD
    clear e9
    have hP : va_P (dC, dI) vwCl (WR a k h0 vi vj (fT (fT (fT vF 0 g41) 2 f2w34) 3 f3w34) (fT vG 1 gs34)) H := hP
    have hD : va_D A (WR a k h0 vi vj (fT (fT (fT vF 0 g41) 2 f2w34) 3 f3w34) (fT vG 1 gs34)) := hD
    have f41_0 := hw9
    try dsimp only at f41_0
    refine lv_aload_n hx hb dX12_shorten_44 rfl (lv_at hl 0 rfl) ?_
    refine lv_bipush (v := 7) hx hb dX12_shorten_45 (by decide) ?_
    refine lv_bipush (v := 8) hx hb dX12_shorten_47 (by decide) ?_
    refine lv_iload_n hx hb dX12_shorten_49 rfl (lv_at hl 2 rfl) ?_
    refine lv_bipush (v := 9) hx hb dX12_shorten_50 (by decide) ?_
    have hFc := allFree hD hS hA
    refine va_callv (va_runV (As := [.int 7, .int 8, .int (nI bn), .int 9]) (rest := []) ⟨hx, hb, hml, hown, hts⟩ (b_X12_divide l dC dI a k h0 vi vj (fT (fT (fT vF 0 g41) 2 f2w34) 3 f3w34) (fT vG 1 gs34) 7 8 bn 9 (fT (fT (fT m223 7 ((xa).tdiv ((Int.gcd xa xb : Nat) : Int))) 8 ((xa).tmod ((Int.gcd xa xb : Nat) : Int))) an ((xa).tdiv ((Int.gcd xa xb : Nat) : Int))) f41_0 xb ((Int.gcd xa xb : Nat) : Int) (by rw [fT_ne _ _ (by omega), fT_ne _ _ (by omega), fT_ne _ _ (by omega), f23_2 _ (by omega) (by omega), v_xb]) (by rw [fT_ne _ _ (by omega), fT_ne _ _ (by omega), fT_ne _ _ (by omega), f23_1]) (by first | with_reducible assumption | decide | omega | rfl | assumption) (by first | with_reducible assumption | decide | omega | rfl | assumption) (by first | with_reducible assumption | decide | omega | rfl | assumption) (by first | with_reducible assumption | decide | omega | rfl | assumption) (by first | with_reducible assumption | decide | omega | rfl | assumption) (by first | with_reducible assumption | decide | omega | rfl | assumption) (gcd_ne (Or.inr (by omega))) H.size) (cwV 4 hts gwsRX12_shorten_2 rfl rfl rfl hd_yX12_divide_RX12 (by decide +kernel)) (fz_pre (va_recv hK hP (ci := 12) (q0 := 0) rfl rfl) hP hK hD) rfl rfl hl.1 rfl (lv_room (Nat.le_of_ble_eq_true rfl)) dX12_shorten_52 (by decide +kernel)) hS (fun q _ h => hFc q h) hFc (fun u t9_ H locs ht hvm hw9 hB9 hz1 hk1 hS => ?_)
    revert u
    refine fz_p4 ?_
    intro g52 f2w52 f3w52 gs52 hw9 hB9
    try dsimp only at hw9 hB9
    have hP : va_P (dC, dI) vwCl (WR a k h0 vi vj (fT (fT (fT (fT (fT (fT vF 0 g41) 2 f2w34) 3 f3w34) 2 f2w52) 3 f3w52) 0 g52) (fT (fT vG 1 gs34) 1 gs52)) H := fz_P ht hB9.1
    have hD : va_D A (WR a k h0 vi vj (fT (fT (fT (fT (fT (fT vF 0 g41) 2 f2w34) 3 f3w34) 2 f2w52) 3 f3w52) 0 g52) (fT (fT vG 1 gs34) 1 gs52)) := hB9.2.weaken (fun _ q _ h => hFc q.1 h)
    have e9 : fT (fT (fT vF 0 g52) 2 f2w52) 3 f3w52 = fT (fT (fT (fT (fT (fT vF 0 g41) 2 f2w34) 3 f3w34) 2 f2w52) 3 f3w52) 0 g52 := ((congrArg (fun g9 => fT (fT g9 3 f3w52) 0 g52) ((fT_sw _ _ _ (Nat.ne_of_beq_eq_false rfl)).trans (congrArg (fun g9 => fT g9 3 f3w34) (fT_sm _ _ _ _)))).trans ((congrArg (fun g9 => fT g9 0 g52) (fT_sm _ _ _ _)).trans ((fT_sw _ _ _ (Nat.ne_of_beq_eq_false rfl)).trans (congrArg (fun g9 => fT g9 3 f3w52) ((fT_sw _ _ _ (Nat.ne_of_beq_eq_false rfl)).trans (congrArg (fun g9 => fT g9 2 f2w52) (fT_sm _ _ _ _))))))).symm
    rw [← e9] at hP hD
    clear e9
    have e9 : fT vG 1 gs52 = fT (fT vG 1 gs34) 1 gs52 := (fT_sm _ _ _ _).symm
    rw [← e9] at hP hD
    clear e9
    have hP : va_P (dC, dI) vwCl (WR a k h0 vi vj (fT (fT (fT vF 0 g52) 2 f2w52) 3 f3w52) (fT vG 1 gs52)) H := hP
    have hD : va_D A (WR a k h0 vi vj (fT (fT (fT vF 0 g52) 2 f2w52) 3 f3w52) (fT vG 1 gs52)) := hD
    have f52_0 := hw9
    try dsimp only at f52_0
    refine lv_aload_n hx hb dX12_shorten_55 rfl (lv_at hl 0 rfl) ?_
    refine lv_iload_n hx hb dX12_shorten_56 rfl (lv_at hl 2 rfl) ?_
    refine lv_bipush (v := 7) hx hb dX12_shorten_57 (by decide) ?_
    have hFc := allFree hD hS hA
    refine va_callv (va_runV (As := [.int (nI bn), .int 7]) (rest := []) ⟨hx, hb, hml, hown, hts⟩ (b_X12_copy l dC dI a k h0 vi vj (fT (fT (fT vF 0 g52) 2 f2w52) 3 f3w52) (fT vG 1 gs52) bn 7 (fT (fT (fT (fT (fT m223 7 ((xa).tdiv ((Int.gcd xa xb : Nat) : Int))) 8 ((xa).tmod ((Int.gcd xa xb : Nat) : Int))) an ((xa).tdiv ((Int.gcd xa xb : Nat) : Int))) 7 ((xb).tdiv ((Int.gcd xa xb : Nat) : Int))) 8 ((xb).tmod ((Int.gcd xa xb : Nat) : Int))) f52_0 ((xb).tdiv ((Int.gcd xa xb : Nat) : Int)) (by rw [fT_ne _ _ (by omega), fT_eq]) (by first | with_reducible assumption | decide | omega | rfl | assumption) (by first | with_reducible assumption | decide | omega | rfl | assumption) (by first | with_reducible assumption | decide | omega | rfl | assumption) H.size) (cwV 2 hts gwsRX12_shorten_3 rfl rfl rfl hd_yX12_copy_RX12 (by decide +kernel)) (fz_pre (va_recv hK hP (ci := 12) (q0 := 0) rfl rfl) hP hK hD) rfl rfl hl.1 rfl (lv_room (Nat.le_of_ble_eq_true rfl)) dX12_shorten_59 (by decide +kernel)) hS (fun q _ h => hFc q h) hFc (fun g59 t9_ H locs ht hvm hw9 hB9 hz1 hk1 hS => ?_)
    have hP : va_P (dC, dI) vwCl (WR a k h0 vi vj (fT (fT (fT (fT vF 0 g52) 2 f2w52) 3 f3w52) 0 g59) (fT vG 1 gs52)) H := fz_P ht hB9.1
    have hD : va_D A (WR a k h0 vi vj (fT (fT (fT (fT vF 0 g52) 2 f2w52) 3 f3w52) 0 g59) (fT vG 1 gs52)) := hB9.2.weaken (fun _ q _ h => hFc q.1 h)
    have e9 : fT (fT (fT vF 0 g59) 2 f2w52) 3 f3w52 = fT (fT (fT (fT vF 0 g52) 2 f2w52) 3 f3w52) 0 g59 := ((fT_sw _ _ _ (Nat.ne_of_beq_eq_false rfl)).trans (congrArg (fun g9 => fT g9 3 f3w52) ((fT_sw _ _ _ (Nat.ne_of_beq_eq_false rfl)).trans (congrArg (fun g9 => fT g9 2 f2w52) (fT_sm _ _ _ _))))).symm
    rw [← e9] at hP hD
    clear e9
    have hP : va_P (dC, dI) vwCl (WR a k h0 vi vj (fT (fT (fT vF 0 g59) 2 f2w52) 3 f3w52) (fT vG 1 gs52)) H := hP
    have hD : va_D A (WR a k h0 vi vj (fT (fT (fT vF 0 g59) 2 f2w52) 3 f3w52) (fT vG 1 gs52)) := hD
    have f59_0 := hw9
    try dsimp only at f59_0
    refine W.widen (k := 0) (n := 0) (by decide +kernel) (by decide +kernel) ?_
    exact W.vret hx hb hr (fun t9_ ht hW => ⟨⟨(g59, f2w52, f3w52, gs52, (fT (fT (fT (fT (fT (fT m223 7 ((xa).tdiv ((Int.gcd xa xb : Nat) : Int))) 8 ((xa).tmod ((Int.gcd xa xb : Nat) : Int))) an ((xa).tdiv ((Int.gcd xa xb : Nat) : Int))) 7 ((xb).tdiv ((Int.gcd xa xb : Nat) : Int))) 8 ((xb).tmod ((Int.gcd xa xb : Nat) : Int))) bn ((xb).tdiv ((Int.gcd xa xb : Nat) : Int)))), rfl, by (try dsimp only); exact ⟨f59_0, by (have e9 : (fT (fT (fT (fT (fT (fT m223 7 ((xa).tdiv ((Int.gcd xa xb : Nat) : Int))) 8 ((xa).tmod ((Int.gcd xa xb : Nat) : Int))) an ((xa).tdiv ((Int.gcd xa xb : Nat) : Int))) 7 ((xb).tdiv ((Int.gcd xa xb : Nat) : Int))) 8 ((xb).tmod ((Int.gcd xa xb : Nat) : Int))) bn ((xb).tdiv ((Int.gcd xa xb : Nat) : Int))) an = ((xa).tdiv ((Int.gcd xa xb : Nat) : Int)) := (by rw [fT_ne _ _ (by omega), fT_ne _ _ (by omega), fT_ne _ _ (by omega), fT_eq])); rw [e9]; first | exact sh_le _ _ | exact Nat.le_trans (sh_le _ _) (by rw [Int.natAbs_neg]; exact Nat.le_refl _), by (have e9 : (fT (fT (fT (fT (fT (fT m223 7 ((xa).tdiv ((Int.gcd xa xb : Nat) : Int))) 8 ((xa).tmod ((Int.gcd xa xb : Nat) : Int))) an ((xa).tdiv ((Int.gcd xa xb : Nat) : Int))) 7 ((xb).tdiv ((Int.gcd xa xb : Nat) : Int))) 8 ((xb).tmod ((Int.gcd xa xb : Nat) : Int))) bn ((xb).tdiv ((Int.gcd xa xb : Nat) : Int))) bn = ((xb).tdiv ((Int.gcd xa xb : Nat) : Int)) := (by rw [fT_eq])); rw [e9]; first | exact sh_le _ _ | exact Nat.le_trans (sh_le _ _) (by rw [Int.natAbs_neg]; exact Nat.le_refl _), fun q h1 h2 h3 => by (rw [fT_ne _ _ (by omega), fT_ne _ _ (by omega), fT_ne _ _ (by omega), fT_ne _ _ (by omega), fT_ne _ _ (by omega), fT_ne _ _ (by omega), f23_2 _ (by omega) (by omega)]), by (have e9 : (fT (fT (fT (fT (fT (fT m223 7 ((xa).tdiv ((Int.gcd xa xb : Nat) : Int))) 8 ((xa).tmod ((Int.gcd xa xb : Nat) : Int))) an ((xa).tdiv ((Int.gcd xa xb : Nat) : Int))) 7 ((xb).tdiv ((Int.gcd xa xb : Nat) : Int))) 8 ((xb).tmod ((Int.gcd xa xb : Nat) : Int))) bn ((xb).tdiv ((Int.gcd xa xb : Nat) : Int))) bn = ((xb).tdiv ((Int.gcd xa xb : Nat) : Int)) := (by rw [fT_eq])); rw [e9]; exact tdiv_pos (by omega) (gcd_pos (by omega)) (gcd_le (by omega))⟩, by rw [ht]; exact hP, hD⟩, hS.F ht⟩) hS.2.2 dX12_shorten_62
  · have t_5 : ¬ (r2).toInt ≥ 0 := toI_nge c_5 rfl (by decide)
    refine lv_aload_n hx hb dX12_shorten_8 rfl (lv_at hl 0 rfl) ?_
    refine lv_iload_n hx hb dX12_shorten_9 rfl (lv_at hl 1 rfl) ?_
    have hFc := allFree hD hS hA
    refine va_callv (va_runV (As := [.int (nI an)]) (rest := []) ⟨hx, hb, hml, hown, hts⟩ (b_X12_turn l dC dI a k h0 vi vj vF vG an mg hBg xa (by rw [v_xa]) (by first | with_reducible assumption | decide | omega | rfl | assumption) H.size) (cwV 1 hts gwsRX12_shorten_4 rfl rfl rfl hd_yX12_turn_RX12 (by decide +kernel)) (fz_pre (va_recv hK hP (ci := 12) (q0 := 0) rfl rfl) hP hK hD) rfl rfl hl.1 rfl (lv_room (Nat.le_of_ble_eq_true rfl)) dX12_shorten_10 (by decide +kernel)) hS (fun q _ h => hFc q h) hFc (fun u t9_ H locs ht hvm hw9 hB9 hz1 hk1 hS => ?_)
    have hP : va_P (dC, dI) vwCl (WR a k h0 vi vj (fT vF 0 (upd (vF 0) (nI (24 * an)).toNatClampNeg (-((vF 0) (24 * an))))) vG) H := fz_P ht hB9.1
    have hD : va_D A (WR a k h0 vi vj (fT vF 0 (upd (vF 0) (nI (24 * an)).toNatClampNeg (-((vF 0) (24 * an))))) vG) := hB9.2.weaken (fun _ q _ h => hFc q.1 h)
    have f10_0 := hw9
    try dsimp only at f10_0
    have f10_0 : Bg (upd (vF 0) (nI (24 * an)).toNatClampNeg (-((vF 0) (24 * an)))) (fT mg an (-xa)) := f10_0
    refine lv_aload_n hx hb dX12_shorten_13 rfl (lv_at hl 0 rfl) ?_
    refine lv_iload_n hx hb dX12_shorten_14 rfl (lv_at hl 2 rfl) ?_
    have hFc := allFree hD hS hA
    refine va_callv (va_runV (As := [.int (nI bn)]) (rest := []) ⟨hx, hb, hml, hown, hts⟩ (b_X12_turn l dC dI a k h0 vi vj (fT vF 0 (upd (vF 0) (nI (24 * an)).toNatClampNeg (-((vF 0) (24 * an))))) vG bn (fT mg an (-xa)) f10_0 xb (by rw [fT_ne _ _ (by omega), v_xb]) (by first | with_reducible assumption | decide | omega | rfl | assumption) H.size) (cwV 1 hts gwsRX12_shorten_4 rfl rfl rfl hd_yX12_turn_RX12 (by decide +kernel)) (fz_pre (va_recv hK hP (ci := 12) (q0 := 0) rfl rfl) hP hK hD) rfl rfl hl.1 rfl (lv_room (Nat.le_of_ble_eq_true rfl)) dX12_shorten_15 (by decide +kernel)) hS (fun q _ h => hFc q h) hFc (fun u t9_ H locs ht hvm hw9 hB9 hz1 hk1 hS => ?_)
    have hP : va_P (dC, dI) vwCl (WR a k h0 vi vj (fT (fT vF 0 (upd (vF 0) (nI (24 * an)).toNatClampNeg (-((vF 0) (24 * an))))) 0 (upd (upd (vF 0) (nI (24 * an)).toNatClampNeg (-((vF 0) (24 * an)))) (nI (24 * bn)).toNatClampNeg (-((upd (vF 0) (nI (24 * an)).toNatClampNeg (-((vF 0) (24 * an)))) (24 * bn))))) vG) H := fz_P ht hB9.1
    have hD : va_D A (WR a k h0 vi vj (fT (fT vF 0 (upd (vF 0) (nI (24 * an)).toNatClampNeg (-((vF 0) (24 * an))))) 0 (upd (upd (vF 0) (nI (24 * an)).toNatClampNeg (-((vF 0) (24 * an)))) (nI (24 * bn)).toNatClampNeg (-((upd (vF 0) (nI (24 * an)).toNatClampNeg (-((vF 0) (24 * an)))) (24 * bn))))) vG) := hB9.2.weaken (fun _ q _ h => hFc q.1 h)
    have e9 : fT vF 0 (upd (upd (vF 0) (nI (24 * an)).toNatClampNeg (-((vF 0) (24 * an)))) (nI (24 * bn)).toNatClampNeg (-((upd (vF 0) (nI (24 * an)).toNatClampNeg (-((vF 0) (24 * an)))) (24 * bn)))) = fT (fT vF 0 (upd (vF 0) (nI (24 * an)).toNatClampNeg (-((vF 0) (24 * an))))) 0 (upd (upd (vF 0) (nI (24 * an)).toNatClampNeg (-((vF 0) (24 * an)))) (nI (24 * bn)).toNatClampNeg (-((upd (vF 0) (nI (24 * an)).toNatClampNeg (-((vF 0) (24 * an)))) (24 * bn)))) := (fT_sm _ _ _ _).symm
    rw [← e9] at hP hD
    clear e9
    have hP : va_P (dC, dI) vwCl (WR a k h0 vi vj (fT vF 0 (upd (upd (vF 0) (nI (24 * an)).toNatClampNeg (-((vF 0) (24 * an)))) (nI (24 * bn)).toNatClampNeg (-((upd (vF 0) (nI (24 * an)).toNatClampNeg (-((vF 0) (24 * an)))) (24 * bn))))) vG) H := hP
    have hD : va_D A (WR a k h0 vi vj (fT vF 0 (upd (upd (vF 0) (nI (24 * an)).toNatClampNeg (-((vF 0) (24 * an)))) (nI (24 * bn)).toNatClampNeg (-((upd (vF 0) (nI (24 * an)).toNatClampNeg (-((vF 0) (24 * an)))) (24 * bn))))) vG) := hD
    have f15_0 := hw9
    try dsimp only at f15_0
    have f15_0 : Bg (upd (upd (vF 0) (nI (24 * an)).toNatClampNeg (-((vF 0) (24 * an)))) (nI (24 * bn)).toNatClampNeg (-((upd (vF 0) (nI (24 * an)).toNatClampNeg (-((vF 0) (24 * an)))) (24 * bn)))) (fT (fT mg an (-xa)) bn (-xb)) := f15_0
    refine lv_aload_n hx hb dX12_shorten_18 rfl (lv_at hl 0 rfl) ?_
    refine lv_bipush (v := 9) hx hb dX12_shorten_19 (by decide) ?_
    refine lv_iload_n hx hb dX12_shorten_21 rfl (lv_at hl 1 rfl) ?_
    refine lv_iload_n hx hb dX12_shorten_22 rfl (lv_at hl 2 rfl) ?_
    have hFc := allFree hD hS hA
    refine va_callv (va_runV (As := [.int 9, .int (nI an), .int (nI bn)]) (rest := []) ⟨hx, hb, hml, hown, hts⟩ (r_X12_common l dC dI a k h0 vi vj (fT vF 0 (upd (upd (vF 0) (nI (24 * an)).toNatClampNeg (-((vF 0) (24 * an)))) (nI (24 * bn)).toNatClampNeg (-((upd (vF 0) (nI (24 * an)).toNatClampNeg (-((vF 0) (24 * an)))) (24 * bn))))) vG 9 an bn (fT (fT mg an (-xa)) bn (-xb)) f15_0 (-xa) (-xb) (by rw [fT_ne _ _ (by omega), fT_eq]) (by rw [fT_eq]) (by first | with_reducible assumption | decide | omega | rfl | assumption) (by first | with_reducible assumption | decide | omega | rfl | assumption) (by first | with_reducible assumption | decide | omega | rfl | assumption) (by first | with_reducible assumption | decide | omega | rfl | assumption) (by first | with_reducible assumption | decide | omega | rfl | assumption) (by first | with_reducible assumption | decide | omega | rfl | assumption) H.size) (cwV 3 hts gwsRX12_shorten_1 rfl rfl rfl hd_yX12_common_RX12 (by decide +kernel)) (fz_pre (va_recv hK hP (ci := 12) (q0 := 0) rfl rfl) hP hK hD) rfl rfl hl.1 rfl (lv_room (Nat.le_of_ble_eq_true rfl)) dX12_shorten_23 (by decide +kernel)) hS (fun q _ h => hFc q h) hFc (fun u t9_ H locs ht hvm hw9 hB9 hz1 hk1 hS => ?_)
    revert u
    refine fz_p5 ?_
    intro g23_1 f2w23_1 f3w23_1 gs23_1 m223_1 hw9 hB9
    try dsimp only at hw9 hB9
    have hP : va_P (dC, dI) vwCl (WR a k h0 vi vj (fT (fT (fT (fT vF 0 (upd (upd (vF 0) (nI (24 * an)).toNatClampNeg (-((vF 0) (24 * an)))) (nI (24 * bn)).toNatClampNeg (-((upd (vF 0) (nI (24 * an)).toNatClampNeg (-((vF 0) (24 * an)))) (24 * bn))))) 0 g23_1) 2 f2w23_1) 3 f3w23_1) (fT vG 1 gs23_1)) H := fz_P ht hB9.1
    have hD : va_D A (WR a k h0 vi vj (fT (fT (fT (fT vF 0 (upd (upd (vF 0) (nI (24 * an)).toNatClampNeg (-((vF 0) (24 * an)))) (nI (24 * bn)).toNatClampNeg (-((upd (vF 0) (nI (24 * an)).toNatClampNeg (-((vF 0) (24 * an)))) (24 * bn))))) 0 g23_1) 2 f2w23_1) 3 f3w23_1) (fT vG 1 gs23_1)) := hB9.2.weaken (fun _ q _ h => hFc q.1 h)
    have e9 : fT (fT (fT vF 0 g23_1) 2 f2w23_1) 3 f3w23_1 = fT (fT (fT (fT vF 0 (upd (upd (vF 0) (nI (24 * an)).toNatClampNeg (-((vF 0) (24 * an)))) (nI (24 * bn)).toNatClampNeg (-((upd (vF 0) (nI (24 * an)).toNatClampNeg (-((vF 0) (24 * an)))) (24 * bn))))) 0 g23_1) 2 f2w23_1) 3 f3w23_1 := (congrArg (fun g9 => fT (fT g9 2 f2w23_1) 3 f3w23_1) (fT_sm _ _ _ _)).symm
    rw [← e9] at hP hD
    clear e9
    have hP : va_P (dC, dI) vwCl (WR a k h0 vi vj (fT (fT (fT vF 0 g23_1) 2 f2w23_1) 3 f3w23_1) (fT vG 1 gs23_1)) H := hP
    have hD : va_D A (WR a k h0 vi vj (fT (fT (fT vF 0 g23_1) 2 f2w23_1) 3 f3w23_1) (fT vG 1 gs23_1)) := hD
    revert hw9
    refine fz_a3 ?_
    intro f23_1_0 f23_1_1 f23_1_2
    refine lv_aload_n hx hb dX12_shorten_26 rfl (lv_at hl 0 rfl) ?_
    refine lv_bipush (v := 7) hx hb dX12_shorten_27 (by decide) ?_
    refine lv_bipush (v := 8) hx hb dX12_shorten_29 (by decide) ?_
    refine lv_iload_n hx hb dX12_shorten_31 rfl (lv_at hl 1 rfl) ?_
    refine lv_bipush (v := 9) hx hb dX12_shorten_32 (by decide) ?_
    have hFc := allFree hD hS hA
    refine va_callv (va_runV (As := [.int 7, .int 8, .int (nI an), .int 9]) (rest := []) ⟨hx, hb, hml, hown, hts⟩ (b_X12_divide l dC dI a k h0 vi vj (fT (fT (fT vF 0 g23_1) 2 f2w23_1) 3 f3w23_1) (fT vG 1 gs23_1) 7 8 an 9 m223_1 f23_1_0 (-xa) ((Int.gcd (-xa) (-xb) : Nat) : Int) (by rw [f23_1_2 _ (by omega) (by omega), fT_ne _ _ (by omega), fT_eq]) (by rw [f23_1_1]) (by first | with_reducible assumption | decide | omega | rfl | assumption) (by first | with_reducible assumption | decide | omega | rfl | assumption) (by first | with_reducible assumption | decide | omega | rfl | assumption) (by first | with_reducible assumption | decide | omega | rfl | assumption) (by first | with_reducible assumption | decide | omega | rfl | assumption) (by first | with_reducible assumption | decide | omega | rfl | assumption) (gcd_ne (Or.inr (by omega))) H.size) (cwV 4 hts gwsRX12_shorten_2 rfl rfl rfl hd_yX12_divide_RX12 (by decide +kernel)) (fz_pre (va_recv hK hP (ci := 12) (q0 := 0) rfl rfl) hP hK hD) rfl rfl hl.1 rfl (lv_room (Nat.le_of_ble_eq_true rfl)) dX12_shorten_34 (by decide +kernel)) hS (fun q _ h => hFc q h) hFc (fun u t9_ H locs ht hvm hw9 hB9 hz1 hk1 hS => ?_)
    revert u
    refine fz_p4 ?_
    intro g34_1 f2w34_1 f3w34_1 gs34_1 hw9 hB9
    try dsimp only at hw9 hB9
    have hP : va_P (dC, dI) vwCl (WR a k h0 vi vj (fT (fT (fT (fT (fT (fT vF 0 g23_1) 2 f2w23_1) 3 f3w23_1) 2 f2w34_1) 3 f3w34_1) 0 g34_1) (fT (fT vG 1 gs23_1) 1 gs34_1)) H := fz_P ht hB9.1
    have hD : va_D A (WR a k h0 vi vj (fT (fT (fT (fT (fT (fT vF 0 g23_1) 2 f2w23_1) 3 f3w23_1) 2 f2w34_1) 3 f3w34_1) 0 g34_1) (fT (fT vG 1 gs23_1) 1 gs34_1)) := hB9.2.weaken (fun _ q _ h => hFc q.1 h)
    have e9 : fT (fT (fT vF 0 g34_1) 2 f2w34_1) 3 f3w34_1 = fT (fT (fT (fT (fT (fT vF 0 g23_1) 2 f2w23_1) 3 f3w23_1) 2 f2w34_1) 3 f3w34_1) 0 g34_1 := ((congrArg (fun g9 => fT (fT g9 3 f3w34_1) 0 g34_1) ((fT_sw _ _ _ (Nat.ne_of_beq_eq_false rfl)).trans (congrArg (fun g9 => fT g9 3 f3w23_1) (fT_sm _ _ _ _)))).trans ((congrArg (fun g9 => fT g9 0 g34_1) (fT_sm _ _ _ _)).trans ((fT_sw _ _ _ (Nat.ne_of_beq_eq_false rfl)).trans (congrArg (fun g9 => fT g9 3 f3w34_1) ((fT_sw _ _ _ (Nat.ne_of_beq_eq_false rfl)).trans (congrArg (fun g9 => fT g9 2 f2w34_1) (fT_sm _ _ _ _))))))).symm
    rw [← e9] at hP hD
    clear e9
    have e9 : fT vG 1 gs34_1 = fT (fT vG 1 gs23_1) 1 gs34_1 := (fT_sm _ _ _ _).symm
    rw [← e9] at hP hD
    clear e9
    have hP : va_P (dC, dI) vwCl (WR a k h0 vi vj (fT (fT (fT vF 0 g34_1) 2 f2w34_1) 3 f3w34_1) (fT vG 1 gs34_1)) H := hP
    have hD : va_D A (WR a k h0 vi vj (fT (fT (fT vF 0 g34_1) 2 f2w34_1) 3 f3w34_1) (fT vG 1 gs34_1)) := hD
    have f34_1_0 := hw9
    try dsimp only at f34_1_0
    refine lv_aload_n hx hb dX12_shorten_37 rfl (lv_at hl 0 rfl) ?_
    refine lv_iload_n hx hb dX12_shorten_38 rfl (lv_at hl 1 rfl) ?_
    refine lv_bipush (v := 7) hx hb dX12_shorten_39 (by decide) ?_
    have hFc := allFree hD hS hA
    refine va_callv (va_runV (As := [.int (nI an), .int 7]) (rest := []) ⟨hx, hb, hml, hown, hts⟩ (b_X12_copy l dC dI a k h0 vi vj (fT (fT (fT vF 0 g34_1) 2 f2w34_1) 3 f3w34_1) (fT vG 1 gs34_1) an 7 (fT (fT m223_1 7 (((-xa)).tdiv ((Int.gcd (-xa) (-xb) : Nat) : Int))) 8 (((-xa)).tmod ((Int.gcd (-xa) (-xb) : Nat) : Int))) f34_1_0 (((-xa)).tdiv ((Int.gcd (-xa) (-xb) : Nat) : Int)) (by rw [fT_ne _ _ (by omega), fT_eq]) (by first | with_reducible assumption | decide | omega | rfl | assumption) (by first | with_reducible assumption | decide | omega | rfl | assumption) (by first | with_reducible assumption | decide | omega | rfl | assumption) H.size) (cwV 2 hts gwsRX12_shorten_3 rfl rfl rfl hd_yX12_copy_RX12 (by decide +kernel)) (fz_pre (va_recv hK hP (ci := 12) (q0 := 0) rfl rfl) hP hK hD) rfl rfl hl.1 rfl (lv_room (Nat.le_of_ble_eq_true rfl)) dX12_shorten_41 (by decide +kernel)) hS (fun q _ h => hFc q h) hFc (fun g41_1 t9_ H locs ht hvm hw9 hB9 hz1 hk1 hS => ?_)
    have hP : va_P (dC, dI) vwCl (WR a k h0 vi vj (fT (fT (fT (fT vF 0 g34_1) 2 f2w34_1) 3 f3w34_1) 0 g41_1) (fT vG 1 gs34_1)) H := fz_P ht hB9.1
    have hD : va_D A (WR a k h0 vi vj (fT (fT (fT (fT vF 0 g34_1) 2 f2w34_1) 3 f3w34_1) 0 g41_1) (fT vG 1 gs34_1)) := hB9.2.weaken (fun _ q _ h => hFc q.1 h)
    have e9 : fT (fT (fT vF 0 g41_1) 2 f2w34_1) 3 f3w34_1 = fT (fT (fT (fT vF 0 g34_1) 2 f2w34_1) 3 f3w34_1) 0 g41_1 := ((fT_sw _ _ _ (Nat.ne_of_beq_eq_false rfl)).trans (congrArg (fun g9 => fT g9 3 f3w34_1) ((fT_sw _ _ _ (Nat.ne_of_beq_eq_false rfl)).trans (congrArg (fun g9 => fT g9 2 f2w34_1) (fT_sm _ _ _ _))))).symm
    rw [← e9] at hP hD
    clear e9
    have hP : va_P (dC, dI) vwCl (WR a k h0 vi vj (fT (fT (fT vF 0 g41_1) 2 f2w34_1) 3 f3w34_1) (fT vG 1 gs34_1)) H := hP
    have hD : va_D A (WR a k h0 vi vj (fT (fT (fT vF 0 g41_1) 2 f2w34_1) 3 f3w34_1) (fT vG 1 gs34_1)) := hD
    have f41_1_0 := hw9
    try dsimp only at f41_1_0
    refine lv_aload_n hx hb dX12_shorten_44 rfl (lv_at hl 0 rfl) ?_
    refine lv_bipush (v := 7) hx hb dX12_shorten_45 (by decide) ?_
    refine lv_bipush (v := 8) hx hb dX12_shorten_47 (by decide) ?_
    refine lv_iload_n hx hb dX12_shorten_49 rfl (lv_at hl 2 rfl) ?_
    refine lv_bipush (v := 9) hx hb dX12_shorten_50 (by decide) ?_
    have hFc := allFree hD hS hA
    refine va_callv (va_runV (As := [.int 7, .int 8, .int (nI bn), .int 9]) (rest := []) ⟨hx, hb, hml, hown, hts⟩ (b_X12_divide l dC dI a k h0 vi vj (fT (fT (fT vF 0 g41_1) 2 f2w34_1) 3 f3w34_1) (fT vG 1 gs34_1) 7 8 bn 9 (fT (fT (fT m223_1 7 (((-xa)).tdiv ((Int.gcd (-xa) (-xb) : Nat) : Int))) 8 (((-xa)).tmod ((Int.gcd (-xa) (-xb) : Nat) : Int))) an (((-xa)).tdiv ((Int.gcd (-xa) (-xb) : Nat) : Int))) f41_1_0 (-xb) ((Int.gcd (-xa) (-xb) : Nat) : Int) (by rw [fT_ne _ _ (by omega), fT_ne _ _ (by omega), fT_ne _ _ (by omega), f23_1_2 _ (by omega) (by omega), fT_eq]) (by rw [fT_ne _ _ (by omega), fT_ne _ _ (by omega), fT_ne _ _ (by omega), f23_1_1]) (by first | with_reducible assumption | decide | omega | rfl | assumption) (by first | with_reducible assumption | decide | omega | rfl | assumption) (by first | with_reducible assumption | decide | omega | rfl | assumption) (by first | with_reducible assumption | decide | omega | rfl | assumption) (by first | with_reducible assumption | decide | omega | rfl | assumption) (by first | with_reducible assumption | decide | omega | rfl | assumption) (gcd_ne (Or.inr (by omega))) H.size) (cwV 4 hts gwsRX12_shorten_2 rfl rfl rfl hd_yX12_divide_RX12 (by decide +kernel)) (fz_pre (va_recv hK hP (ci := 12) (q0 := 0) rfl rfl) hP hK hD) rfl rfl hl.1 rfl (lv_room (Nat.le_of_ble_eq_true rfl)) dX12_shorten_52 (by decide +kernel)) hS (fun q _ h => hFc q h) hFc (fun u t9_ H locs ht hvm hw9 hB9 hz1 hk1 hS => ?_)
    revert u
    refine fz_p4 ?_
    intro g52_1 f2w52_1 f3w52_1 gs52_1 hw9 hB9
    try dsimp only at hw9 hB9
    have hP : va_P (dC, dI) vwCl (WR a k h0 vi vj (fT (fT (fT (fT (fT (fT vF 0 g41_1) 2 f2w34_1) 3 f3w34_1) 2 f2w52_1) 3 f3w52_1) 0 g52_1) (fT (fT vG 1 gs34_1) 1 gs52_1)) H := fz_P ht hB9.1
    have hD : va_D A (WR a k h0 vi vj (fT (fT (fT (fT (fT (fT vF 0 g41_1) 2 f2w34_1) 3 f3w34_1) 2 f2w52_1) 3 f3w52_1) 0 g52_1) (fT (fT vG 1 gs34_1) 1 gs52_1)) := hB9.2.weaken (fun _ q _ h => hFc q.1 h)
    have e9 : fT (fT (fT vF 0 g52_1) 2 f2w52_1) 3 f3w52_1 = fT (fT (fT (fT (fT (fT vF 0 g41_1) 2 f2w34_1) 3 f3w34_1) 2 f2w52_1) 3 f3w52_1) 0 g52_1 := ((congrArg (fun g9 => fT (fT g9 3 f3w52_1) 0 g52_1) ((fT_sw _ _ _ (Nat.ne_of_beq_eq_false rfl)).trans (congrArg (fun g9 => fT g9 3 f3w34_1) (fT_sm _ _ _ _)))).trans ((congrArg (fun g9 => fT g9 0 g52_1) (fT_sm _ _ _ _)).trans ((fT_sw _ _ _ (Nat.ne_of_beq_eq_false rfl)).trans (congrArg (fun g9 => fT g9 3 f3w52_1) ((fT_sw _ _ _ (Nat.ne_of_beq_eq_false rfl)).trans (congrArg (fun g9 => fT g9 2 f2w52_1) (fT_sm _ _ _ _))))))).symm
    rw [← e9] at hP hD
    clear e9
    have e9 : fT vG 1 gs52_1 = fT (fT vG 1 gs34_1) 1 gs52_1 := (fT_sm _ _ _ _).symm
    rw [← e9] at hP hD
    clear e9
    have hP : va_P (dC, dI) vwCl (WR a k h0 vi vj (fT (fT (fT vF 0 g52_1) 2 f2w52_1) 3 f3w52_1) (fT vG 1 gs52_1)) H := hP
    have hD : va_D A (WR a k h0 vi vj (fT (fT (fT vF 0 g52_1) 2 f2w52_1) 3 f3w52_1) (fT vG 1 gs52_1)) := hD
    have f52_1_0 := hw9
    try dsimp only at f52_1_0
    refine lv_aload_n hx hb dX12_shorten_55 rfl (lv_at hl 0 rfl) ?_
    refine lv_iload_n hx hb dX12_shorten_56 rfl (lv_at hl 2 rfl) ?_
    refine lv_bipush (v := 7) hx hb dX12_shorten_57 (by decide) ?_
    have hFc := allFree hD hS hA
    refine va_callv (va_runV (As := [.int (nI bn), .int 7]) (rest := []) ⟨hx, hb, hml, hown, hts⟩ (b_X12_copy l dC dI a k h0 vi vj (fT (fT (fT vF 0 g52_1) 2 f2w52_1) 3 f3w52_1) (fT vG 1 gs52_1) bn 7 (fT (fT (fT (fT (fT m223_1 7 (((-xa)).tdiv ((Int.gcd (-xa) (-xb) : Nat) : Int))) 8 (((-xa)).tmod ((Int.gcd (-xa) (-xb) : Nat) : Int))) an (((-xa)).tdiv ((Int.gcd (-xa) (-xb) : Nat) : Int))) 7 (((-xb)).tdiv ((Int.gcd (-xa) (-xb) : Nat) : Int))) 8 (((-xb)).tmod ((Int.gcd (-xa) (-xb) : Nat) : Int))) f52_1_0 (((-xb)).tdiv ((Int.gcd (-xa) (-xb) : Nat) : Int)) (by rw [fT_ne _ _ (by omega), fT_eq]) (by first | with_reducible assumption | decide | omega | rfl | assumption) (by first | with_reducible assumption | decide | omega | rfl | assumption) (by first | with_reducible assumption | decide | omega | rfl | assumption) H.size) (cwV 2 hts gwsRX12_shorten_3 rfl rfl rfl hd_yX12_copy_RX12 (by decide +kernel)) (fz_pre (va_recv hK hP (ci := 12) (q0 := 0) rfl rfl) hP hK hD) rfl rfl hl.1 rfl (lv_room (Nat.le_of_ble_eq_true rfl)) dX12_shorten_59 (by decide +kernel)) hS (fun q _ h => hFc q h) hFc (fun g59_1 t9_ H locs ht hvm hw9 hB9 hz1 hk1 hS => ?_)
    have hP : va_P (dC, dI) vwCl (WR a k h0 vi vj (fT (fT (fT (fT vF 0 g52_1) 2 f2w52_1) 3 f3w52_1) 0 g59_1) (fT vG 1 gs52_1)) H := fz_P ht hB9.1
    have hD : va_D A (WR a k h0 vi vj (fT (fT (fT (fT vF 0 g52_1) 2 f2w52_1) 3 f3w52_1) 0 g59_1) (fT vG 1 gs52_1)) := hB9.2.weaken (fun _ q _ h => hFc q.1 h)
    have e9 : fT (fT (fT vF 0 g59_1) 2 f2w52_1) 3 f3w52_1 = fT (fT (fT (fT vF 0 g52_1) 2 f2w52_1) 3 f3w52_1) 0 g59_1 := ((fT_sw _ _ _ (Nat.ne_of_beq_eq_false rfl)).trans (congrArg (fun g9 => fT g9 3 f3w52_1) ((fT_sw _ _ _ (Nat.ne_of_beq_eq_false rfl)).trans (congrArg (fun g9 => fT g9 2 f2w52_1) (fT_sm _ _ _ _))))).symm
    rw [← e9] at hP hD
    clear e9
    have hP : va_P (dC, dI) vwCl (WR a k h0 vi vj (fT (fT (fT vF 0 g59_1) 2 f2w52_1) 3 f3w52_1) (fT vG 1 gs52_1)) H := hP
    have hD : va_D A (WR a k h0 vi vj (fT (fT (fT vF 0 g59_1) 2 f2w52_1) 3 f3w52_1) (fT vG 1 gs52_1)) := hD
    have f59_1_0 := hw9
    try dsimp only at f59_1_0
    refine W.widen (k := 0) (n := 0) (by decide +kernel) (by decide +kernel) ?_
    exact W.vret hx hb hr (fun t9_ ht hW => ⟨⟨(g59_1, f2w52_1, f3w52_1, gs52_1, (fT (fT (fT (fT (fT (fT m223_1 7 (((-xa)).tdiv ((Int.gcd (-xa) (-xb) : Nat) : Int))) 8 (((-xa)).tmod ((Int.gcd (-xa) (-xb) : Nat) : Int))) an (((-xa)).tdiv ((Int.gcd (-xa) (-xb) : Nat) : Int))) 7 (((-xb)).tdiv ((Int.gcd (-xa) (-xb) : Nat) : Int))) 8 (((-xb)).tmod ((Int.gcd (-xa) (-xb) : Nat) : Int))) bn (((-xb)).tdiv ((Int.gcd (-xa) (-xb) : Nat) : Int)))), rfl, by (try dsimp only); exact ⟨f59_1_0, by (have e9 : (fT (fT (fT (fT (fT (fT m223_1 7 (((-xa)).tdiv ((Int.gcd (-xa) (-xb) : Nat) : Int))) 8 (((-xa)).tmod ((Int.gcd (-xa) (-xb) : Nat) : Int))) an (((-xa)).tdiv ((Int.gcd (-xa) (-xb) : Nat) : Int))) 7 (((-xb)).tdiv ((Int.gcd (-xa) (-xb) : Nat) : Int))) 8 (((-xb)).tmod ((Int.gcd (-xa) (-xb) : Nat) : Int))) bn (((-xb)).tdiv ((Int.gcd (-xa) (-xb) : Nat) : Int))) an = (((-xa)).tdiv ((Int.gcd (-xa) (-xb) : Nat) : Int)) := (by rw [fT_ne _ _ (by omega), fT_ne _ _ (by omega), fT_ne _ _ (by omega), fT_eq])); rw [e9]; first | exact sh_le _ _ | exact Nat.le_trans (sh_le _ _) (by rw [Int.natAbs_neg]; exact Nat.le_refl _), by (have e9 : (fT (fT (fT (fT (fT (fT m223_1 7 (((-xa)).tdiv ((Int.gcd (-xa) (-xb) : Nat) : Int))) 8 (((-xa)).tmod ((Int.gcd (-xa) (-xb) : Nat) : Int))) an (((-xa)).tdiv ((Int.gcd (-xa) (-xb) : Nat) : Int))) 7 (((-xb)).tdiv ((Int.gcd (-xa) (-xb) : Nat) : Int))) 8 (((-xb)).tmod ((Int.gcd (-xa) (-xb) : Nat) : Int))) bn (((-xb)).tdiv ((Int.gcd (-xa) (-xb) : Nat) : Int))) bn = (((-xb)).tdiv ((Int.gcd (-xa) (-xb) : Nat) : Int)) := (by rw [fT_eq])); rw [e9]; first | exact sh_le _ _ | exact Nat.le_trans (sh_le _ _) (by rw [Int.natAbs_neg]; exact Nat.le_refl _), fun q h1 h2 h3 => by (rw [fT_ne _ _ (by omega), fT_ne _ _ (by omega), fT_ne _ _ (by omega), fT_ne _ _ (by omega), fT_ne _ _ (by omega), fT_ne _ _ (by omega), f23_1_2 _ (by omega) (by omega), fT_ne _ _ (by omega), fT_ne _ _ (by omega)]), by (have e9 : (fT (fT (fT (fT (fT (fT m223_1 7 (((-xa)).tdiv ((Int.gcd (-xa) (-xb) : Nat) : Int))) 8 (((-xa)).tmod ((Int.gcd (-xa) (-xb) : Nat) : Int))) an (((-xa)).tdiv ((Int.gcd (-xa) (-xb) : Nat) : Int))) 7 (((-xb)).tdiv ((Int.gcd (-xa) (-xb) : Nat) : Int))) 8 (((-xb)).tmod ((Int.gcd (-xa) (-xb) : Nat) : Int))) bn (((-xb)).tdiv ((Int.gcd (-xa) (-xb) : Nat) : Int))) bn = (((-xb)).tdiv ((Int.gcd (-xa) (-xb) : Nat) : Int)) := (by rw [fT_eq])); rw [e9]; exact tdiv_pos (by omega) (gcd_pos (by omega)) (gcd_le (by omega))⟩, by rw [ht]; exact hP, hD⟩, hS.F ht⟩) hS.2.2 dX12_shorten_62
theorem dX12_against_0 : decode cX12_against 0 = .ok (.aload_n 0, 1) := dk_42 (by decide +kernel)
theorem dX12_against_1 : decode cX12_against 1 = .ok (.iconst 3, 1) := dk_6 (by decide +kernel)
theorem dX12_against_2 : decode cX12_against 2 = .ok (.iload_n 1, 1) := dk_27 (by decide +kernel)
theorem dX12_against_3 : decode cX12_against 3 = .ok (.iload 4, 2) := dk_21 (by decide +kernel)
theorem dX12_against_5 : decode cX12_against 5 = .ok (.invokevirtual 390, 3) := dk_182 (by decide +kernel)
theorem dX12_against_8 : decode cX12_against 8 = .ok (.aload_n 0, 1) := dk_42 (by decide +kernel)
theorem dX12_against_9 : decode cX12_against 9 = .ok (.iconst 4, 1) := dk_7 (by decide +kernel)
theorem dX12_against_10 : decode cX12_against 10 = .ok (.iload_n 3, 1) := dk_29 (by decide +kernel)
theorem dX12_against_11 : decode cX12_against 11 = .ok (.iload_n 2, 1) := dk_28 (by decide +kernel)
theorem dX12_against_12 : decode cX12_against 12 = .ok (.invokevirtual 390, 3) := dk_182 (by decide +kernel)
theorem dX12_against_15 : decode cX12_against 15 = .ok (.aload_n 0, 1) := dk_42 (by decide +kernel)
theorem dX12_against_16 : decode cX12_against 16 = .ok (.iconst 3, 1) := dk_6 (by decide +kernel)
theorem dX12_against_17 : decode cX12_against 17 = .ok (.iconst 4, 1) := dk_7 (by decide +kernel)
theorem dX12_against_18 : decode cX12_against 18 = .ok (.invokevirtual 393, 3) := dk_182 (by decide +kernel)
theorem dX12_against_21 : decode cX12_against 21 = .ok (.ireturn, 1) := dk_172 (by decide +kernel)
def wsRX12_against : List Cond := .code yX12_against cX12_against 5 (some .int) :: ([] ++ wsX120 ++ (wsV RX12 390 RX12 yX12_times wsRX12_times) ++ (wsV RX12 393 RX12 yX12_compare wsRX12_compare))
theorem iwsRX12_against_in12 : ∀ w ∈ wsX120, w ∈ wsRX12_against := fun _ h => List.mem_cons_of_mem _ (List.mem_append_left _ (List.mem_append_left _ (List.mem_append_right _ h)))
theorem gwsRX12_against_0 : GoodIn wsRX12_against (wsV RX12 390 RX12 yX12_times wsRX12_times) := goodIn_sub (fun _ h => List.mem_cons_of_mem _ (List.mem_append_left _ (List.mem_append_right _ h))) (gdV (by decide +kernel) gdwsRX12_times)
theorem gwsRX12_against_1 : GoodIn wsRX12_against (wsV RX12 393 RX12 yX12_compare wsRX12_compare) := goodIn_sub (fun _ h => List.mem_cons_of_mem _ (List.mem_append_right _ h)) (gdV (by decide +kernel) gdwsRX12_compare)
theorem gdwsRX12_against : wsRX12_against.all goodWord = true := gdC rfl (gdA (gdA (gdA (by decide +kernel : ([] : List Cond).all goodWord = true) gdwsX120) (gdV (by decide +kernel) gdwsRX12_times)) (gdV (by decide +kernel) gdwsRX12_compare))
set_option maxHeartbeats 4000000 in
set_option maxRecDepth 100000 in
/-- against(n, d, m, e) -/
theorem r_X12_against (l : Launch) (dC : Nat → ClassId) (dI : Nat → Nat → Nat) (a : Nat → Nat) (k : Nat → ClassId) (h0 : Nat) (vi : Nat → Int32) (vj : Nat → Int64) (vF : Nat → Nat → Int32) (vG : Nat → Nat → Int64) (nn : Nat) (dn : Nat) (mn : Nat) (en : Nat) (mg : Nat → Int) (hBg : Bg (vF 0) mg) (xn : Int) (xd : Int) (xm : Int) (xe : Int) (v_xn : mg nn = xn) (v_xd : mg dn = xd) (v_xm : mg mn = xm) (v_xe : mg en = xe) (h1 : nn < 1100) (h2 : dn < 1100) (h3 : mn < 1100) (h4 : en < 1100) (h5 : 4 < mn ∧ 4 < dn) (hb1 : xn.natAbs * xe.natAbs < 2 ^ 588) (hb2 : xm.natAbs * xd.natAbs < 2 ^ 588) (sz : Nat) : Met l yX12_against wsRX12_against ({ frames := 2, cells := 0, slots := 0, locals := 59 }) (va_Pc [.ref h0, .int (nI nn), .int (nI dn), .int (nI mn), .int (nI en)] (fun U => U.heap.size = sz ∧ va_P (dC, dI) vwCl (WR a k h0 vi vj vF vG) U.heap ∧ va_K (dC, dI) vwCl (tX12 k) U ∧ va_D (fun _ => True) (WR a k h0 vi vj vF vG))) (va_Qi (fun (r : Int32) (u : (Nat → Int32) × (Nat → Int64) × (Nat → Int)) => (Bg (u.1) (u.2.2)) ∧ (((r).toInt < 0 ∧ xn * xe < xm * xd) ∨ ((r).toInt = 0 ∧ xn * xe = xm * xd) ∨ (0 < (r).toInt ∧ xm * xd < xn * xe)) ∧ (∀ q, (q < 3 ∨ 4 < q) → (u.2.2) q = mg q)) (fun (u : (Nat → Int32) × (Nat → Int64) × (Nat → Int)) t => va_P (dC, dI) vwCl (WR a k h0 vi vj (fT vF 0 (u.1)) (fT vG 1 (u.2.1))) t.heap ∧ va_D (va_A (WR a k h0 vi vj vF vG) sz) (WR a k h0 vi vj (fT vF 0 (u.1)) (fT vG 1 (u.2.1)))) (va_A (WR a k h0 vi vj vF vG) sz)) 0 0 (va_A (WR a k h0 vi vj vF vG) sz) := by
  refine Met.ofW (cc := cX12_against) (maxL := 5) (ret := (some .int)) (by decide) rfl ?_
  intro p e s m args below meth c s₁ B hml hv
  obtain ⟨rfl, hsz, hP, hK, hD0⟩ := hv
  have hx := B.exec
  have hb := B.bytes
  have hr := B.returns
  have hts := atoms_spec (ws := wsRX12_against) B.pre
  have hown : s.vm.findClass RX12 = some m.cls := findClass_of_methodNamed B.named
  have hlocks := B.notSynchronized
  subst hsz
  have hD := hD0.self (sz := s.heap.size)
  generalize hAe : va_A (WR a k h0 vi vj vF vG) s.heap.size = A at hD ⊢
  have hA : ∀ q : Nat, s.heap.size ≤ q → A q := fun q h => by rw [← hAe]; exact Or.inr h
  have hS : va_S A s.heap s.heap [] := va_S.rf
  have hl := lv_entry ([.ref h0, .int (nI nn), .int (nI dn), .int (nI mn), .int (nI en)]) (n := 5) (Nat.le_of_ble_eq_true rfl)
  rw [lg_entry_eq]
  generalize (lg_sl ([.ref h0, .int (nI nn), .int (nI dn), .int (nI mn), .int (nI en)]) ++ List.replicate (5 - (lg_sl ([.ref h0, .int (nI nn), .int (nI dn), .int (nI mn), .int (nI en)])).length) Slot.unset).toArray = ls at hl ⊢
  have hl : lv_has ls 5 [(0, .ref h0), (1, .int (nI nn)), (2, .int (nI dn)), (3, .int (nI mn)), (4, .int (nI en))] := hl
  refine lv_aload_n hx hb dX12_against_0 rfl (lv_at hl 0 rfl) ?_
  refine lv_iconst (v := 3) hx hb dX12_against_1 (by decide) ?_
  refine lv_iload_n hx hb dX12_against_2 rfl (lv_at hl 1 rfl) ?_
  refine lv_iload hx hb dX12_against_3 (lv_at hl 4 rfl) ?_
  have hFc := allFree hD hS hA
  refine va_callv (va_runV (As := [.int 3, .int (nI nn), .int (nI en)]) (rest := []) ⟨hx, hb, hml, hown, hts⟩ (b_X12_times l dC dI a k h0 vi vj vF vG 3 nn en mg hBg xn xe (by rw [v_xn]) (by rw [v_xe]) (by first | with_reducible assumption | decide | omega | rfl | assumption) (by first | with_reducible assumption | decide | omega | rfl | assumption) (by first | with_reducible assumption | decide | omega | rfl | assumption) (by first | with_reducible assumption | decide | omega | rfl | assumption) s.heap.size) (cwV 3 hts gwsRX12_against_0 rfl rfl rfl hd_yX12_times_RX12 (by decide +kernel)) (fz_pre (va_recv hK hP (ci := 12) (q0 := 0) rfl rfl) hP hK hD) rfl rfl hl.1 rfl (lv_room (Nat.le_of_ble_eq_true rfl)) dX12_against_5 (by decide +kernel)) hS (fun q _ h => hFc q h) hFc (fun u t9_ H locs ht hvm hw9 hB9 hz1 hk1 hS => ?_)
  revert u
  refine fz_p2 ?_
  intro g5 gs5 hw9 hB9
  try dsimp only at hw9 hB9
  have hP : va_P (dC, dI) vwCl (WR a k h0 vi vj (fT vF 0 g5) (fT vG 1 gs5)) H := fz_P ht hB9.1
  have hD : va_D A (WR a k h0 vi vj (fT vF 0 g5) (fT vG 1 gs5)) := hB9.2.weaken (fun _ q _ h => hFc q.1 h)
  have f5_0 := hw9
  try dsimp only at f5_0
  refine lv_aload_n hx hb dX12_against_8 rfl (lv_at hl 0 rfl) ?_
  refine lv_iconst (v := 4) hx hb dX12_against_9 (by decide) ?_
  refine lv_iload_n hx hb dX12_against_10 rfl (lv_at hl 3 rfl) ?_
  refine lv_iload_n hx hb dX12_against_11 rfl (lv_at hl 2 rfl) ?_
  have hFc := allFree hD hS hA
  refine va_callv (va_runV (As := [.int 4, .int (nI mn), .int (nI dn)]) (rest := []) ⟨hx, hb, hml, hown, hts⟩ (b_X12_times l dC dI a k h0 vi vj (fT vF 0 g5) (fT vG 1 gs5) 4 mn dn (fT mg 3 (xn * xe)) f5_0 xm xd (by rw [fT_ne _ _ (by omega), v_xm]) (by rw [fT_ne _ _ (by omega), v_xd]) (by first | with_reducible assumption | decide | omega | rfl | assumption) (by first | with_reducible assumption | decide | omega | rfl | assumption) (by first | with_reducible assumption | decide | omega | rfl | assumption) (by first | with_reducible assumption | decide | omega | rfl | assumption) H.size) (cwV 3 hts gwsRX12_against_0 rfl rfl rfl hd_yX12_times_RX12 (by decide +kernel)) (fz_pre (va_recv hK hP (ci := 12) (q0 := 0) rfl rfl) hP hK hD) rfl rfl hl.1 rfl (lv_room (Nat.le_of_ble_eq_true rfl)) dX12_against_12 (by decide +kernel)) hS (fun q _ h => hFc q h) hFc (fun u t9_ H locs ht hvm hw9 hB9 hz1 hk1 hS => ?_)
  revert u
  refine fz_p2 ?_
  intro g12 gs12 hw9 hB9
  try dsimp only at hw9 hB9
  have hP : va_P (dC, dI) vwCl (WR a k h0 vi vj (fT (fT vF 0 g5) 0 g12) (fT (fT vG 1 gs5) 1 gs12)) H := fz_P ht hB9.1
  have hD : va_D A (WR a k h0 vi vj (fT (fT vF 0 g5) 0 g12) (fT (fT vG 1 gs5) 1 gs12)) := hB9.2.weaken (fun _ q _ h => hFc q.1 h)
  have e9 : fT vF 0 g12 = fT (fT vF 0 g5) 0 g12 := (fT_sm _ _ _ _).symm
  rw [← e9] at hP hD
  clear e9
  have e9 : fT vG 1 gs12 = fT (fT vG 1 gs5) 1 gs12 := (fT_sm _ _ _ _).symm
  rw [← e9] at hP hD
  clear e9
  have hP : va_P (dC, dI) vwCl (WR a k h0 vi vj (fT vF 0 g12) (fT vG 1 gs12)) H := hP
  have hD : va_D A (WR a k h0 vi vj (fT vF 0 g12) (fT vG 1 gs12)) := hD
  have f12_0 := hw9
  try dsimp only at f12_0
  refine lv_aload_n hx hb dX12_against_15 rfl (lv_at hl 0 rfl) ?_
  refine lv_iconst (v := 3) hx hb dX12_against_16 (by decide) ?_
  refine lv_iconst (v := 4) hx hb dX12_against_17 (by decide) ?_
  have hFc := allFree hD hS hA
  refine va_calli (va_runV (As := [.int 3, .int 4]) (rest := []) ⟨hx, hb, hml, hown, hts⟩ (b_X12_compare l dC dI a k h0 vi vj (fT vF 0 g12) (fT vG 1 gs12) 3 4 (fT (fT mg 3 (xn * xe)) 4 (xm * xd)) f12_0 (xn * xe) (xm * xd) (by rw [fT_ne _ _ (by omega), fT_eq]) (by rw [fT_eq]) (by first | with_reducible assumption | decide | omega | rfl | assumption) (by first | with_reducible assumption | decide | omega | rfl | assumption) H.size) (cwV 2 hts gwsRX12_against_1 rfl rfl rfl hd_yX12_compare_RX12 (by decide +kernel)) (fz_pre (va_recv hK hP (ci := 12) (q0 := 0) rfl rfl) hP hK hD) rfl rfl hl.1 rfl (lv_room (Nat.le_of_ble_eq_true rfl)) dX12_against_18 (by decide +kernel)) hS (fun q _ h => hFc q h) hFc (fun r18 u t9_ H locs ht hvm hw9 hB9 hz1 hk1 hS => ?_)
  have hP : va_P (dC, dI) vwCl (WR a k h0 vi vj (fT vF 0 g12) (fT vG 1 gs12)) H := fz_P ht hB9.1
  have hD : va_D A (WR a k h0 vi vj (fT vF 0 g12) (fT vG 1 gs12)) := hB9.2.weaken (fun _ q _ h => hFc q.1 h)
  have f18_0 := hw9
  try dsimp only at f18_0
  refine W.widen (k := 0) (n := 0) (by decide +kernel) (by decide +kernel) ?_
  exact W.iret (v := r18) hx hb hr (fun t9_ ht hW => ⟨⟨r18, (g12, gs12, (fT (fT mg 3 (xn * xe)) 4 (xm * xd))), rfl, by (try dsimp only); exact ⟨f12_0, f18_0, fun q h1 => by (rw [fT_ne _ _ (by omega), fT_ne _ _ (by omega)])⟩, by rw [ht]; exact hP, hD⟩, hS.F ht⟩) hS.2.2 dX12_against_21
end
section
theorem worth_big {f : Nat → Int32} {s n : Nat} {x : Int} (h2 : 2 < n) (hL : Lm f (24 * s + 2) n) (ht : 0 < n → f (24 * s + 1 + n) ≠ 0) (hx : x.natAbs = lv28 f (24 * s + 2) n) : 72057594037927936 ≤ x.natAbs := by
  obtain ⟨k, rfl⟩ : ∃ k, n = k + 1 := ⟨n - 1, by omega⟩
  have h := lv28_ge hL (by rw [show 24 * s + 2 + k = 24 * s + 1 + (k + 1) by omega]; exact ht (by omega))
  have h3 : 2 ^ (28 * 2) ≤ 2 ^ (28 * k) := Nat.pow_le_pow_right (by decide) (by omega)
  rw [hx]; omega
theorem limbs_lt {f : Nat → Int32} {o n k : Nat} (hL : Lm f o n) (h : n ≤ k) : lv28 f o n < 2 ^ (28 * k) :=
  Nat.lt_of_lt_of_le (lv28_lt hL) (Nat.pow_le_pow_right (by decide) (by omega))
theorem mulS3 {x y : Int32} (hx : x.toInt = 0 ∨ x.toInt = 1 ∨ x.toInt = -1) (hy : -1073741824 < y.toInt ∧ y.toInt < 1073741824) : (x * y).toInt = x.toInt * y.toInt := by
  rcases hx with h | h | h
  · have e : x = 0 := Int32.toInt_inj.mp (by rw [h]; decide)
    rw [e, Int32.zero_mul]; simp
  · exact mulS (Or.inl h) hy
  · exact mulS (Or.inr h) hy
theorem small_low {f : Nat → Int32} {s n l0 : Nat} {x : Int} (h0 : 0 < n) (hL : Lm f (24 * s + 2) n) (ht : 0 < n → f (24 * s + 1 + n) ≠ 0) (hx : x.natAbs = lv28 f (24 * s + 2) n) (e : f (24 * s + 2 + 0) = nI l0) (hl : l0 < 268435456) (hb : x.natAbs < 268435456) : x.natAbs = l0 := by
  have hn : n = 1 := by
    rcases Nat.lt_or_ge 1 n with h | h
    · exfalso
      obtain ⟨k, rfl⟩ : ∃ k, n = k + 1 := ⟨n - 1, by omega⟩
      have h := lv28_ge hL (by rw [show 24 * s + 2 + k = 24 * s + 1 + (k + 1) by omega]; exact ht (by omega))
      have h3 : 2 ^ (28 * 1) ≤ 2 ^ (28 * k) := Nat.pow_le_pow_right (by decide) (by omega)
      omega
    · omega
  subst hn
  rw [hx]
  simp only [lv28]
  rw [e, nI_clamp (by omega)]
  simp
theorem gcd_stepN (x y : Nat) : Nat.gcd y (x % y) = Nat.gcd x y := by
  rw [Nat.gcd_comm, ← Nat.gcd_rec, Nat.gcd_comm]
end
section
theorem dX12_worth_0 : decode cX12_worth 0 = .ok (.aload_n 0, 1) := dk_42 (by decide +kernel)
theorem dX12_worth_1 : decode cX12_worth 1 = .ok (.getfield 7, 3) := dk_180 (by decide +kernel)
theorem dX12_worth_4 : decode cX12_worth 4 = .ok (.bipush 24, 2) := dk_16 (by decide +kernel)
theorem dX12_worth_6 : decode cX12_worth 6 = .ok (.iload_n 1, 1) := dk_27 (by decide +kernel)
theorem dX12_worth_7 : decode cX12_worth 7 = .ok (.imul, 1) := dk_104 (by decide +kernel)
theorem dX12_worth_8 : decode cX12_worth 8 = .ok (.iconst 1, 1) := dk_4 (by decide +kernel)
theorem dX12_worth_9 : decode cX12_worth 9 = .ok (.iadd, 1) := dk_96 (by decide +kernel)
theorem dX12_worth_10 : decode cX12_worth 10 = .ok (.iaload, 1) := dk_46 (by decide +kernel)
theorem dX12_worth_11 : decode cX12_worth 11 = .ok (.istore_n 2, 1) := dk_61 (by decide +kernel)
theorem dX12_worth_12 : decode cX12_worth 12 = .ok (.iload_n 2, 1) := dk_28 (by decide +kernel)
theorem dX12_worth_13 : decode cX12_worth 13 = .ok (.iconst 2, 1) := dk_5 (by decide +kernel)
theorem dX12_worth_14 : decode cX12_worth 14 = .ok (.if_icmp .le 7, 3) := dk_164 (by decide +kernel)
theorem dX12_worth_17 : decode cX12_worth 17 = .ok (.ldc2_w 422, 3) := dk_20 (by decide +kernel)
theorem dX12_worth_20 : decode cX12_worth 20 = .ok (.lreturn, 1) := dk_173 (by decide +kernel)
theorem dX12_worth_21 : decode cX12_worth 21 = .ok (.iload_n 2, 1) := dk_28 (by decide +kernel)
theorem dX12_worth_22 : decode cX12_worth 22 = .ok (.ifCond .ne 7, 3) := dk_154 (by decide +kernel)
theorem dX12_worth_25 : decode cX12_worth 25 = .ok (.lconst 0, 1) := dk_9 (by decide +kernel)
theorem dX12_worth_26 : decode cX12_worth 26 = .ok (.goto 51, 3) := dk_167 (by decide +kernel)
theorem dX12_worth_29 : decode cX12_worth 29 = .ok (.iload_n 2, 1) := dk_28 (by decide +kernel)
theorem dX12_worth_30 : decode cX12_worth 30 = .ok (.iconst 1, 1) := dk_4 (by decide +kernel)
theorem dX12_worth_31 : decode cX12_worth 31 = .ok (.if_icmp .ne 18, 3) := dk_160 (by decide +kernel)
theorem dX12_worth_34 : decode cX12_worth 34 = .ok (.aload_n 0, 1) := dk_42 (by decide +kernel)
theorem dX12_worth_35 : decode cX12_worth 35 = .ok (.getfield 7, 3) := dk_180 (by decide +kernel)
theorem dX12_worth_38 : decode cX12_worth 38 = .ok (.bipush 24, 2) := dk_16 (by decide +kernel)
theorem dX12_worth_40 : decode cX12_worth 40 = .ok (.iload_n 1, 1) := dk_27 (by decide +kernel)
theorem dX12_worth_41 : decode cX12_worth 41 = .ok (.imul, 1) := dk_104 (by decide +kernel)
theorem dX12_worth_42 : decode cX12_worth 42 = .ok (.iconst 2, 1) := dk_5 (by decide +kernel)
theorem dX12_worth_43 : decode cX12_worth 43 = .ok (.iadd, 1) := dk_96 (by decide +kernel)
theorem dX12_worth_44 : decode cX12_worth 44 = .ok (.iaload, 1) := dk_46 (by decide +kernel)
theorem dX12_worth_45 : decode cX12_worth 45 = .ok (.i2l, 1) := dk_133 (by decide +kernel)
theorem dX12_worth_46 : decode cX12_worth 46 = .ok (.goto 31, 3) := dk_167 (by decide +kernel)
theorem dX12_worth_49 : decode cX12_worth 49 = .ok (.aload_n 0, 1) := dk_42 (by decide +kernel)
theorem dX12_worth_50 : decode cX12_worth 50 = .ok (.getfield 7, 3) := dk_180 (by decide +kernel)
theorem dX12_worth_53 : decode cX12_worth 53 = .ok (.bipush 24, 2) := dk_16 (by decide +kernel)
theorem dX12_worth_55 : decode cX12_worth 55 = .ok (.iload_n 1, 1) := dk_27 (by decide +kernel)
theorem dX12_worth_56 : decode cX12_worth 56 = .ok (.imul, 1) := dk_104 (by decide +kernel)
theorem dX12_worth_57 : decode cX12_worth 57 = .ok (.iconst 3, 1) := dk_6 (by decide +kernel)
theorem dX12_worth_58 : decode cX12_worth 58 = .ok (.iadd, 1) := dk_96 (by decide +kernel)
theorem dX12_worth_59 : decode cX12_worth 59 = .ok (.iaload, 1) := dk_46 (by decide +kernel)
theorem dX12_worth_60 : decode cX12_worth 60 = .ok (.i2l, 1) := dk_133 (by decide +kernel)
theorem dX12_worth_61 : decode cX12_worth 61 = .ok (.bipush 28, 2) := dk_16 (by decide +kernel)
theorem dX12_worth_63 : decode cX12_worth 63 = .ok (.lshl, 1) := dk_121 (by decide +kernel)
theorem dX12_worth_64 : decode cX12_worth 64 = .ok (.aload_n 0, 1) := dk_42 (by decide +kernel)
theorem dX12_worth_65 : decode cX12_worth 65 = .ok (.getfield 7, 3) := dk_180 (by decide +kernel)
theorem dX12_worth_68 : decode cX12_worth 68 = .ok (.bipush 24, 2) := dk_16 (by decide +kernel)
theorem dX12_worth_70 : decode cX12_worth 70 = .ok (.iload_n 1, 1) := dk_27 (by decide +kernel)
theorem dX12_worth_71 : decode cX12_worth 71 = .ok (.imul, 1) := dk_104 (by decide +kernel)
theorem dX12_worth_72 : decode cX12_worth 72 = .ok (.iconst 2, 1) := dk_5 (by decide +kernel)
theorem dX12_worth_73 : decode cX12_worth 73 = .ok (.iadd, 1) := dk_96 (by decide +kernel)
theorem dX12_worth_74 : decode cX12_worth 74 = .ok (.iaload, 1) := dk_46 (by decide +kernel)
theorem dX12_worth_75 : decode cX12_worth 75 = .ok (.i2l, 1) := dk_133 (by decide +kernel)
theorem dX12_worth_76 : decode cX12_worth 76 = .ok (.lor, 1) := dk_129 (by decide +kernel)
theorem dX12_worth_77 : decode cX12_worth 77 = .ok (.lstore_n 3, 1) := dk_66 (by decide +kernel)
theorem dX12_worth_78 : decode cX12_worth 78 = .ok (.aload_n 0, 1) := dk_42 (by decide +kernel)
theorem dX12_worth_79 : decode cX12_worth 79 = .ok (.iload_n 1, 1) := dk_27 (by decide +kernel)
theorem dX12_worth_80 : decode cX12_worth 80 = .ok (.invokevirtual 353, 3) := dk_182 (by decide +kernel)
theorem dX12_worth_83 : decode cX12_worth 83 = .ok (.ifCond .ge 8, 3) := dk_156 (by decide +kernel)
theorem dX12_worth_86 : decode cX12_worth 86 = .ok (.lload_n 3, 1) := dk_33 (by decide +kernel)
theorem dX12_worth_87 : decode cX12_worth 87 = .ok (.lneg, 1) := dk_117 (by decide +kernel)
theorem dX12_worth_88 : decode cX12_worth 88 = .ok (.goto 4, 3) := dk_167 (by decide +kernel)
theorem dX12_worth_91 : decode cX12_worth 91 = .ok (.lload_n 3, 1) := dk_33 (by decide +kernel)
theorem dX12_worth_92 : decode cX12_worth 92 = .ok (.lreturn, 1) := dk_173 (by decide +kernel)
def wsRX12_worth : List Cond := .code yX12_worth cX12_worth 5 (some .long) :: ([.fieldLink RX12 7 "OptimaWorksModel" "big" "[I", .constantLong RX12 422 2147483648] ++ wsX120 ++ (wsV RX12 353 RX12 yX12_sign wsRX12_sign))
theorem iwsRX12_worth_in12 : ∀ w ∈ wsX120, w ∈ wsRX12_worth := fun _ h => List.mem_cons_of_mem _ (List.mem_append_left _ (List.mem_append_right _ h))
theorem gwsRX12_worth_0 : GoodIn wsRX12_worth (wsV RX12 353 RX12 yX12_sign wsRX12_sign) := goodIn_sub (fun _ h => List.mem_cons_of_mem _ (List.mem_append_right _ h)) (gdV (by decide +kernel) gdwsRX12_sign)
theorem gdwsRX12_worth : wsRX12_worth.all goodWord = true := gdC rfl (gdA (gdA (by decide +kernel : ([.fieldLink RX12 7 "OptimaWorksModel" "big" "[I", .constantLong RX12 422 2147483648] : List Cond).all goodWord = true) gdwsX120) (gdV (by decide +kernel) gdwsRX12_sign))
set_option maxHeartbeats 4000000 in
set_option maxRecDepth 100000 in
/-- worth(s) -/
theorem r_X12_worth (l : Launch) (dC : Nat → ClassId) (dI : Nat → Nat → Nat) (a : Nat → Nat) (k : Nat → ClassId) (h0 : Nat) (vi : Nat → Int32) (vj : Nat → Int64) (vF : Nat → Nat → Int32) (vG : Nat → Nat → Int64) (sn : Nat) (mg : Nat → Int) (hBg : Bg (vF 0) mg) (x : Int) (v_x : mg sn = x) (hs : sn < 1100) (sz : Nat) : Met l yX12_worth wsRX12_worth ({ frames := 1, cells := 0, slots := 0, locals := 21 }) (va_Pc [.ref h0, .int (nI sn)] (fun U => U.heap.size = sz ∧ va_P (dC, dI) vwCl (WR a k h0 vi vj vF vG) U.heap ∧ va_K (dC, dI) vwCl (tX12 k) U ∧ va_D (fun _ => True) (WR a k h0 vi vj vF vG))) (va_Ql (fun (r : Int64) (u : Unit) => (((r).toInt = x ∧ x.natAbs < 72057594037927936) ∨ ((r).toInt = 2147483648 ∧ 72057594037927936 ≤ x.natAbs))) (fun (u : Unit) t => va_P (dC, dI) vwCl (WR a k h0 vi vj vF vG) t.heap ∧ va_D (va_A (WR a k h0 vi vj vF vG) sz) (WR a k h0 vi vj vF vG)) (va_A (WR a k h0 vi vj vF vG) sz)) 0 0 (va_A (WR a k h0 vi vj vF vG) sz) := by
  refine Met.ofW (cc := cX12_worth) (maxL := 5) (ret := (some .long)) (by decide) rfl ?_
  intro p e s m args below meth c s₁ B hml hv
  obtain ⟨rfl, hsz, hP, hK, hD0⟩ := hv
  have hx := B.exec
  have hb := B.bytes
  have hr := B.returns
  have hts := atoms_spec (ws := wsRX12_worth) B.pre
  have hown : s.vm.findClass RX12 = some m.cls := findClass_of_methodNamed B.named
  have hlocks := B.notSynchronized
  subst hsz
  have hD := hD0.self (sz := s.heap.size)
  generalize hAe : va_A (WR a k h0 vi vj vF vG) s.heap.size = A at hD ⊢
  have hA : ∀ q : Nat, s.heap.size ≤ q → A q := fun q h => by rw [← hAe]; exact Or.inr h
  have hS : va_S A s.heap s.heap [] := va_S.rf
  have hl := lv_entry ([.ref h0, .int (nI sn)]) (n := 5) (Nat.le_of_ble_eq_true rfl)
  rw [lg_entry_eq]
  generalize (lg_sl ([.ref h0, .int (nI sn)]) ++ List.replicate (5 - (lg_sl ([.ref h0, .int (nI sn)])).length) Slot.unset).toArray = ls at hl ⊢
  have hl : lv_has ls 5 [(0, .ref h0), (1, .int (nI sn))] := hl
  obtain ⟨na, hna1, hna2, hna3, hna4, hna5, hna6⟩ := hBg sn hs
  rw [v_x] at hna5 hna6
  refine lv_aload_n hx hb dX12_worth_0 rfl (lv_at hl 0 rfl) ?_
  refine va_get (D := (dC, dI)) (ci := 12) (v := .ref (a 0)) (C := RX12) (T := TX12) (N := 163) (fs := fM (vS a vi vj)) hx hb hts iwsRX12_worth_in12 hown hK hP 0 rfl rfl 1 (by decide) (hts (.fieldLink RX12 7 "OptimaWorksModel" "big" "[I") (by decide +kernel)) (fun _ h9 => h9) rfl dX12_worth_1 ?_
  refine lv_bipush (v := 24) hx hb dX12_worth_4 (by decide) ?_
  refine lv_iload_n hx hb dX12_worth_6 rfl (lv_at hl 1 rfl) ?_
  refine lv_imul hx hb dX12_worth_7 ?_
  refine lv_topi (fun y1 hy1 => ?_)
  obtain rfl : (nI (24 * sn)) = y1 := (hy1.trans (pk_mul 24 sn)).symm
  refine lv_iconst (v := 1) hx hb dX12_worth_8 (by decide) ?_
  refine lv_iadd hx hb dX12_worth_9 ?_
  refine lv_topi (fun y2 hy2 => ?_)
  obtain rfl : (nI ((24 * sn) + 1)) = y2 := (hy2.trans (nI_add (24 * sn) 1)).symm
  refine va_iald (cA := k 0) (n := 26400) (f := (vF 0)) hx hb hK hP 1 0 (WR_get 0 (by decide)) (TR_get 0 (by decide)) (vp_in_nI (show ((24 * sn) + 1) < 26400 by omega) (by omega)) dX12_worth_10 ?_
  refine lv_topi (fun y3 hy3 => ?_)
  obtain rfl : ((vF 0) ((24 * sn) + 1)) = y3 := (hy3.trans (by rw [nI_clamp (by omega)])).symm
  refine lv_topi (fun y4 hy4 => ?_)
  obtain rfl : (nI na) = y4 := (hy4.trans (hna2)).symm
  refine lv_istore_n hx hb dX12_worth_11 rfl hl (by decide) rfl (fun ls (hl : lv_has ls _ ([(2, .int (nI na)), (0, .ref h0), (1, .int (nI sn))])) => ?_)
  refine lv_iload_n hx hb dX12_worth_12 rfl (lv_at hl 0 rfl) ?_
  refine lv_iconst (v := 2) hx hb dX12_worth_13 (by decide) ?_
  refine lv_icmp_le (tgt := 21) hx hb dX12_worth_14 (by decide) (fun c_14 => ?_) (fun c_14 => ?_)
  · have t_14 : ((na : Nat) : Int) ≤ 2 := toI_le c_14 (nI_toInt (by omega)) (by decide)
    refine lv_iload_n hx hb dX12_worth_21 rfl (lv_at hl 0 rfl) ?_
    refine lv_if_ne (tgt := 29) hx hb dX12_worth_22 (by decide) (fun c_22 => ?_) (fun c_22 => ?_)
    · have t_22 : ((na : Nat) : Int) ≠ 0 := toI_ne c_22 (nI_toInt (by omega)) (by decide)
      refine lv_iload_n hx hb dX12_worth_29 rfl (lv_at hl 0 rfl) ?_
      refine lv_iconst (v := 1) hx hb dX12_worth_30 (by decide) ?_
      refine lv_icmp_ne (tgt := 49) hx hb dX12_worth_31 (by decide) (fun c_31 => ?_) (fun c_31 => ?_)
      · have t_31 : ((na : Nat) : Int) ≠ 1 := toI_ne c_31 (nI_toInt (by omega)) (by decide)
        obtain ⟨l0, hl0, el0⟩ := hna3 0 (by omega)
        obtain ⟨l1, hl1, el1⟩ := hna3 1 (by omega)
        refine lv_aload_n hx hb dX12_worth_49 rfl (lv_at hl 1 rfl) ?_
        refine va_get (D := (dC, dI)) (ci := 12) (v := .ref (a 0)) (C := RX12) (T := TX12) (N := 163) (fs := fM (vS a vi vj)) hx hb hts iwsRX12_worth_in12 hown hK hP 0 rfl rfl 1 (by decide) (hts (.fieldLink RX12 7 "OptimaWorksModel" "big" "[I") (by decide +kernel)) (fun _ h9 => h9) rfl dX12_worth_50 ?_
        refine lv_bipush (v := 24) hx hb dX12_worth_53 (by decide) ?_
        refine lv_iload_n hx hb dX12_worth_55 rfl (lv_at hl 2 rfl) ?_
        refine lv_imul hx hb dX12_worth_56 ?_
        refine lv_topi (fun y5 hy5 => ?_)
        obtain rfl : (nI (24 * sn)) = y5 := (hy5.trans (pk_mul 24 sn)).symm
        refine lv_iconst (v := 3) hx hb dX12_worth_57 (by decide) ?_
        refine lv_iadd hx hb dX12_worth_58 ?_
        refine lv_topi (fun y6 hy6 => ?_)
        obtain rfl : (nI ((24 * sn) + 3)) = y6 := (hy6.trans (nI_add (24 * sn) 3)).symm
        refine va_iald (cA := k 0) (n := 26400) (f := (vF 0)) hx hb hK hP 1 0 (WR_get 0 (by decide)) (TR_get 0 (by decide)) (vp_in_nI (show ((24 * sn) + 3) < 26400 by omega) (by omega)) dX12_worth_59 ?_
        refine lv_topi (fun y7 hy7 => ?_)
        obtain rfl : ((vF 0) ((24 * sn) + 3)) = y7 := (hy7.trans (by rw [nI_clamp (by omega)])).symm
        refine lv_topi (fun y8 hy8 => ?_)
        obtain rfl : (nI l1) = y8 := (hy8.trans (el1)).symm
        refine lv_i2l hx hb dX12_worth_60 rfl ?_
        refine lv_topl (fun y9 hy9 => ?_)
        obtain rfl : (lN l1) = y9 := (hy9.trans (nI_l (by omega))).symm
        refine lv_bipush (v := 28) hx hb dX12_worth_61 (by decide) ?_
        refine lv_lshl hx hb dX12_worth_63 rfl ?_
        refine lv_aload_n hx hb dX12_worth_64 rfl (lv_at hl 1 rfl) ?_
        refine va_get (D := (dC, dI)) (ci := 12) (v := .ref (a 0)) (C := RX12) (T := TX12) (N := 163) (fs := fM (vS a vi vj)) hx hb hts iwsRX12_worth_in12 hown hK hP 0 rfl rfl 1 (by decide) (hts (.fieldLink RX12 7 "OptimaWorksModel" "big" "[I") (by decide +kernel)) (fun _ h9 => h9) rfl dX12_worth_65 ?_
        refine lv_bipush (v := 24) hx hb dX12_worth_68 (by decide) ?_
        refine lv_iload_n hx hb dX12_worth_70 rfl (lv_at hl 2 rfl) ?_
        refine lv_imul hx hb dX12_worth_71 ?_
        refine lv_topi (fun y10 hy10 => ?_)
        obtain rfl : (nI (24 * sn)) = y10 := (hy10.trans (pk_mul 24 sn)).symm
        refine lv_iconst (v := 2) hx hb dX12_worth_72 (by decide) ?_
        refine lv_iadd hx hb dX12_worth_73 ?_
        refine lv_topi (fun y11 hy11 => ?_)
        obtain rfl : (nI ((24 * sn) + 2)) = y11 := (hy11.trans (nI_add (24 * sn) 2)).symm
        refine va_iald (cA := k 0) (n := 26400) (f := (vF 0)) hx hb hK hP 1 0 (WR_get 0 (by decide)) (TR_get 0 (by decide)) (vp_in_nI (show ((24 * sn) + 2) < 26400 by omega) (by omega)) dX12_worth_74 ?_
        refine lv_topi (fun y12 hy12 => ?_)
        obtain rfl : ((vF 0) ((24 * sn) + 2)) = y12 := (hy12.trans (by rw [nI_clamp (by omega)])).symm
        refine lv_topi (fun y13 hy13 => ?_)
        obtain rfl : (nI l0) = y13 := (hy13.trans (el0)).symm
        refine lv_i2l hx hb dX12_worth_75 rfl ?_
        refine lv_topl (fun y14 hy14 => ?_)
        obtain rfl : (lN l0) = y14 := (hy14.trans (nI_l (by omega))).symm
        refine lv_lor hx hb dX12_worth_76 ?_
        refine lv_topl (fun y15 hy15 => ?_)
        obtain rfl : (lN (l1 * 268435456 + l0)) = y15 := (hy15.trans (lor28 (by omega) (by omega))).symm
        have hlt : x.natAbs < 72057594037927936 := by rw [hna5]; exact limbs_lt (k := 2) hna3 (by omega)
        refine lv_topl (fun y16 hy16 => ?_)
        obtain rfl : (lN x.natAbs) = y16 := (hy16.trans (by rw [hna5, show na = 2 by omega]; simp only [lv28]; rw [el0, el1, nI_clamp (by omega), nI_clamp (by omega)]; congr 1; omega)).symm
        refine lv_lstore_n hx hb dX12_worth_77 rfl hl (by decide) rfl (fun ls (hl : lv_has ls _ ([(3, .long (lN x.natAbs)), (2, .int (nI na)), (0, .ref h0), (1, .int (nI sn))])) => ?_)
        refine lv_aload_n hx hb dX12_worth_78 rfl (lv_at hl 2 rfl) ?_
        refine lv_iload_n hx hb dX12_worth_79 rfl (lv_at hl 3 rfl) ?_
        have hFc := allFree hD hS hA
        refine va_calli (va_runV (As := [.int (nI sn)]) (rest := []) ⟨hx, hb, hml, hown, hts⟩ (b_X12_sign l dC dI a k h0 vi vj vF vG sn mg hBg x (by rw [v_x]) (by first | with_reducible assumption | decide | omega | rfl | assumption) s.heap.size) (cwV 1 hts gwsRX12_worth_0 rfl rfl rfl hd_yX12_sign_RX12 (by decide +kernel)) (fz_pre (va_recv hK hP (ci := 12) (q0 := 0) rfl rfl) hP hK hD) rfl rfl hl.1 rfl (lv_room (Nat.le_of_ble_eq_true rfl)) dX12_worth_80 (by decide +kernel)) hS (fun q _ h => hFc q h) hFc (fun r80 u t9_ H locs ht hvm hw9 hB9 hz1 hk1 hS => ?_)
        have hP : va_P (dC, dI) vwCl (WR a k h0 vi vj vF vG) H := fz_P ht hB9.1
        have hD : va_D A (WR a k h0 vi vj vF vG) := hB9.2.weaken (fun _ q _ h => hFc q.1 h)
        have f80_0 := hw9
        try dsimp only at f80_0
        refine lv_if_ge (tgt := 91) hx hb dX12_worth_83 (by decide) (fun c_83 => ?_) (fun c_83 => ?_)
        · have t_83 : (r80).toInt ≥ 0 := toI_ge c_83 rfl (by decide)
          refine lv_lload_n hx hb dX12_worth_91 rfl (lv_at hl 0 rfl) ?_
          refine W.widen (k := 0) (n := 0) (by decide +kernel) (by decide +kernel) ?_
          exact W.lret (v := (lN x.natAbs)) hx hb hr (fun t9_ ht hW => ⟨⟨(lN x.natAbs), (), rfl, by (try dsimp only); exact Or.inl ⟨by rw [pk_lT (by omega)]; omega, hlt⟩, by rw [ht]; exact hP, hD⟩, hS.F ht⟩) hS.2.2 dX12_worth_92
        · have t_83 : ¬ (r80).toInt ≥ 0 := toI_nge c_83 rfl (by decide)
          refine lv_lload_n hx hb dX12_worth_86 rfl (lv_at hl 0 rfl) ?_
          refine lv_lneg hx hb dX12_worth_87 ?_
          refine lv_goto (tgt := 92) hx hb dX12_worth_88 (by decide) ?_
          refine W.widen (k := 0) (n := 0) (by decide +kernel) (by decide +kernel) ?_
          exact W.lret (v := (-(lN x.natAbs))) hx hb hr (fun t9_ ht hW => ⟨⟨(-(lN x.natAbs)), (), rfl, by (try dsimp only); exact Or.inl ⟨by rw [Int64.toInt_neg, pk_lT (by omega), Int.bmod_eq_of_le (by omega) (by omega)]; omega, hlt⟩, by rw [ht]; exact hP, hD⟩, hS.F ht⟩) hS.2.2 dX12_worth_92
      · have t_31 : ((na : Nat) : Int) = 1 := toI_nne c_31 (nI_toInt (by omega)) (by decide)
        obtain ⟨l0, hl0, el0⟩ := hna3 0 (by omega)
        refine lv_aload_n hx hb dX12_worth_34 rfl (lv_at hl 1 rfl) ?_
        refine va_get (D := (dC, dI)) (ci := 12) (v := .ref (a 0)) (C := RX12) (T := TX12) (N := 163) (fs := fM (vS a vi vj)) hx hb hts iwsRX12_worth_in12 hown hK hP 0 rfl rfl 1 (by decide) (hts (.fieldLink RX12 7 "OptimaWorksModel" "big" "[I") (by decide +kernel)) (fun _ h9 => h9) rfl dX12_worth_35 ?_
        refine lv_bipush (v := 24) hx hb dX12_worth_38 (by decide) ?_
        refine lv_iload_n hx hb dX12_worth_40 rfl (lv_at hl 2 rfl) ?_
        refine lv_imul hx hb dX12_worth_41 ?_
        refine lv_topi (fun y17 hy17 => ?_)
        obtain rfl : (nI (24 * sn)) = y17 := (hy17.trans (pk_mul 24 sn)).symm
        refine lv_iconst (v := 2) hx hb dX12_worth_42 (by decide) ?_
        refine lv_iadd hx hb dX12_worth_43 ?_
        refine lv_topi (fun y18 hy18 => ?_)
        obtain rfl : (nI ((24 * sn) + 2)) = y18 := (hy18.trans (nI_add (24 * sn) 2)).symm
        refine va_iald (cA := k 0) (n := 26400) (f := (vF 0)) hx hb hK hP 1 0 (WR_get 0 (by decide)) (TR_get 0 (by decide)) (vp_in_nI (show ((24 * sn) + 2) < 26400 by omega) (by omega)) dX12_worth_44 ?_
        refine lv_topi (fun y19 hy19 => ?_)
        obtain rfl : ((vF 0) ((24 * sn) + 2)) = y19 := (hy19.trans (by rw [nI_clamp (by omega)])).symm
        refine lv_topi (fun y20 hy20 => ?_)
        obtain rfl : (nI l0) = y20 := (hy20.trans (el0)).symm
        refine lv_i2l hx hb dX12_worth_45 rfl ?_
        refine lv_topl (fun y21 hy21 => ?_)
        obtain rfl : (lN l0) = y21 := (hy21.trans (nI_l (by omega))).symm
        refine lv_goto (tgt := 77) hx hb dX12_worth_46 (by decide) ?_
        have hlt : x.natAbs < 72057594037927936 := by rw [hna5]; exact limbs_lt (k := 2) hna3 (by omega)
        refine lv_topl (fun y22 hy22 => ?_)
        obtain rfl : (lN x.natAbs) = y22 := (hy22.trans (by rw [hna5, show na = 1 by omega]; simp only [lv28]; rw [el0, nI_clamp (by omega)]; congr 1; omega)).symm
        refine lv_lstore_n hx hb dX12_worth_77 rfl hl (by decide) rfl (fun ls (hl : lv_has ls _ ([(3, .long (lN x.natAbs)), (2, .int (nI na)), (0, .ref h0), (1, .int (nI sn))])) => ?_)
        refine lv_aload_n hx hb dX12_worth_78 rfl (lv_at hl 2 rfl) ?_
        refine lv_iload_n hx hb dX12_worth_79 rfl (lv_at hl 3 rfl) ?_
        have hFc := allFree hD hS hA
        refine va_calli (va_runV (As := [.int (nI sn)]) (rest := []) ⟨hx, hb, hml, hown, hts⟩ (b_X12_sign l dC dI a k h0 vi vj vF vG sn mg hBg x (by rw [v_x]) (by first | with_reducible assumption | decide | omega | rfl | assumption) s.heap.size) (cwV 1 hts gwsRX12_worth_0 rfl rfl rfl hd_yX12_sign_RX12 (by decide +kernel)) (fz_pre (va_recv hK hP (ci := 12) (q0 := 0) rfl rfl) hP hK hD) rfl rfl hl.1 rfl (lv_room (Nat.le_of_ble_eq_true rfl)) dX12_worth_80 (by decide +kernel)) hS (fun q _ h => hFc q h) hFc (fun r80_1 u t9_ H locs ht hvm hw9 hB9 hz1 hk1 hS => ?_)
        have hP : va_P (dC, dI) vwCl (WR a k h0 vi vj vF vG) H := fz_P ht hB9.1
        have hD : va_D A (WR a k h0 vi vj vF vG) := hB9.2.weaken (fun _ q _ h => hFc q.1 h)
        have f80_1_0 := hw9
        try dsimp only at f80_1_0
        refine lv_if_ge (tgt := 91) hx hb dX12_worth_83 (by decide) (fun c_83 => ?_) (fun c_83 => ?_)
        · have t_83 : (r80_1).toInt ≥ 0 := toI_ge c_83 rfl (by decide)
          refine lv_lload_n hx hb dX12_worth_91 rfl (lv_at hl 0 rfl) ?_
          refine W.widen (k := 0) (n := 0) (by decide +kernel) (by decide +kernel) ?_
          exact W.lret (v := (lN x.natAbs)) hx hb hr (fun t9_ ht hW => ⟨⟨(lN x.natAbs), (), rfl, by (try dsimp only); exact Or.inl ⟨by rw [pk_lT (by omega)]; omega, hlt⟩, by rw [ht]; exact hP, hD⟩, hS.F ht⟩) hS.2.2 dX12_worth_92
        · have t_83 : ¬ (r80_1).toInt ≥ 0 := toI_nge c_83 rfl (by decide)
          refine lv_lload_n hx hb dX12_worth_86 rfl (lv_at hl 0 rfl) ?_
          refine lv_lneg hx hb dX12_worth_87 ?_
          refine lv_goto (tgt := 92) hx hb dX12_worth_88 (by decide) ?_
          refine W.widen (k := 0) (n := 0) (by decide +kernel) (by decide +kernel) ?_
          exact W.lret (v := (-(lN x.natAbs))) hx hb hr (fun t9_ ht hW => ⟨⟨(-(lN x.natAbs)), (), rfl, by (try dsimp only); exact Or.inl ⟨by rw [Int64.toInt_neg, pk_lT (by omega), Int.bmod_eq_of_le (by omega) (by omega)]; omega, hlt⟩, by rw [ht]; exact hP, hD⟩, hS.F ht⟩) hS.2.2 dX12_worth_92
    · have t_22 : ((na : Nat) : Int) = 0 := toI_nne c_22 (nI_toInt (by omega)) (by decide)
      refine lv_lconst (v := 0) hx hb dX12_worth_25 (by decide) ?_
      refine lv_goto (tgt := 77) hx hb dX12_worth_26 (by decide) ?_
      have hlt : x.natAbs < 72057594037927936 := by rw [hna5]; exact limbs_lt (k := 2) hna3 (by omega)
      refine lv_topl (fun y23 hy23 => ?_)
      obtain rfl : (lN x.natAbs) = y23 := (hy23.trans (by rw [hna5, show na = 0 by omega]; rfl)).symm
      refine lv_lstore_n hx hb dX12_worth_77 rfl hl (by decide) rfl (fun ls (hl : lv_has ls _ ([(3, .long (lN x.natAbs)), (2, .int (nI na)), (0, .ref h0), (1, .int (nI sn))])) => ?_)
      refine lv_aload_n hx hb dX12_worth_78 rfl (lv_at hl 2 rfl) ?_
      refine lv_iload_n hx hb dX12_worth_79 rfl (lv_at hl 3 rfl) ?_
      have hFc := allFree hD hS hA
      refine va_calli (va_runV (As := [.int (nI sn)]) (rest := []) ⟨hx, hb, hml, hown, hts⟩ (b_X12_sign l dC dI a k h0 vi vj vF vG sn mg hBg x (by rw [v_x]) (by first | with_reducible assumption | decide | omega | rfl | assumption) s.heap.size) (cwV 1 hts gwsRX12_worth_0 rfl rfl rfl hd_yX12_sign_RX12 (by decide +kernel)) (fz_pre (va_recv hK hP (ci := 12) (q0 := 0) rfl rfl) hP hK hD) rfl rfl hl.1 rfl (lv_room (Nat.le_of_ble_eq_true rfl)) dX12_worth_80 (by decide +kernel)) hS (fun q _ h => hFc q h) hFc (fun r80_2 u t9_ H locs ht hvm hw9 hB9 hz1 hk1 hS => ?_)
      have hP : va_P (dC, dI) vwCl (WR a k h0 vi vj vF vG) H := fz_P ht hB9.1
      have hD : va_D A (WR a k h0 vi vj vF vG) := hB9.2.weaken (fun _ q _ h => hFc q.1 h)
      have f80_2_0 := hw9
      try dsimp only at f80_2_0
      refine lv_if_ge (tgt := 91) hx hb dX12_worth_83 (by decide) (fun c_83 => ?_) (fun c_83 => ?_)
      · have t_83 : (r80_2).toInt ≥ 0 := toI_ge c_83 rfl (by decide)
        refine lv_lload_n hx hb dX12_worth_91 rfl (lv_at hl 0 rfl) ?_
        refine W.widen (k := 0) (n := 0) (by decide +kernel) (by decide +kernel) ?_
        exact W.lret (v := (lN x.natAbs)) hx hb hr (fun t9_ ht hW => ⟨⟨(lN x.natAbs), (), rfl, by (try dsimp only); exact Or.inl ⟨by rw [pk_lT (by omega)]; omega, hlt⟩, by rw [ht]; exact hP, hD⟩, hS.F ht⟩) hS.2.2 dX12_worth_92
      · have t_83 : ¬ (r80_2).toInt ≥ 0 := toI_nge c_83 rfl (by decide)
        refine lv_lload_n hx hb dX12_worth_86 rfl (lv_at hl 0 rfl) ?_
        refine lv_lneg hx hb dX12_worth_87 ?_
        refine lv_goto (tgt := 92) hx hb dX12_worth_88 (by decide) ?_
        refine W.widen (k := 0) (n := 0) (by decide +kernel) (by decide +kernel) ?_
        exact W.lret (v := (-(lN x.natAbs))) hx hb hr (fun t9_ ht hW => ⟨⟨(-(lN x.natAbs)), (), rfl, by (try dsimp only); exact Or.inl ⟨by rw [Int64.toInt_neg, pk_lT (by omega), Int.bmod_eq_of_le (by omega) (by omega)]; omega, hlt⟩, by rw [ht]; exact hP, hD⟩, hS.F ht⟩) hS.2.2 dX12_worth_92
  · have t_14 : ¬ ((na : Nat) : Int) ≤ 2 := toI_nle c_14 (nI_toInt (by omega)) (by decide)
    refine lv_ldc2 (v := 2147483648) hx hb hown (hts (.constantLong RX12 422 2147483648) (by decide +kernel)) dX12_worth_17 ?_
    refine W.widen (k := 0) (n := 0) (by decide +kernel) (by decide +kernel) ?_
    exact W.lret (v := 2147483648) hx hb hr (fun t9_ ht hW => ⟨⟨2147483648, (), rfl, by (try dsimp only); exact Or.inr ⟨by decide, worth_big (by omega) hna3 hna4 hna5⟩, by rw [ht]; exact hP, hD⟩, hS.F ht⟩) hS.2.2 dX12_worth_20
theorem dX12_small_0 : decode cX12_small 0 = .ok (.aload_n 0, 1) := dk_42 (by decide +kernel)
theorem dX12_small_1 : decode cX12_small 1 = .ok (.getfield 7, 3) := dk_180 (by decide +kernel)
theorem dX12_small_4 : decode cX12_small 4 = .ok (.bipush 24, 2) := dk_16 (by decide +kernel)
theorem dX12_small_6 : decode cX12_small 6 = .ok (.iload_n 1, 1) := dk_27 (by decide +kernel)
theorem dX12_small_7 : decode cX12_small 7 = .ok (.imul, 1) := dk_104 (by decide +kernel)
theorem dX12_small_8 : decode cX12_small 8 = .ok (.iconst 1, 1) := dk_4 (by decide +kernel)
theorem dX12_small_9 : decode cX12_small 9 = .ok (.iadd, 1) := dk_96 (by decide +kernel)
theorem dX12_small_10 : decode cX12_small 10 = .ok (.iaload, 1) := dk_46 (by decide +kernel)
theorem dX12_small_11 : decode cX12_small 11 = .ok (.istore_n 2, 1) := dk_61 (by decide +kernel)
theorem dX12_small_12 : decode cX12_small 12 = .ok (.iload_n 2, 1) := dk_28 (by decide +kernel)
theorem dX12_small_13 : decode cX12_small 13 = .ok (.ifCond .ne 7, 3) := dk_154 (by decide +kernel)
theorem dX12_small_16 : decode cX12_small 16 = .ok (.iconst 0, 1) := dk_3 (by decide +kernel)
theorem dX12_small_17 : decode cX12_small 17 = .ok (.goto 14, 3) := dk_167 (by decide +kernel)
theorem dX12_small_20 : decode cX12_small 20 = .ok (.aload_n 0, 1) := dk_42 (by decide +kernel)
theorem dX12_small_21 : decode cX12_small 21 = .ok (.getfield 7, 3) := dk_180 (by decide +kernel)
theorem dX12_small_24 : decode cX12_small 24 = .ok (.bipush 24, 2) := dk_16 (by decide +kernel)
theorem dX12_small_26 : decode cX12_small 26 = .ok (.iload_n 1, 1) := dk_27 (by decide +kernel)
theorem dX12_small_27 : decode cX12_small 27 = .ok (.imul, 1) := dk_104 (by decide +kernel)
theorem dX12_small_28 : decode cX12_small 28 = .ok (.iconst 2, 1) := dk_5 (by decide +kernel)
theorem dX12_small_29 : decode cX12_small 29 = .ok (.iadd, 1) := dk_96 (by decide +kernel)
theorem dX12_small_30 : decode cX12_small 30 = .ok (.iaload, 1) := dk_46 (by decide +kernel)
theorem dX12_small_31 : decode cX12_small 31 = .ok (.istore_n 3, 1) := dk_62 (by decide +kernel)
theorem dX12_small_32 : decode cX12_small 32 = .ok (.aload_n 0, 1) := dk_42 (by decide +kernel)
theorem dX12_small_33 : decode cX12_small 33 = .ok (.iload_n 1, 1) := dk_27 (by decide +kernel)
theorem dX12_small_34 : decode cX12_small 34 = .ok (.invokevirtual 353, 3) := dk_182 (by decide +kernel)
theorem dX12_small_37 : decode cX12_small 37 = .ok (.iload_n 3, 1) := dk_29 (by decide +kernel)
theorem dX12_small_38 : decode cX12_small 38 = .ok (.imul, 1) := dk_104 (by decide +kernel)
theorem dX12_small_39 : decode cX12_small 39 = .ok (.ireturn, 1) := dk_172 (by decide +kernel)
def wsRX12_small : List Cond := .code yX12_small cX12_small 4 (some .int) :: ([.fieldLink RX12 7 "OptimaWorksModel" "big" "[I"] ++ wsX120 ++ (wsV RX12 353 RX12 yX12_sign wsRX12_sign))
theorem iwsRX12_small_in12 : ∀ w ∈ wsX120, w ∈ wsRX12_small := fun _ h => List.mem_cons_of_mem _ (List.mem_append_left _ (List.mem_append_right _ h))
theorem gwsRX12_small_0 : GoodIn wsRX12_small (wsV RX12 353 RX12 yX12_sign wsRX12_sign) := goodIn_sub (fun _ h => List.mem_cons_of_mem _ (List.mem_append_right _ h)) (gdV (by decide +kernel) gdwsRX12_sign)
theorem gdwsRX12_small : wsRX12_small.all goodWord = true := gdC rfl (gdA (gdA (by decide +kernel : ([.fieldLink RX12 7 "OptimaWorksModel" "big" "[I"] : List Cond).all goodWord = true) gdwsX120) (gdV (by decide +kernel) gdwsRX12_sign))
set_option maxHeartbeats 4000000 in
set_option maxRecDepth 100000 in
/-- small(s) -/
theorem r_X12_small (l : Launch) (dC : Nat → ClassId) (dI : Nat → Nat → Nat) (a : Nat → Nat) (k : Nat → ClassId) (h0 : Nat) (vi : Nat → Int32) (vj : Nat → Int64) (vF : Nat → Nat → Int32) (vG : Nat → Nat → Int64) (sn : Nat) (mg : Nat → Int) (hBg : Bg (vF 0) mg) (x : Int) (v_x : mg sn = x) (hs : sn < 1100) (sz : Nat) : Met l yX12_small wsRX12_small ({ frames := 1, cells := 0, slots := 0, locals := 21 }) (va_Pc [.ref h0, .int (nI sn)] (fun U => U.heap.size = sz ∧ va_P (dC, dI) vwCl (WR a k h0 vi vj vF vG) U.heap ∧ va_K (dC, dI) vwCl (tX12 k) U ∧ va_D (fun _ => True) (WR a k h0 vi vj vF vG))) (va_Qi (fun (r : Int32) (u : Unit) => (-268435456 < (r).toInt ∧ (r).toInt < 268435456) ∧ (x.natAbs < 268435456 → (r).toInt = x)) (fun (u : Unit) t => va_P (dC, dI) vwCl (WR a k h0 vi vj vF vG) t.heap ∧ va_D (va_A (WR a k h0 vi vj vF vG) sz) (WR a k h0 vi vj vF vG)) (va_A (WR a k h0 vi vj vF vG) sz)) 0 0 (va_A (WR a k h0 vi vj vF vG) sz) := by
  refine Met.ofW (cc := cX12_small) (maxL := 4) (ret := (some .int)) (by decide) rfl ?_
  intro p e s m args below meth c s₁ B hml hv
  obtain ⟨rfl, hsz, hP, hK, hD0⟩ := hv
  have hx := B.exec
  have hb := B.bytes
  have hr := B.returns
  have hts := atoms_spec (ws := wsRX12_small) B.pre
  have hown : s.vm.findClass RX12 = some m.cls := findClass_of_methodNamed B.named
  have hlocks := B.notSynchronized
  subst hsz
  have hD := hD0.self (sz := s.heap.size)
  generalize hAe : va_A (WR a k h0 vi vj vF vG) s.heap.size = A at hD ⊢
  have hA : ∀ q : Nat, s.heap.size ≤ q → A q := fun q h => by rw [← hAe]; exact Or.inr h
  have hS : va_S A s.heap s.heap [] := va_S.rf
  have hl := lv_entry ([.ref h0, .int (nI sn)]) (n := 4) (Nat.le_of_ble_eq_true rfl)
  rw [lg_entry_eq]
  generalize (lg_sl ([.ref h0, .int (nI sn)]) ++ List.replicate (4 - (lg_sl ([.ref h0, .int (nI sn)])).length) Slot.unset).toArray = ls at hl ⊢
  have hl : lv_has ls 4 [(0, .ref h0), (1, .int (nI sn))] := hl
  obtain ⟨na, hna1, hna2, hna3, hna4, hna5, hna6⟩ := hBg sn hs
  rw [v_x] at hna5 hna6
  refine lv_aload_n hx hb dX12_small_0 rfl (lv_at hl 0 rfl) ?_
  refine va_get (D := (dC, dI)) (ci := 12) (v := .ref (a 0)) (C := RX12) (T := TX12) (N := 163) (fs := fM (vS a vi vj)) hx hb hts iwsRX12_small_in12 hown hK hP 0 rfl rfl 1 (by decide) (hts (.fieldLink RX12 7 "OptimaWorksModel" "big" "[I") (by decide +kernel)) (fun _ h9 => h9) rfl dX12_small_1 ?_
  refine lv_bipush (v := 24) hx hb dX12_small_4 (by decide) ?_
  refine lv_iload_n hx hb dX12_small_6 rfl (lv_at hl 1 rfl) ?_
  refine lv_imul hx hb dX12_small_7 ?_
  refine lv_topi (fun y1 hy1 => ?_)
  obtain rfl : (nI (24 * sn)) = y1 := (hy1.trans (pk_mul 24 sn)).symm
  refine lv_iconst (v := 1) hx hb dX12_small_8 (by decide) ?_
  refine lv_iadd hx hb dX12_small_9 ?_
  refine lv_topi (fun y2 hy2 => ?_)
  obtain rfl : (nI ((24 * sn) + 1)) = y2 := (hy2.trans (nI_add (24 * sn) 1)).symm
  refine va_iald (cA := k 0) (n := 26400) (f := (vF 0)) hx hb hK hP 1 0 (WR_get 0 (by decide)) (TR_get 0 (by decide)) (vp_in_nI (show ((24 * sn) + 1) < 26400 by omega) (by omega)) dX12_small_10 ?_
  refine lv_topi (fun y3 hy3 => ?_)
  obtain rfl : ((vF 0) ((24 * sn) + 1)) = y3 := (hy3.trans (by rw [nI_clamp (by omega)])).symm
  refine lv_topi (fun y4 hy4 => ?_)
  obtain rfl : (nI na) = y4 := (hy4.trans (hna2)).symm
  refine lv_istore_n hx hb dX12_small_11 rfl hl (by decide) rfl (fun ls (hl : lv_has ls _ ([(2, .int (nI na)), (0, .ref h0), (1, .int (nI sn))])) => ?_)
  refine lv_iload_n hx hb dX12_small_12 rfl (lv_at hl 0 rfl) ?_
  refine lv_if_ne (tgt := 20) hx hb dX12_small_13 (by decide) (fun c_13 => ?_) (fun c_13 => ?_)
  · have t_13 : ((na : Nat) : Int) ≠ 0 := toI_ne c_13 (nI_toInt (by omega)) (by decide)
    obtain ⟨l0, hl0, el0⟩ := hna3 0 (by omega)
    refine lv_aload_n hx hb dX12_small_20 rfl (lv_at hl 1 rfl) ?_
    refine va_get (D := (dC, dI)) (ci := 12) (v := .ref (a 0)) (C := RX12) (T := TX12) (N := 163) (fs := fM (vS a vi vj)) hx hb hts iwsRX12_small_in12 hown hK hP 0 rfl rfl 1 (by decide) (hts (.fieldLink RX12 7 "OptimaWorksModel" "big" "[I") (by decide +kernel)) (fun _ h9 => h9) rfl dX12_small_21 ?_
    refine lv_bipush (v := 24) hx hb dX12_small_24 (by decide) ?_
    refine lv_iload_n hx hb dX12_small_26 rfl (lv_at hl 2 rfl) ?_
    refine lv_imul hx hb dX12_small_27 ?_
    refine lv_topi (fun y5 hy5 => ?_)
    obtain rfl : (nI (24 * sn)) = y5 := (hy5.trans (pk_mul 24 sn)).symm
    refine lv_iconst (v := 2) hx hb dX12_small_28 (by decide) ?_
    refine lv_iadd hx hb dX12_small_29 ?_
    refine lv_topi (fun y6 hy6 => ?_)
    obtain rfl : (nI ((24 * sn) + 2)) = y6 := (hy6.trans (nI_add (24 * sn) 2)).symm
    refine va_iald (cA := k 0) (n := 26400) (f := (vF 0)) hx hb hK hP 1 0 (WR_get 0 (by decide)) (TR_get 0 (by decide)) (vp_in_nI (show ((24 * sn) + 2) < 26400 by omega) (by omega)) dX12_small_30 ?_
    refine lv_topi (fun y7 hy7 => ?_)
    obtain rfl : ((vF 0) ((24 * sn) + 2)) = y7 := (hy7.trans (by rw [nI_clamp (by omega)])).symm
    refine lv_topi (fun y8 hy8 => ?_)
    obtain rfl : (nI l0) = y8 := (hy8.trans (el0)).symm
    refine lv_istore_n hx hb dX12_small_31 rfl hl (by decide) rfl (fun ls (hl : lv_has ls _ ([(3, .int (nI l0)), (2, .int (nI na)), (0, .ref h0), (1, .int (nI sn))])) => ?_)
    refine lv_aload_n hx hb dX12_small_32 rfl (lv_at hl 2 rfl) ?_
    refine lv_iload_n hx hb dX12_small_33 rfl (lv_at hl 3 rfl) ?_
    have hFc := allFree hD hS hA
    refine va_calli (va_runV (As := [.int (nI sn)]) (rest := []) ⟨hx, hb, hml, hown, hts⟩ (b_X12_sign l dC dI a k h0 vi vj vF vG sn mg hBg x (by rw [v_x]) (by first | with_reducible assumption | decide | omega | rfl | assumption) s.heap.size) (cwV 1 hts gwsRX12_small_0 rfl rfl rfl hd_yX12_sign_RX12 (by decide +kernel)) (fz_pre (va_recv hK hP (ci := 12) (q0 := 0) rfl rfl) hP hK hD) rfl rfl hl.1 rfl (lv_room (Nat.le_of_ble_eq_true rfl)) dX12_small_34 (by decide +kernel)) hS (fun q _ h => hFc q h) hFc (fun r34 u t9_ H locs ht hvm hw9 hB9 hz1 hk1 hS => ?_)
    have hP : va_P (dC, dI) vwCl (WR a k h0 vi vj vF vG) H := fz_P ht hB9.1
    have hD : va_D A (WR a k h0 vi vj vF vG) := hB9.2.weaken (fun _ q _ h => hFc q.1 h)
    have f34_0 := hw9
    try dsimp only at f34_0
    refine lv_iload_n hx hb dX12_small_37 rfl (lv_at hl 0 rfl) ?_
    refine lv_imul hx hb dX12_small_38 ?_
    refine W.widen (k := 0) (n := 0) (by decide +kernel) (by decide +kernel) ?_
    exact W.iret (v := (r34 * (nI l0))) hx hb hr (fun t9_ ht hW => ⟨⟨(r34 * (nI l0)), (), rfl, by (try dsimp only); (have e7 : (nI l0).toInt = (l0 : Int) := nI_toInt (by omega)); (have e8 : (r34 * nI l0).toInt = (r34).toInt * (nI l0).toInt := mulS3 (by omega) (by omega)); rw [e7] at e8; refine ⟨?_, fun hb => ?_⟩ <;> (try (have el := small_low (by omega) hna3 hna4 hna5 el0 hl0 hb)) <;> (have e6 : (r34).toInt = 0 ∨ (r34).toInt = 1 ∨ (r34).toInt = -1 := by omega) <;> rcases e6 with e6 | e6 | e6 <;> rw [e6] at e8 <;> omega, by rw [ht]; exact hP, hD⟩, hS.F ht⟩) hS.2.2 dX12_small_39
  · have t_13 : ((na : Nat) : Int) = 0 := toI_nne c_13 (nI_toInt (by omega)) (by decide)
    refine lv_iconst (v := 0) hx hb dX12_small_16 (by decide) ?_
    refine lv_goto (tgt := 31) hx hb dX12_small_17 (by decide) ?_
    refine lv_istore_n hx hb dX12_small_31 rfl hl (by decide) rfl (fun ls (hl : lv_has ls _ ([(3, .int 0), (2, .int (nI na)), (0, .ref h0), (1, .int (nI sn))])) => ?_)
    refine lv_aload_n hx hb dX12_small_32 rfl (lv_at hl 2 rfl) ?_
    refine lv_iload_n hx hb dX12_small_33 rfl (lv_at hl 3 rfl) ?_
    have hFc := allFree hD hS hA
    refine va_calli (va_runV (As := [.int (nI sn)]) (rest := []) ⟨hx, hb, hml, hown, hts⟩ (b_X12_sign l dC dI a k h0 vi vj vF vG sn mg hBg x (by rw [v_x]) (by first | with_reducible assumption | decide | omega | rfl | assumption) s.heap.size) (cwV 1 hts gwsRX12_small_0 rfl rfl rfl hd_yX12_sign_RX12 (by decide +kernel)) (fz_pre (va_recv hK hP (ci := 12) (q0 := 0) rfl rfl) hP hK hD) rfl rfl hl.1 rfl (lv_room (Nat.le_of_ble_eq_true rfl)) dX12_small_34 (by decide +kernel)) hS (fun q _ h => hFc q h) hFc (fun r34_1 u t9_ H locs ht hvm hw9 hB9 hz1 hk1 hS => ?_)
    have hP : va_P (dC, dI) vwCl (WR a k h0 vi vj vF vG) H := fz_P ht hB9.1
    have hD : va_D A (WR a k h0 vi vj vF vG) := hB9.2.weaken (fun _ q _ h => hFc q.1 h)
    have f34_1_0 := hw9
    try dsimp only at f34_1_0
    refine lv_iload_n hx hb dX12_small_37 rfl (lv_at hl 0 rfl) ?_
    refine lv_imul hx hb dX12_small_38 ?_
    refine W.widen (k := 0) (n := 0) (by decide +kernel) (by decide +kernel) ?_
    exact W.iret (v := (r34_1 * 0)) hx hb hr (fun t9_ ht hW => ⟨⟨(r34_1 * 0), (), rfl, by (try dsimp only); (have x0 : x = 0 := by (have e9 : x.natAbs = 0 := by rw [hna5, show na = 0 by omega]; rfl); omega); (have e8 : (r34_1 * 0).toInt = 0 := by rw [Int32.mul_zero]; decide); exact ⟨by omega, fun _ => by omega⟩, by rw [ht]; exact hP, hD⟩, hS.F ht⟩) hS.2.2 dX12_small_39
theorem dX12_common1_0 : decode cX12_common1 0 = .ok (.lload_n 0, 1) := dk_30 (by decide +kernel)
theorem dX12_common1_1 : decode cX12_common1 1 = .ok (.lconst 0, 1) := dk_9 (by decide +kernel)
theorem dX12_common1_2 : decode cX12_common1 2 = .ok (.lcmp, 1) := dk_148 (by decide +kernel)
theorem dX12_common1_3 : decode cX12_common1 3 = .ok (.ifCond .ge 8, 3) := dk_156 (by decide +kernel)
theorem dX12_common1_6 : decode cX12_common1 6 = .ok (.lload_n 0, 1) := dk_30 (by decide +kernel)
theorem dX12_common1_7 : decode cX12_common1 7 = .ok (.lneg, 1) := dk_117 (by decide +kernel)
theorem dX12_common1_8 : decode cX12_common1 8 = .ok (.goto 4, 3) := dk_167 (by decide +kernel)
theorem dX12_common1_11 : decode cX12_common1 11 = .ok (.lload_n 0, 1) := dk_30 (by decide +kernel)
theorem dX12_common1_12 : decode cX12_common1 12 = .ok (.lstore 4, 2) := dk_55 (by decide +kernel)
theorem dX12_common1_14 : decode cX12_common1 14 = .ok (.lload_n 2, 1) := dk_32 (by decide +kernel)
theorem dX12_common1_15 : decode cX12_common1 15 = .ok (.lconst 0, 1) := dk_9 (by decide +kernel)
theorem dX12_common1_16 : decode cX12_common1 16 = .ok (.lcmp, 1) := dk_148 (by decide +kernel)
theorem dX12_common1_17 : decode cX12_common1 17 = .ok (.ifCond .ge 8, 3) := dk_156 (by decide +kernel)
theorem dX12_common1_20 : decode cX12_common1 20 = .ok (.lload_n 2, 1) := dk_32 (by decide +kernel)
theorem dX12_common1_21 : decode cX12_common1 21 = .ok (.lneg, 1) := dk_117 (by decide +kernel)
theorem dX12_common1_22 : decode cX12_common1 22 = .ok (.goto 4, 3) := dk_167 (by decide +kernel)
theorem dX12_common1_25 : decode cX12_common1 25 = .ok (.lload_n 2, 1) := dk_32 (by decide +kernel)
theorem dX12_common1_26 : decode cX12_common1 26 = .ok (.lstore 6, 2) := dk_55 (by decide +kernel)
theorem dX12_common1_28 : decode cX12_common1 28 = .ok (.lload 6, 2) := dk_22 (by decide +kernel)
theorem dX12_common1_30 : decode cX12_common1 30 = .ok (.lconst 0, 1) := dk_9 (by decide +kernel)
theorem dX12_common1_31 : decode cX12_common1 31 = .ok (.lcmp, 1) := dk_148 (by decide +kernel)
theorem dX12_common1_32 : decode cX12_common1 32 = .ok (.ifCond .le 21, 3) := dk_158 (by decide +kernel)
theorem dX12_common1_35 : decode cX12_common1 35 = .ok (.lload 4, 2) := dk_22 (by decide +kernel)
theorem dX12_common1_37 : decode cX12_common1 37 = .ok (.lload 6, 2) := dk_22 (by decide +kernel)
theorem dX12_common1_39 : decode cX12_common1 39 = .ok (.lrem, 1) := dk_113 (by decide +kernel)
theorem dX12_common1_40 : decode cX12_common1 40 = .ok (.lstore 8, 2) := dk_55 (by decide +kernel)
theorem dX12_common1_42 : decode cX12_common1 42 = .ok (.lload 6, 2) := dk_22 (by decide +kernel)
theorem dX12_common1_44 : decode cX12_common1 44 = .ok (.lstore 4, 2) := dk_55 (by decide +kernel)
theorem dX12_common1_46 : decode cX12_common1 46 = .ok (.lload 8, 2) := dk_22 (by decide +kernel)
theorem dX12_common1_48 : decode cX12_common1 48 = .ok (.lstore 6, 2) := dk_55 (by decide +kernel)
theorem dX12_common1_50 : decode cX12_common1 50 = .ok (.goto (-22), 3) := dk_167 (by decide +kernel)
theorem dX12_common1_53 : decode cX12_common1 53 = .ok (.lload 4, 2) := dk_22 (by decide +kernel)
theorem dX12_common1_55 : decode cX12_common1 55 = .ok (.lreturn, 1) := dk_173 (by decide +kernel)
def wsRX12_common1 : List Cond := .code yX12_common1 cX12_common1 10 (some .long) :: ([])
theorem gdwsRX12_common1 : wsRX12_common1.all goodWord = true := gdC rfl (by decide +kernel : ([] : List Cond).all goodWord = true)
set_option maxHeartbeats 4000000 in
set_option maxRecDepth 100000 in
/-- common1(a, b) -/
theorem r_X12_common1 (l : Launch) (dC : Nat → ClassId) (dI : Nat → Nat → Nat) (xa : Int64) (xb : Int64) (hxa : -4611686018427387904 < xa.toInt ∧ xa.toInt < 4611686018427387904) (hxb : -4611686018427387904 < xb.toInt ∧ xb.toInt < 4611686018427387904) (sz : Nat) : Met l yX12_common1 wsRX12_common1 ({ frames := 0, cells := 0, slots := 0, locals := 0 }) (va_Pc [.long xa, .long xb] (fun U => U.heap.size = sz ∧ va_P (dC, dI) vwCl [] U.heap ∧ va_K (dC, dI) vwCl [] U ∧ va_D (fun _ => True) [])) (va_Ql (fun (r : Int64) (u : Unit) => ((r).toInt = ((Int.gcd (xa).toInt (xb).toInt : Nat) : Int))) (fun (u : Unit) t => True) (va_A [] sz)) 0 0 (va_A [] sz) := by
  refine Met.ofW (cc := cX12_common1) (maxL := 10) (ret := (some .long)) (by decide) rfl ?_
  intro p e s m args below meth c s₁ B hml hv
  obtain ⟨rfl, hsz, hP, hK, hD0⟩ := hv
  have hx := B.exec
  have hb := B.bytes
  have hr := B.returns
  have hts := atoms_spec (ws := wsRX12_common1) B.pre
  have hown : s.vm.findClass RX12 = some m.cls := findClass_of_methodNamed B.named
  have hlocks := B.notSynchronized
  subst hsz
  have hD := hD0.self (sz := s.heap.size)
  generalize hAe : va_A [] s.heap.size = A at hD ⊢
  have hA : ∀ q : Nat, s.heap.size ≤ q → A q := fun q h => by rw [← hAe]; exact Or.inr h
  have hS : va_S A s.heap s.heap [] := va_S.rf
  have hl := lv_entry ([.long xa, .long xb]) (n := 10) (Nat.le_of_ble_eq_true rfl)
  rw [lg_entry_eq]
  generalize (lg_sl ([.long xa, .long xb]) ++ List.replicate (10 - (lg_sl ([.long xa, .long xb])).length) Slot.unset).toArray = ls at hl ⊢
  have hl : lv_has ls 10 [(0, .long xa), (2, .long xb)] := hl
  refine lv_lload_n hx hb dX12_common1_0 rfl (lv_at hl 0 rfl) ?_
  refine lv_lconst (v := 0) hx hb dX12_common1_1 (by decide) ?_
  refine W.lcmp hx hb dX12_common1_2 ?_
  refine lv_if_ge (tgt := 11) hx hb dX12_common1_3 (by decide) (fun c_3 => ?_) (fun c_3 => ?_)
  · have t_3 : (xa).toInt ≥ 0 := toL_ge c_3 rfl (by decide)
    refine lv_lload_n hx hb dX12_common1_11 rfl (lv_at hl 0 rfl) ?_
    obtain ⟨n1, hn1⟩ : ∃ n1, n1 = xa.toInt.natAbs := ⟨_, rfl⟩
    refine lv_topl (fun y1 hy1 => ?_)
    obtain rfl : (lN n1) = y1 := (hy1.trans (by rw [hn1]; exact posL (by omega))).symm
    refine lv_lstore hx hb dX12_common1_12 hl (by decide) rfl (fun ls (hl : lv_has ls _ ([(4, .long (lN n1)), (0, .long xa), (2, .long xb)])) => ?_)
    refine lv_lload_n hx hb dX12_common1_14 rfl (lv_at hl 2 rfl) ?_
    refine lv_lconst (v := 0) hx hb dX12_common1_15 (by decide) ?_
    refine W.lcmp hx hb dX12_common1_16 ?_
    refine lv_if_ge (tgt := 25) hx hb dX12_common1_17 (by decide) (fun c_17 => ?_) (fun c_17 => ?_)
    · have t_17 : (xb).toInt ≥ 0 := toL_ge c_17 rfl (by decide)
      refine lv_lload_n hx hb dX12_common1_25 rfl (lv_at hl 2 rfl) ?_
      obtain ⟨n2, hn2⟩ : ∃ n2, n2 = xb.toInt.natAbs := ⟨_, rfl⟩
      refine lv_topl (fun y2 hy2 => ?_)
      obtain rfl : (lN n2) = y2 := (hy2.trans (by rw [hn2]; exact posL (by omega))).symm
      refine lv_lstore hx hb dX12_common1_26 hl (by decide) rfl (fun ls (hl : lv_has ls _ ([(6, .long (lN n2)), (4, .long (lN n1)), (0, .long xa), (2, .long xb)])) => ?_)
      have hl : lv_has _ _ ([(4, .long (lN n1)), (6, .long (lN n2))]) := lv_sub hl [1, 0] rfl
      refine (fun (loop : ∀ (n9 : Nat) (x : Nat) (y : Nat) (H : Heap) (locs : List Loc) (ls : Array Slot), (Nat.gcd x y = Int.gcd xa.toInt xb.toInt) → (x < 4611686018427387904) → (y < 4611686018427387904) →  (y < n9) → va_P (dC, dI) vwCl ([]) H → va_D A ([]) → va_S A s.heap H locs → lv_has ls 10 [(4, .long (lN x)), (6, .long (lN y))] → W p l e _ s m _ below meth c H locs 0 0 _ (F0 m 28 ls [])) => loop (n2 + 1) n1 n2 _ _ _ (by rw [hn1, hn2]; rfl) (by omega) (by omega) (by omega) hP hD hS hl) ?_
      intro n9
      induction n9 with
      | zero => intro x y H locs ls hg hx6 hy6 hf9; exact False.elim (by omega)
      | succ n9 ih28 =>
        intro x y H locs ls hg hx6 hy6 hf28 hP hD hS hl
        refine lv_lload hx hb dX12_common1_28 (lv_at hl 1 rfl) ?_
        refine lv_lconst (v := 0) hx hb dX12_common1_30 (by decide) ?_
        refine W.lcmp hx hb dX12_common1_31 ?_
        refine lv_if_le (tgt := 53) hx hb dX12_common1_32 (by decide) (fun c_32 => ?_) (fun c_32 => ?_)
        · have t_32 : ((y : Nat) : Int) ≤ 0 := toL_le c_32 (pk_lT (by omega)) (by decide)
          refine lv_lload hx hb dX12_common1_53 (lv_at hl 0 rfl) ?_
          refine W.widen (k := 0) (n := 0) (by decide +kernel) (by decide +kernel) ?_
          exact W.lret (v := (lN x)) hx hb hr (fun t9_ ht hW => ⟨⟨(lN x), (), rfl, by (try dsimp only); rw [pk_lT (by omega), ← hg, show y = 0 by omega, Nat.gcd_zero_right], trivial⟩, hS.F ht⟩) hS.2.2 dX12_common1_55
        · have t_32 : ¬ ((y : Nat) : Int) ≤ 0 := toL_nle c_32 (pk_lT (by omega)) (by decide)
          refine lv_lload hx hb dX12_common1_35 (lv_at hl 0 rfl) ?_
          refine lv_lload hx hb dX12_common1_37 (lv_at hl 1 rfl) ?_
          refine lv_lrem hx hb dX12_common1_39 (by exact lN_ne0 (by omega) (by omega)) ?_
          refine lv_topl (fun y3 hy3 => ?_)
          obtain rfl : (lN (x % y)) = y3 := (hy3.trans (lN_rem (a := x) (b := y) (by omega) (by omega) (by omega))).symm
          refine lv_lstore hx hb dX12_common1_40 hl (by decide) rfl (fun ls (hl : lv_has ls _ ([(8, .long (lN (x % y))), (4, .long (lN x)), (6, .long (lN y))])) => ?_)
          refine lv_lload hx hb dX12_common1_42 (lv_at hl 2 rfl) ?_
          refine lv_lstore hx hb dX12_common1_44 hl (by decide) rfl (fun ls (hl : lv_has ls _ ([(4, .long (lN y)), (8, .long (lN (x % y))), (6, .long (lN y))])) => ?_)
          refine lv_lload hx hb dX12_common1_46 (lv_at hl 1 rfl) ?_
          refine lv_lstore hx hb dX12_common1_48 hl (by decide) rfl (fun ls (hl : lv_has ls _ ([(6, .long (lN (x % y))), (4, .long (lN y)), (8, .long (lN (x % y)))])) => ?_)
          refine lv_goto (tgt := 28) hx hb dX12_common1_50 (by decide) ?_
          have hl : lv_has _ _ ([(4, .long (lN y)), (6, .long (lN (x % y)))]) := lv_sub hl [1, 0] rfl
          exact ih28 y (x % y) _ _ _ ((gcd_stepN x y).trans hg) (by omega) (by (have h9 := Nat.mod_lt x (show 0 < y by omega)); omega) (by (have h9 := Nat.mod_lt x (show 0 < y by omega)); omega) hP hD hS hl
    · have t_17 : ¬ (xb).toInt ≥ 0 := toL_nge c_17 rfl (by decide)
      refine lv_lload_n hx hb dX12_common1_20 rfl (lv_at hl 2 rfl) ?_
      refine lv_lneg hx hb dX12_common1_21 ?_
      refine lv_goto (tgt := 26) hx hb dX12_common1_22 (by decide) ?_
      obtain ⟨n2, hn2⟩ : ∃ n2, n2 = xb.toInt.natAbs := ⟨_, rfl⟩
      refine lv_topl (fun y4 hy4 => ?_)
      obtain rfl : (lN n2) = y4 := (hy4.trans (by rw [hn2]; exact negL (by omega) (by omega))).symm
      refine lv_lstore hx hb dX12_common1_26 hl (by decide) rfl (fun ls (hl : lv_has ls _ ([(6, .long (lN n2)), (4, .long (lN n1)), (0, .long xa), (2, .long xb)])) => ?_)
      have hl : lv_has _ _ ([(4, .long (lN n1)), (6, .long (lN n2))]) := lv_sub hl [1, 0] rfl
      refine (fun (loop : ∀ (n9 : Nat) (x : Nat) (y : Nat) (H : Heap) (locs : List Loc) (ls : Array Slot), (Nat.gcd x y = Int.gcd xa.toInt xb.toInt) → (x < 4611686018427387904) → (y < 4611686018427387904) →  (y < n9) → va_P (dC, dI) vwCl ([]) H → va_D A ([]) → va_S A s.heap H locs → lv_has ls 10 [(4, .long (lN x)), (6, .long (lN y))] → W p l e _ s m _ below meth c H locs 0 0 _ (F0 m 28 ls [])) => loop (n2 + 1) n1 n2 _ _ _ (by rw [hn1, hn2]; rfl) (by omega) (by omega) (by omega) hP hD hS hl) ?_
      intro n9
      induction n9 with
      | zero => intro x y H locs ls hg hx6 hy6 hf9; exact False.elim (by omega)
      | succ n9 ih28_1 =>
        intro x y H locs ls hg hx6 hy6 hf28_1 hP hD hS hl
        refine lv_lload hx hb dX12_common1_28 (lv_at hl 1 rfl) ?_
        refine lv_lconst (v := 0) hx hb dX12_common1_30 (by decide) ?_
        refine W.lcmp hx hb dX12_common1_31 ?_
        refine lv_if_le (tgt := 53) hx hb dX12_common1_32 (by decide) (fun c_32 => ?_) (fun c_32 => ?_)
        · have t_32 : ((y : Nat) : Int) ≤ 0 := toL_le c_32 (pk_lT (by omega)) (by decide)
          refine lv_lload hx hb dX12_common1_53 (lv_at hl 0 rfl) ?_
          refine W.widen (k := 0) (n := 0) (by decide +kernel) (by decide +kernel) ?_
          exact W.lret (v := (lN x)) hx hb hr (fun t9_ ht hW => ⟨⟨(lN x), (), rfl, by (try dsimp only); rw [pk_lT (by omega), ← hg, show y = 0 by omega, Nat.gcd_zero_right], trivial⟩, hS.F ht⟩) hS.2.2 dX12_common1_55
        · have t_32 : ¬ ((y : Nat) : Int) ≤ 0 := toL_nle c_32 (pk_lT (by omega)) (by decide)
          refine lv_lload hx hb dX12_common1_35 (lv_at hl 0 rfl) ?_
          refine lv_lload hx hb dX12_common1_37 (lv_at hl 1 rfl) ?_
          refine lv_lrem hx hb dX12_common1_39 (by exact lN_ne0 (by omega) (by omega)) ?_
          refine lv_topl (fun y5 hy5 => ?_)
          obtain rfl : (lN (x % y)) = y5 := (hy5.trans (lN_rem (a := x) (b := y) (by omega) (by omega) (by omega))).symm
          refine lv_lstore hx hb dX12_common1_40 hl (by decide) rfl (fun ls (hl : lv_has ls _ ([(8, .long (lN (x % y))), (4, .long (lN x)), (6, .long (lN y))])) => ?_)
          refine lv_lload hx hb dX12_common1_42 (lv_at hl 2 rfl) ?_
          refine lv_lstore hx hb dX12_common1_44 hl (by decide) rfl (fun ls (hl : lv_has ls _ ([(4, .long (lN y)), (8, .long (lN (x % y))), (6, .long (lN y))])) => ?_)
          refine lv_lload hx hb dX12_common1_46 (lv_at hl 1 rfl) ?_
          refine lv_lstore hx hb dX12_common1_48 hl (by decide) rfl (fun ls (hl : lv_has ls _ ([(6, .long (lN (x % y))), (4, .long (lN y)), (8, .long (lN (x % y)))])) => ?_)
          refine lv_goto (tgt := 28) hx hb dX12_common1_50 (by decide) ?_
          have hl : lv_has _ _ ([(4, .long (lN y)), (6, .long (lN (x % y)))]) := lv_sub hl [1, 0] rfl
          exact ih28_1 y (x % y) _ _ _ ((gcd_stepN x y).trans hg) (by omega) (by (have h9 := Nat.mod_lt x (show 0 < y by omega)); omega) (by (have h9 := Nat.mod_lt x (show 0 < y by omega)); omega) hP hD hS hl
  · have t_3 : ¬ (xa).toInt ≥ 0 := toL_nge c_3 rfl (by decide)
    refine lv_lload_n hx hb dX12_common1_6 rfl (lv_at hl 0 rfl) ?_
    refine lv_lneg hx hb dX12_common1_7 ?_
    refine lv_goto (tgt := 12) hx hb dX12_common1_8 (by decide) ?_
    obtain ⟨n1, hn1⟩ : ∃ n1, n1 = xa.toInt.natAbs := ⟨_, rfl⟩
    refine lv_topl (fun y6 hy6 => ?_)
    obtain rfl : (lN n1) = y6 := (hy6.trans (by rw [hn1]; exact negL (by omega) (by omega))).symm
    refine lv_lstore hx hb dX12_common1_12 hl (by decide) rfl (fun ls (hl : lv_has ls _ ([(4, .long (lN n1)), (0, .long xa), (2, .long xb)])) => ?_)
    refine lv_lload_n hx hb dX12_common1_14 rfl (lv_at hl 2 rfl) ?_
    refine lv_lconst (v := 0) hx hb dX12_common1_15 (by decide) ?_
    refine W.lcmp hx hb dX12_common1_16 ?_
    refine lv_if_ge (tgt := 25) hx hb dX12_common1_17 (by decide) (fun c_17 => ?_) (fun c_17 => ?_)
    · have t_17 : (xb).toInt ≥ 0 := toL_ge c_17 rfl (by decide)
      refine lv_lload_n hx hb dX12_common1_25 rfl (lv_at hl 2 rfl) ?_
      obtain ⟨n2, hn2⟩ : ∃ n2, n2 = xb.toInt.natAbs := ⟨_, rfl⟩
      refine lv_topl (fun y7 hy7 => ?_)
      obtain rfl : (lN n2) = y7 := (hy7.trans (by rw [hn2]; exact posL (by omega))).symm
      refine lv_lstore hx hb dX12_common1_26 hl (by decide) rfl (fun ls (hl : lv_has ls _ ([(6, .long (lN n2)), (4, .long (lN n1)), (0, .long xa), (2, .long xb)])) => ?_)
      have hl : lv_has _ _ ([(4, .long (lN n1)), (6, .long (lN n2))]) := lv_sub hl [1, 0] rfl
      refine (fun (loop : ∀ (n9 : Nat) (x : Nat) (y : Nat) (H : Heap) (locs : List Loc) (ls : Array Slot), (Nat.gcd x y = Int.gcd xa.toInt xb.toInt) → (x < 4611686018427387904) → (y < 4611686018427387904) →  (y < n9) → va_P (dC, dI) vwCl ([]) H → va_D A ([]) → va_S A s.heap H locs → lv_has ls 10 [(4, .long (lN x)), (6, .long (lN y))] → W p l e _ s m _ below meth c H locs 0 0 _ (F0 m 28 ls [])) => loop (n2 + 1) n1 n2 _ _ _ (by rw [hn1, hn2]; rfl) (by omega) (by omega) (by omega) hP hD hS hl) ?_
      intro n9
      induction n9 with
      | zero => intro x y H locs ls hg hx6 hy6 hf9; exact False.elim (by omega)
      | succ n9 ih28_2 =>
        intro x y H locs ls hg hx6 hy6 hf28_2 hP hD hS hl
        refine lv_lload hx hb dX12_common1_28 (lv_at hl 1 rfl) ?_
        refine lv_lconst (v := 0) hx hb dX12_common1_30 (by decide) ?_
        refine W.lcmp hx hb dX12_common1_31 ?_
        refine lv_if_le (tgt := 53) hx hb dX12_common1_32 (by decide) (fun c_32 => ?_) (fun c_32 => ?_)
        · have t_32 : ((y : Nat) : Int) ≤ 0 := toL_le c_32 (pk_lT (by omega)) (by decide)
          refine lv_lload hx hb dX12_common1_53 (lv_at hl 0 rfl) ?_
          refine W.widen (k := 0) (n := 0) (by decide +kernel) (by decide +kernel) ?_
          exact W.lret (v := (lN x)) hx hb hr (fun t9_ ht hW => ⟨⟨(lN x), (), rfl, by (try dsimp only); rw [pk_lT (by omega), ← hg, show y = 0 by omega, Nat.gcd_zero_right], trivial⟩, hS.F ht⟩) hS.2.2 dX12_common1_55
        · have t_32 : ¬ ((y : Nat) : Int) ≤ 0 := toL_nle c_32 (pk_lT (by omega)) (by decide)
          refine lv_lload hx hb dX12_common1_35 (lv_at hl 0 rfl) ?_
          refine lv_lload hx hb dX12_common1_37 (lv_at hl 1 rfl) ?_
          refine lv_lrem hx hb dX12_common1_39 (by exact lN_ne0 (by omega) (by omega)) ?_
          refine lv_topl (fun y8 hy8 => ?_)
          obtain rfl : (lN (x % y)) = y8 := (hy8.trans (lN_rem (a := x) (b := y) (by omega) (by omega) (by omega))).symm
          refine lv_lstore hx hb dX12_common1_40 hl (by decide) rfl (fun ls (hl : lv_has ls _ ([(8, .long (lN (x % y))), (4, .long (lN x)), (6, .long (lN y))])) => ?_)
          refine lv_lload hx hb dX12_common1_42 (lv_at hl 2 rfl) ?_
          refine lv_lstore hx hb dX12_common1_44 hl (by decide) rfl (fun ls (hl : lv_has ls _ ([(4, .long (lN y)), (8, .long (lN (x % y))), (6, .long (lN y))])) => ?_)
          refine lv_lload hx hb dX12_common1_46 (lv_at hl 1 rfl) ?_
          refine lv_lstore hx hb dX12_common1_48 hl (by decide) rfl (fun ls (hl : lv_has ls _ ([(6, .long (lN (x % y))), (4, .long (lN y)), (8, .long (lN (x % y)))])) => ?_)
          refine lv_goto (tgt := 28) hx hb dX12_common1_50 (by decide) ?_
          have hl : lv_has _ _ ([(4, .long (lN y)), (6, .long (lN (x % y)))]) := lv_sub hl [1, 0] rfl
          exact ih28_2 y (x % y) _ _ _ ((gcd_stepN x y).trans hg) (by omega) (by (have h9 := Nat.mod_lt x (show 0 < y by omega)); omega) (by (have h9 := Nat.mod_lt x (show 0 < y by omega)); omega) hP hD hS hl
    · have t_17 : ¬ (xb).toInt ≥ 0 := toL_nge c_17 rfl (by decide)
      refine lv_lload_n hx hb dX12_common1_20 rfl (lv_at hl 2 rfl) ?_
      refine lv_lneg hx hb dX12_common1_21 ?_
      refine lv_goto (tgt := 26) hx hb dX12_common1_22 (by decide) ?_
      obtain ⟨n2, hn2⟩ : ∃ n2, n2 = xb.toInt.natAbs := ⟨_, rfl⟩
      refine lv_topl (fun y9 hy9 => ?_)
      obtain rfl : (lN n2) = y9 := (hy9.trans (by rw [hn2]; exact negL (by omega) (by omega))).symm
      refine lv_lstore hx hb dX12_common1_26 hl (by decide) rfl (fun ls (hl : lv_has ls _ ([(6, .long (lN n2)), (4, .long (lN n1)), (0, .long xa), (2, .long xb)])) => ?_)
      have hl : lv_has _ _ ([(4, .long (lN n1)), (6, .long (lN n2))]) := lv_sub hl [1, 0] rfl
      refine (fun (loop : ∀ (n9 : Nat) (x : Nat) (y : Nat) (H : Heap) (locs : List Loc) (ls : Array Slot), (Nat.gcd x y = Int.gcd xa.toInt xb.toInt) → (x < 4611686018427387904) → (y < 4611686018427387904) →  (y < n9) → va_P (dC, dI) vwCl ([]) H → va_D A ([]) → va_S A s.heap H locs → lv_has ls 10 [(4, .long (lN x)), (6, .long (lN y))] → W p l e _ s m _ below meth c H locs 0 0 _ (F0 m 28 ls [])) => loop (n2 + 1) n1 n2 _ _ _ (by rw [hn1, hn2]; rfl) (by omega) (by omega) (by omega) hP hD hS hl) ?_
      intro n9
      induction n9 with
      | zero => intro x y H locs ls hg hx6 hy6 hf9; exact False.elim (by omega)
      | succ n9 ih28_3 =>
        intro x y H locs ls hg hx6 hy6 hf28_3 hP hD hS hl
        refine lv_lload hx hb dX12_common1_28 (lv_at hl 1 rfl) ?_
        refine lv_lconst (v := 0) hx hb dX12_common1_30 (by decide) ?_
        refine W.lcmp hx hb dX12_common1_31 ?_
        refine lv_if_le (tgt := 53) hx hb dX12_common1_32 (by decide) (fun c_32 => ?_) (fun c_32 => ?_)
        · have t_32 : ((y : Nat) : Int) ≤ 0 := toL_le c_32 (pk_lT (by omega)) (by decide)
          refine lv_lload hx hb dX12_common1_53 (lv_at hl 0 rfl) ?_
          refine W.widen (k := 0) (n := 0) (by decide +kernel) (by decide +kernel) ?_
          exact W.lret (v := (lN x)) hx hb hr (fun t9_ ht hW => ⟨⟨(lN x), (), rfl, by (try dsimp only); rw [pk_lT (by omega), ← hg, show y = 0 by omega, Nat.gcd_zero_right], trivial⟩, hS.F ht⟩) hS.2.2 dX12_common1_55
        · have t_32 : ¬ ((y : Nat) : Int) ≤ 0 := toL_nle c_32 (pk_lT (by omega)) (by decide)
          refine lv_lload hx hb dX12_common1_35 (lv_at hl 0 rfl) ?_
          refine lv_lload hx hb dX12_common1_37 (lv_at hl 1 rfl) ?_
          refine lv_lrem hx hb dX12_common1_39 (by exact lN_ne0 (by omega) (by omega)) ?_
          refine lv_topl (fun y10 hy10 => ?_)
          obtain rfl : (lN (x % y)) = y10 := (hy10.trans (lN_rem (a := x) (b := y) (by omega) (by omega) (by omega))).symm
          refine lv_lstore hx hb dX12_common1_40 hl (by decide) rfl (fun ls (hl : lv_has ls _ ([(8, .long (lN (x % y))), (4, .long (lN x)), (6, .long (lN y))])) => ?_)
          refine lv_lload hx hb dX12_common1_42 (lv_at hl 2 rfl) ?_
          refine lv_lstore hx hb dX12_common1_44 hl (by decide) rfl (fun ls (hl : lv_has ls _ ([(4, .long (lN y)), (8, .long (lN (x % y))), (6, .long (lN y))])) => ?_)
          refine lv_lload hx hb dX12_common1_46 (lv_at hl 1 rfl) ?_
          refine lv_lstore hx hb dX12_common1_48 hl (by decide) rfl (fun ls (hl : lv_has ls _ ([(6, .long (lN (x % y))), (4, .long (lN y)), (8, .long (lN (x % y)))])) => ?_)
          refine lv_goto (tgt := 28) hx hb dX12_common1_50 (by decide) ?_
          have hl : lv_has _ _ ([(4, .long (lN y)), (6, .long (lN (x % y)))]) := lv_sub hl [1, 0] rfl
          exact ih28_3 y (x % y) _ _ _ ((gcd_stepN x y).trans hg) (by omega) (by (have h9 := Nat.mod_lt x (show 0 < y by omega)); omega) (by (have h9 := Nat.mod_lt x (show 0 < y by omega)); omega) hP hD hS hl
end

section
theorem hd_yX2_measure_RX2 : yX2_measure.cls = RX2 ∧ yX2_measure.cls ≠ "java/lang/invoke/MethodHandle" ∧ yX2_measure.cls ≠ "java/lang/invoke/VarHandle" ∧ (parseMethodDescriptor yX2_measure.desc).map (fun d => d.parameters.length) = some 1 := by decide +kernel
theorem hd_yX2_push_RX2 : yX2_push.cls = RX2 ∧ yX2_push.cls ≠ "java/lang/invoke/MethodHandle" ∧ yX2_push.cls ≠ "java/lang/invoke/VarHandle" ∧ (parseMethodDescriptor yX2_push.desc).map (fun d => d.parameters.length) = some 3 := by decide +kernel
theorem hd_yX2_measureBack_RX2 : yX2_measureBack.cls = RX2 ∧ yX2_measureBack.cls ≠ "java/lang/invoke/MethodHandle" ∧ yX2_measureBack.cls ≠ "java/lang/invoke/VarHandle" ∧ (parseMethodDescriptor yX2_measureBack.desc).map (fun d => d.parameters.length) = some 1 := by decide +kernel
theorem hd_yX2_nextNode_RX2 : yX2_nextNode.cls = RX2 ∧ yX2_nextNode.cls ≠ "java/lang/invoke/MethodHandle" ∧ yX2_nextNode.cls ≠ "java/lang/invoke/VarHandle" ∧ (parseMethodDescriptor yX2_nextNode.desc).map (fun d => d.parameters.length) = some 1 := by decide +kernel
theorem hd_yX2_cheapestUnseen_RX2 : yX2_cheapestUnseen.cls = RX2 ∧ yX2_cheapestUnseen.cls ≠ "java/lang/invoke/MethodHandle" ∧ yX2_cheapestUnseen.cls ≠ "java/lang/invoke/VarHandle" ∧ (parseMethodDescriptor yX2_cheapestUnseen.desc).map (fun d => d.parameters.length) = some 1 := by decide +kernel
theorem dX2_measure_0 : decode cX2_measure 0 = .ok (.aload_n 0, 1) := dk_42 (by decide +kernel)
theorem dX2_measure_1 : decode cX2_measure 1 = .ok (.getfield 33, 3) := dk_180 (by decide +kernel)
theorem dX2_measure_4 : decode cX2_measure 4 = .ok (.ldc 60, 2) := dk_18 (by decide +kernel)
theorem dX2_measure_6 : decode cX2_measure 6 = .ok (.invokestatic 49, 3) := dk_184 (by decide +kernel)
theorem dX2_measure_9 : decode cX2_measure 9 = .ok (.aload_n 0, 1) := dk_42 (by decide +kernel)
theorem dX2_measure_10 : decode cX2_measure 10 = .ok (.getfield 33, 3) := dk_180 (by decide +kernel)
theorem dX2_measure_13 : decode cX2_measure 13 = .ok (.iload_n 1, 1) := dk_27 (by decide +kernel)
theorem dX2_measure_14 : decode cX2_measure 14 = .ok (.iconst 0, 1) := dk_3 (by decide +kernel)
theorem dX2_measure_15 : decode cX2_measure 15 = .ok (.iastore, 1) := dk_79 (by decide +kernel)
theorem dX2_measure_16 : decode cX2_measure 16 = .ok (.iconst 1, 1) := dk_4 (by decide +kernel)
theorem dX2_measure_17 : decode cX2_measure 17 = .ok (.istore_n 2, 1) := dk_61 (by decide +kernel)
theorem dX2_measure_18 : decode cX2_measure 18 = .ok (.iconst 0, 1) := dk_3 (by decide +kernel)
theorem dX2_measure_19 : decode cX2_measure 19 = .ok (.istore_n 3, 1) := dk_62 (by decide +kernel)
theorem dX2_measure_20 : decode cX2_measure 20 = .ok (.iload_n 3, 1) := dk_29 (by decide +kernel)
theorem dX2_measure_21 : decode cX2_measure 21 = .ok (.bipush 12, 2) := dk_16 (by decide +kernel)
theorem dX2_measure_23 : decode cX2_measure 23 = .ok (.if_icmp .ge 263, 3) := dk_162 (by decide +kernel)
theorem dX2_measure_26 : decode cX2_measure 26 = .ok (.iload_n 2, 1) := dk_28 (by decide +kernel)
theorem dX2_measure_27 : decode cX2_measure 27 = .ok (.ifCond .eq 259, 3) := dk_153 (by decide +kernel)
theorem dX2_measure_30 : decode cX2_measure 30 = .ok (.iconst 0, 1) := dk_3 (by decide +kernel)
theorem dX2_measure_31 : decode cX2_measure 31 = .ok (.istore_n 2, 1) := dk_61 (by decide +kernel)
theorem dX2_measure_32 : decode cX2_measure 32 = .ok (.iconst 0, 1) := dk_3 (by decide +kernel)
theorem dX2_measure_33 : decode cX2_measure 33 = .ok (.istore 4, 2) := dk_54 (by decide +kernel)
theorem dX2_measure_35 : decode cX2_measure 35 = .ok (.iload 4, 2) := dk_21 (by decide +kernel)
theorem dX2_measure_37 : decode cX2_measure 37 = .ok (.aload_n 0, 1) := dk_42 (by decide +kernel)
theorem dX2_measure_38 : decode cX2_measure 38 = .ok (.getfield 45, 3) := dk_180 (by decide +kernel)
theorem dX2_measure_41 : decode cX2_measure 41 = .ok (.if_icmp .ge 239, 3) := dk_162 (by decide +kernel)
theorem dX2_measure_44 : decode cX2_measure 44 = .ok (.aload_n 0, 1) := dk_42 (by decide +kernel)
theorem dX2_measure_45 : decode cX2_measure 45 = .ok (.getfield 30, 3) := dk_180 (by decide +kernel)
theorem dX2_measure_48 : decode cX2_measure 48 = .ok (.iload 4, 2) := dk_21 (by decide +kernel)
theorem dX2_measure_50 : decode cX2_measure 50 = .ok (.iaload, 1) := dk_46 (by decide +kernel)
theorem dX2_measure_51 : decode cX2_measure 51 = .ok (.aload_n 0, 1) := dk_42 (by decide +kernel)
theorem dX2_measure_52 : decode cX2_measure 52 = .ok (.getfield 18, 3) := dk_180 (by decide +kernel)
theorem dX2_measure_55 : decode cX2_measure 55 = .ok (.iload 4, 2) := dk_21 (by decide +kernel)
theorem dX2_measure_57 : decode cX2_measure 57 = .ok (.iaload, 1) := dk_46 (by decide +kernel)
theorem dX2_measure_58 : decode cX2_measure 58 = .ok (.if_icmp .ge 103, 3) := dk_162 (by decide +kernel)
theorem dX2_measure_61 : decode cX2_measure 61 = .ok (.aload_n 0, 1) := dk_42 (by decide +kernel)
theorem dX2_measure_62 : decode cX2_measure 62 = .ok (.getfield 33, 3) := dk_180 (by decide +kernel)
theorem dX2_measure_65 : decode cX2_measure 65 = .ok (.aload_n 0, 1) := dk_42 (by decide +kernel)
theorem dX2_measure_66 : decode cX2_measure 66 = .ok (.getfield 11, 3) := dk_180 (by decide +kernel)
theorem dX2_measure_69 : decode cX2_measure 69 = .ok (.iload 4, 2) := dk_21 (by decide +kernel)
theorem dX2_measure_71 : decode cX2_measure 71 = .ok (.iaload, 1) := dk_46 (by decide +kernel)
theorem dX2_measure_72 : decode cX2_measure 72 = .ok (.iaload, 1) := dk_46 (by decide +kernel)
theorem dX2_measure_73 : decode cX2_measure 73 = .ok (.ldc 60, 2) := dk_18 (by decide +kernel)
theorem dX2_measure_75 : decode cX2_measure 75 = .ok (.if_icmp .ge 86, 3) := dk_162 (by decide +kernel)
theorem dX2_measure_78 : decode cX2_measure 78 = .ok (.aload_n 0, 1) := dk_42 (by decide +kernel)
theorem dX2_measure_79 : decode cX2_measure 79 = .ok (.getfield 33, 3) := dk_180 (by decide +kernel)
theorem dX2_measure_82 : decode cX2_measure 82 = .ok (.aload_n 0, 1) := dk_42 (by decide +kernel)
theorem dX2_measure_83 : decode cX2_measure 83 = .ok (.getfield 11, 3) := dk_180 (by decide +kernel)
theorem dX2_measure_86 : decode cX2_measure 86 = .ok (.iload 4, 2) := dk_21 (by decide +kernel)
theorem dX2_measure_88 : decode cX2_measure 88 = .ok (.iaload, 1) := dk_46 (by decide +kernel)
theorem dX2_measure_89 : decode cX2_measure 89 = .ok (.iaload, 1) := dk_46 (by decide +kernel)
theorem dX2_measure_90 : decode cX2_measure 90 = .ok (.aload_n 0, 1) := dk_42 (by decide +kernel)
theorem dX2_measure_91 : decode cX2_measure 91 = .ok (.getfield 21, 3) := dk_180 (by decide +kernel)
theorem dX2_measure_94 : decode cX2_measure 94 = .ok (.iload 4, 2) := dk_21 (by decide +kernel)
theorem dX2_measure_96 : decode cX2_measure 96 = .ok (.iaload, 1) := dk_46 (by decide +kernel)
theorem dX2_measure_97 : decode cX2_measure 97 = .ok (.iadd, 1) := dk_96 (by decide +kernel)
theorem dX2_measure_98 : decode cX2_measure 98 = .ok (.aload_n 0, 1) := dk_42 (by decide +kernel)
theorem dX2_measure_99 : decode cX2_measure 99 = .ok (.getfield 33, 3) := dk_180 (by decide +kernel)
theorem dX2_measure_102 : decode cX2_measure 102 = .ok (.aload_n 0, 1) := dk_42 (by decide +kernel)
theorem dX2_measure_103 : decode cX2_measure 103 = .ok (.getfield 15, 3) := dk_180 (by decide +kernel)
theorem dX2_measure_106 : decode cX2_measure 106 = .ok (.iload 4, 2) := dk_21 (by decide +kernel)
theorem dX2_measure_108 : decode cX2_measure 108 = .ok (.iaload, 1) := dk_46 (by decide +kernel)
theorem dX2_measure_109 : decode cX2_measure 109 = .ok (.iaload, 1) := dk_46 (by decide +kernel)
theorem dX2_measure_110 : decode cX2_measure 110 = .ok (.if_icmp .ge 51, 3) := dk_162 (by decide +kernel)
theorem dX2_measure_113 : decode cX2_measure 113 = .ok (.aload_n 0, 1) := dk_42 (by decide +kernel)
theorem dX2_measure_114 : decode cX2_measure 114 = .ok (.getfield 33, 3) := dk_180 (by decide +kernel)
theorem dX2_measure_117 : decode cX2_measure 117 = .ok (.aload_n 0, 1) := dk_42 (by decide +kernel)
theorem dX2_measure_118 : decode cX2_measure 118 = .ok (.getfield 15, 3) := dk_180 (by decide +kernel)
theorem dX2_measure_121 : decode cX2_measure 121 = .ok (.iload 4, 2) := dk_21 (by decide +kernel)
theorem dX2_measure_123 : decode cX2_measure 123 = .ok (.iaload, 1) := dk_46 (by decide +kernel)
theorem dX2_measure_124 : decode cX2_measure 124 = .ok (.aload_n 0, 1) := dk_42 (by decide +kernel)
theorem dX2_measure_125 : decode cX2_measure 125 = .ok (.getfield 33, 3) := dk_180 (by decide +kernel)
theorem dX2_measure_128 : decode cX2_measure 128 = .ok (.aload_n 0, 1) := dk_42 (by decide +kernel)
theorem dX2_measure_129 : decode cX2_measure 129 = .ok (.getfield 11, 3) := dk_180 (by decide +kernel)
theorem dX2_measure_132 : decode cX2_measure 132 = .ok (.iload 4, 2) := dk_21 (by decide +kernel)
theorem dX2_measure_134 : decode cX2_measure 134 = .ok (.iaload, 1) := dk_46 (by decide +kernel)
theorem dX2_measure_135 : decode cX2_measure 135 = .ok (.iaload, 1) := dk_46 (by decide +kernel)
theorem dX2_measure_136 : decode cX2_measure 136 = .ok (.aload_n 0, 1) := dk_42 (by decide +kernel)
theorem dX2_measure_137 : decode cX2_measure 137 = .ok (.getfield 21, 3) := dk_180 (by decide +kernel)
theorem dX2_measure_140 : decode cX2_measure 140 = .ok (.iload 4, 2) := dk_21 (by decide +kernel)
theorem dX2_measure_142 : decode cX2_measure 142 = .ok (.iaload, 1) := dk_46 (by decide +kernel)
theorem dX2_measure_143 : decode cX2_measure 143 = .ok (.iadd, 1) := dk_96 (by decide +kernel)
theorem dX2_measure_144 : decode cX2_measure 144 = .ok (.iastore, 1) := dk_79 (by decide +kernel)
theorem dX2_measure_145 : decode cX2_measure 145 = .ok (.aload_n 0, 1) := dk_42 (by decide +kernel)
theorem dX2_measure_146 : decode cX2_measure 146 = .ok (.getfield 27, 3) := dk_180 (by decide +kernel)
theorem dX2_measure_149 : decode cX2_measure 149 = .ok (.aload_n 0, 1) := dk_42 (by decide +kernel)
theorem dX2_measure_150 : decode cX2_measure 150 = .ok (.getfield 15, 3) := dk_180 (by decide +kernel)
theorem dX2_measure_153 : decode cX2_measure 153 = .ok (.iload 4, 2) := dk_21 (by decide +kernel)
theorem dX2_measure_155 : decode cX2_measure 155 = .ok (.iaload, 1) := dk_46 (by decide +kernel)
theorem dX2_measure_156 : decode cX2_measure 156 = .ok (.iload 4, 2) := dk_21 (by decide +kernel)
theorem dX2_measure_158 : decode cX2_measure 158 = .ok (.iastore, 1) := dk_79 (by decide +kernel)
theorem dX2_measure_159 : decode cX2_measure 159 = .ok (.iconst 1, 1) := dk_4 (by decide +kernel)
theorem dX2_measure_160 : decode cX2_measure 160 = .ok (.istore_n 2, 1) := dk_61 (by decide +kernel)
theorem dX2_measure_161 : decode cX2_measure 161 = .ok (.aload_n 0, 1) := dk_42 (by decide +kernel)
theorem dX2_measure_162 : decode cX2_measure 162 = .ok (.getfield 30, 3) := dk_180 (by decide +kernel)
theorem dX2_measure_165 : decode cX2_measure 165 = .ok (.iload 4, 2) := dk_21 (by decide +kernel)
theorem dX2_measure_167 : decode cX2_measure 167 = .ok (.iaload, 1) := dk_46 (by decide +kernel)
theorem dX2_measure_168 : decode cX2_measure 168 = .ok (.ifCond .le 106, 3) := dk_158 (by decide +kernel)
theorem dX2_measure_171 : decode cX2_measure 171 = .ok (.aload_n 0, 1) := dk_42 (by decide +kernel)
theorem dX2_measure_172 : decode cX2_measure 172 = .ok (.getfield 33, 3) := dk_180 (by decide +kernel)
theorem dX2_measure_175 : decode cX2_measure 175 = .ok (.aload_n 0, 1) := dk_42 (by decide +kernel)
theorem dX2_measure_176 : decode cX2_measure 176 = .ok (.getfield 15, 3) := dk_180 (by decide +kernel)
theorem dX2_measure_179 : decode cX2_measure 179 = .ok (.iload 4, 2) := dk_21 (by decide +kernel)
theorem dX2_measure_181 : decode cX2_measure 181 = .ok (.iaload, 1) := dk_46 (by decide +kernel)
theorem dX2_measure_182 : decode cX2_measure 182 = .ok (.iaload, 1) := dk_46 (by decide +kernel)
theorem dX2_measure_183 : decode cX2_measure 183 = .ok (.ldc 60, 2) := dk_18 (by decide +kernel)
theorem dX2_measure_185 : decode cX2_measure 185 = .ok (.if_icmp .ge 89, 3) := dk_162 (by decide +kernel)
theorem dX2_measure_188 : decode cX2_measure 188 = .ok (.aload_n 0, 1) := dk_42 (by decide +kernel)
theorem dX2_measure_189 : decode cX2_measure 189 = .ok (.getfield 33, 3) := dk_180 (by decide +kernel)
theorem dX2_measure_192 : decode cX2_measure 192 = .ok (.aload_n 0, 1) := dk_42 (by decide +kernel)
theorem dX2_measure_193 : decode cX2_measure 193 = .ok (.getfield 15, 3) := dk_180 (by decide +kernel)
theorem dX2_measure_196 : decode cX2_measure 196 = .ok (.iload 4, 2) := dk_21 (by decide +kernel)
theorem dX2_measure_198 : decode cX2_measure 198 = .ok (.iaload, 1) := dk_46 (by decide +kernel)
theorem dX2_measure_199 : decode cX2_measure 199 = .ok (.iaload, 1) := dk_46 (by decide +kernel)
theorem dX2_measure_200 : decode cX2_measure 200 = .ok (.aload_n 0, 1) := dk_42 (by decide +kernel)
theorem dX2_measure_201 : decode cX2_measure 201 = .ok (.getfield 21, 3) := dk_180 (by decide +kernel)
theorem dX2_measure_204 : decode cX2_measure 204 = .ok (.iload 4, 2) := dk_21 (by decide +kernel)
theorem dX2_measure_206 : decode cX2_measure 206 = .ok (.iaload, 1) := dk_46 (by decide +kernel)
theorem dX2_measure_207 : decode cX2_measure 207 = .ok (.isub, 1) := dk_100 (by decide +kernel)
theorem dX2_measure_208 : decode cX2_measure 208 = .ok (.aload_n 0, 1) := dk_42 (by decide +kernel)
theorem dX2_measure_209 : decode cX2_measure 209 = .ok (.getfield 33, 3) := dk_180 (by decide +kernel)
theorem dX2_measure_212 : decode cX2_measure 212 = .ok (.aload_n 0, 1) := dk_42 (by decide +kernel)
theorem dX2_measure_213 : decode cX2_measure 213 = .ok (.getfield 11, 3) := dk_180 (by decide +kernel)
theorem dX2_measure_216 : decode cX2_measure 216 = .ok (.iload 4, 2) := dk_21 (by decide +kernel)
theorem dX2_measure_218 : decode cX2_measure 218 = .ok (.iaload, 1) := dk_46 (by decide +kernel)
theorem dX2_measure_219 : decode cX2_measure 219 = .ok (.iaload, 1) := dk_46 (by decide +kernel)
theorem dX2_measure_220 : decode cX2_measure 220 = .ok (.if_icmp .ge 54, 3) := dk_162 (by decide +kernel)
theorem dX2_measure_223 : decode cX2_measure 223 = .ok (.aload_n 0, 1) := dk_42 (by decide +kernel)
theorem dX2_measure_224 : decode cX2_measure 224 = .ok (.getfield 33, 3) := dk_180 (by decide +kernel)
theorem dX2_measure_227 : decode cX2_measure 227 = .ok (.aload_n 0, 1) := dk_42 (by decide +kernel)
theorem dX2_measure_228 : decode cX2_measure 228 = .ok (.getfield 11, 3) := dk_180 (by decide +kernel)
theorem dX2_measure_231 : decode cX2_measure 231 = .ok (.iload 4, 2) := dk_21 (by decide +kernel)
theorem dX2_measure_233 : decode cX2_measure 233 = .ok (.iaload, 1) := dk_46 (by decide +kernel)
theorem dX2_measure_234 : decode cX2_measure 234 = .ok (.aload_n 0, 1) := dk_42 (by decide +kernel)
theorem dX2_measure_235 : decode cX2_measure 235 = .ok (.getfield 33, 3) := dk_180 (by decide +kernel)
theorem dX2_measure_238 : decode cX2_measure 238 = .ok (.aload_n 0, 1) := dk_42 (by decide +kernel)
theorem dX2_measure_239 : decode cX2_measure 239 = .ok (.getfield 15, 3) := dk_180 (by decide +kernel)
theorem dX2_measure_242 : decode cX2_measure 242 = .ok (.iload 4, 2) := dk_21 (by decide +kernel)
theorem dX2_measure_244 : decode cX2_measure 244 = .ok (.iaload, 1) := dk_46 (by decide +kernel)
theorem dX2_measure_245 : decode cX2_measure 245 = .ok (.iaload, 1) := dk_46 (by decide +kernel)
theorem dX2_measure_246 : decode cX2_measure 246 = .ok (.aload_n 0, 1) := dk_42 (by decide +kernel)
theorem dX2_measure_247 : decode cX2_measure 247 = .ok (.getfield 21, 3) := dk_180 (by decide +kernel)
theorem dX2_measure_250 : decode cX2_measure 250 = .ok (.iload 4, 2) := dk_21 (by decide +kernel)
theorem dX2_measure_252 : decode cX2_measure 252 = .ok (.iaload, 1) := dk_46 (by decide +kernel)
theorem dX2_measure_253 : decode cX2_measure 253 = .ok (.isub, 1) := dk_100 (by decide +kernel)
theorem dX2_measure_254 : decode cX2_measure 254 = .ok (.iastore, 1) := dk_79 (by decide +kernel)
theorem dX2_measure_255 : decode cX2_measure 255 = .ok (.aload_n 0, 1) := dk_42 (by decide +kernel)
theorem dX2_measure_256 : decode cX2_measure 256 = .ok (.getfield 27, 3) := dk_180 (by decide +kernel)
theorem dX2_measure_259 : decode cX2_measure 259 = .ok (.aload_n 0, 1) := dk_42 (by decide +kernel)
theorem dX2_measure_260 : decode cX2_measure 260 = .ok (.getfield 11, 3) := dk_180 (by decide +kernel)
theorem dX2_measure_263 : decode cX2_measure 263 = .ok (.iload 4, 2) := dk_21 (by decide +kernel)
theorem dX2_measure_265 : decode cX2_measure 265 = .ok (.iaload, 1) := dk_46 (by decide +kernel)
theorem dX2_measure_266 : decode cX2_measure 266 = .ok (.iload 4, 2) := dk_21 (by decide +kernel)
theorem dX2_measure_268 : decode cX2_measure 268 = .ok (.bipush 40, 2) := dk_16 (by decide +kernel)
theorem dX2_measure_270 : decode cX2_measure 270 = .ok (.iadd, 1) := dk_96 (by decide +kernel)
theorem dX2_measure_271 : decode cX2_measure 271 = .ok (.iastore, 1) := dk_79 (by decide +kernel)
theorem dX2_measure_272 : decode cX2_measure 272 = .ok (.iconst 1, 1) := dk_4 (by decide +kernel)
theorem dX2_measure_273 : decode cX2_measure 273 = .ok (.istore_n 2, 1) := dk_61 (by decide +kernel)
theorem dX2_measure_274 : decode cX2_measure 274 = .ok (.iinc 4 1, 3) := dk_132 (by decide +kernel)
theorem dX2_measure_277 : decode cX2_measure 277 = .ok (.goto (-242), 3) := dk_167 (by decide +kernel)
theorem dX2_measure_280 : decode cX2_measure 280 = .ok (.iinc 3 1, 3) := dk_132 (by decide +kernel)
theorem dX2_measure_283 : decode cX2_measure 283 = .ok (.goto (-263), 3) := dk_167 (by decide +kernel)
theorem dX2_measure_286 : decode cX2_measure 286 = .ok (.return_, 1) := dk_177 (by decide +kernel)
def wsMX2_measure : List Cond := .code yX2_measure cX2_measure 5 none :: ([.fieldLink RX2 33 "OptimaWorks$NetDesk" "length" "[I", .constant RX2 60 536870912, .fieldLink RX2 45 "OptimaWorks$NetDesk" "arcs" "I", .fieldLink RX2 30 "OptimaWorks$NetDesk" "flow" "[I", .fieldLink RX2 18 "OptimaWorks$NetDesk" "room" "[I", .fieldLink RX2 11 "OptimaWorks$NetDesk" "from" "[I", .fieldLink RX2 21 "OptimaWorks$NetDesk" "cost" "[I", .fieldLink RX2 15 "OptimaWorks$NetDesk" "to" "[I", .fieldLink RX2 27 "OptimaWorks$NetDesk" "before" "[I"] ++ wsX20 ++ (va_wsS RX2 49 yJ7_fill_53178 wsMJ7_fill_53178))
theorem iwsMX2_measure_in2 : ∀ w ∈ wsX20, w ∈ wsMX2_measure := fun _ h => List.mem_cons_of_mem _ (List.mem_append_left _ (List.mem_append_right _ h))
theorem gwsMX2_measure_0 : GoodIn wsMX2_measure (va_wsS RX2 49 yJ7_fill_53178 wsMJ7_fill_53178) := goodIn_sub (fun _ h => List.mem_cons_of_mem _ (List.mem_append_right _ h)) (gdS (by decide +kernel) gdwsMJ7_fill_53178)
theorem gdwsMX2_measure : wsMX2_measure.all goodWord = true := gdC rfl (gdA (gdA (by decide +kernel : ([.fieldLink RX2 33 "OptimaWorks$NetDesk" "length" "[I", .constant RX2 60 536870912, .fieldLink RX2 45 "OptimaWorks$NetDesk" "arcs" "I", .fieldLink RX2 30 "OptimaWorks$NetDesk" "flow" "[I", .fieldLink RX2 18 "OptimaWorks$NetDesk" "room" "[I", .fieldLink RX2 11 "OptimaWorks$NetDesk" "from" "[I", .fieldLink RX2 21 "OptimaWorks$NetDesk" "cost" "[I", .fieldLink RX2 15 "OptimaWorks$NetDesk" "to" "[I", .fieldLink RX2 27 "OptimaWorks$NetDesk" "before" "[I"] : List Cond).all goodWord = true) gdwsX20) (gdS (by decide +kernel) gdwsMJ7_fill_53178))
theorem hm_m_X2_measure_0 : (.fieldLink RX2 33 "OptimaWorks$NetDesk" "length" "[I" : Cond) ∈ wsMX2_measure := by decide +kernel
theorem hm_m_X2_measure_1 : (.constant RX2 60 536870912 : Cond) ∈ wsMX2_measure := by decide +kernel
theorem hm_m_X2_measure_2 : (.fieldLink RX2 30 "OptimaWorks$NetDesk" "flow" "[I" : Cond) ∈ wsMX2_measure := by decide +kernel
theorem hm_m_X2_measure_3 : (.fieldLink RX2 11 "OptimaWorks$NetDesk" "from" "[I" : Cond) ∈ wsMX2_measure := by decide +kernel
theorem hm_m_X2_measure_4 : (.fieldLink RX2 21 "OptimaWorks$NetDesk" "cost" "[I" : Cond) ∈ wsMX2_measure := by decide +kernel
theorem hm_m_X2_measure_5 : (.fieldLink RX2 15 "OptimaWorks$NetDesk" "to" "[I" : Cond) ∈ wsMX2_measure := by decide +kernel
theorem hm_m_X2_measure_6 : (.fieldLink RX2 27 "OptimaWorks$NetDesk" "before" "[I" : Cond) ∈ wsMX2_measure := by decide +kernel
set_option maxHeartbeats 4000000 in
set_option maxRecDepth 100000 in
/-- lengths from a node -/
theorem m_X2_measure (l : Launch) (dC : Nat → ClassId) (dI : Nat → Nat → Nat) (hN : Nat → Nat) (aN : Nat → Nat) (kN : Nat → ClassId) (iN_arcs : Int32) (fN_from : Nat → Int32) (fN_to : Nat → Int32) (fN_room : Nat → Int32) (fN_cost : Nat → Int32) (iN_reached : Int32) (fN_free : Nat → Int32) (fN_before : Nat → Int32) (fN_flow : Nat → Int32) (fN_length : Nat → Int32) (fN_stop : Nat → Int32) (iN_stops : Int32) (fN_price : Nat → Int32) (fN_rest : Nat → Int32) (p1 : Int32) (b_iN_arcs : 0 ≤ iN_arcs.toInt ∧ iN_arcs.toInt ≤ 40) (b_fN_from : ∀ q : Nat, 0 ≤ (fN_from q).toInt ∧ (fN_from q).toInt ≤ 11) (b_fN_to : ∀ q : Nat, 0 ≤ (fN_to q).toInt ∧ (fN_to q).toInt ≤ 11) (b_fN_before : ∀ q : Nat, 0 ≤ (fN_before q).toInt ∧ (fN_before q).toInt ≤ 79) (b_fN_stop : ∀ q : Nat, 0 ≤ (fN_stop q).toInt ∧ (fN_stop q).toInt ≤ 11) (b_iN_stops : 0 ≤ iN_stops.toInt ∧ iN_stops.toInt ≤ 8) (b_p1 : 0 ≤ p1.toInt ∧ p1.toInt ≤ 11) (hAr : ArO fN_from fN_to fN_room fN_cost iN_arcs.toInt.toNat) (hX0 : ∃ RR pp, PoX fN_from fN_to fN_room fN_cost fN_flow iN_arcs.toInt.toNat p1.toInt.toNat RR pp) (sz : Nat) : Met l yX2_measure wsMX2_measure ({ frames := 1, cells := 0, slots := 0, locals := 23 }) (va_Pc [.ref (hN 0), .int p1] (fun U => U.heap.size = sz ∧ va_P (dC, dI) vwCl (WN hN aN kN iN_arcs fN_from fN_to fN_room fN_cost iN_reached fN_free fN_before fN_flow fN_length fN_stop iN_stops fN_price fN_rest) U.heap ∧ va_K (dC, dI) vwCl (tN kN) U ∧ va_D (fun _ => True) (WN hN aN kN iN_arcs fN_from fN_to fN_room fN_cost iN_reached fN_free fN_before fN_flow fN_length fN_stop iN_stops fN_price fN_rest))) (va_Qv (fun (u : (Nat → Int32) × (Nat → Int32)) => (∀ q : Nat, 0 ≤ ((u.1) q).toInt ∧ ((u.1) q).toInt ≤ 79) ∧ (∃ rk, PrC fN_from fN_to fN_room fN_cost fN_flow iN_arcs.toInt.toNat (u.2) ∧ TrK fN_from fN_to fN_room fN_cost fN_flow iN_arcs.toInt.toNat p1.toInt.toNat (u.2) (fun w => enB ((u.1) w)) rk ∧ ((u.2) p1.toInt.toNat).toInt = 0 ∧ ∀ v, v < 12 → 0 ≤ ((u.2) v).toInt ∧ ((u.2) v).toInt ≤ 536870912 ∧ ((u.2) v ≠ 536870912 → ((u.2) v).toInt ≤ 11000))) (fun (u : (Nat → Int32) × (Nat → Int32)) t => va_P (dC, dI) vwCl (WN hN aN kN iN_arcs fN_from fN_to fN_room fN_cost iN_reached fN_free (u.1) fN_flow (u.2) fN_stop iN_stops fN_price fN_rest) t.heap ∧ va_D (va_A (WN hN aN kN iN_arcs fN_from fN_to fN_room fN_cost iN_reached fN_free fN_before fN_flow fN_length fN_stop iN_stops fN_price fN_rest) sz) (WN hN aN kN iN_arcs fN_from fN_to fN_room fN_cost iN_reached fN_free (u.1) fN_flow (u.2) fN_stop iN_stops fN_price fN_rest)) (va_A (WN hN aN kN iN_arcs fN_from fN_to fN_room fN_cost iN_reached fN_free fN_before fN_flow fN_length fN_stop iN_stops fN_price fN_rest) sz)) 0 0 (va_A (WN hN aN kN iN_arcs fN_from fN_to fN_room fN_cost iN_reached fN_free fN_before fN_flow fN_length fN_stop iN_stops fN_price fN_rest) sz) := by
  refine Met.ofW (cc := cX2_measure) (maxL := 5) (ret := none) (by decide) rfl ?_
  intro p e s m args below meth c s₁ B hml hv
  obtain ⟨rfl, hsz, hP, hK, hD0⟩ := hv
  have hx := B.exec
  have hb := B.bytes
  have hr := B.returns
  have hts := atoms_spec (ws := wsMX2_measure) B.pre
  have hown : s.vm.findClass RX2 = some m.cls := findClass_of_methodNamed B.named
  have hlocks := B.notSynchronized
  subst hsz
  have hD := hD0.self (sz := s.heap.size)
  generalize hAe : va_A (WN hN aN kN iN_arcs fN_from fN_to fN_room fN_cost iN_reached fN_free fN_before fN_flow fN_length fN_stop iN_stops fN_price fN_rest) s.heap.size = A at hD ⊢
  have hA : ∀ q : Nat, s.heap.size ≤ q → A q := fun q h => by rw [← hAe]; exact Or.inr h
  have hS : va_S A s.heap s.heap [] := va_S.rf
  have hl := lv_entry ([.ref (hN 0), .int p1]) (n := 5) (Nat.le_of_ble_eq_true rfl)
  rw [lg_entry_eq]
  generalize (lg_sl ([.ref (hN 0), .int p1]) ++ List.replicate (5 - (lg_sl ([.ref (hN 0), .int p1])).length) Slot.unset).toArray = ls at hl ⊢
  have hl : lv_has ls 5 [(0, .ref (hN 0)), (1, .int p1)] := hl
  obtain ⟨RR, pp, hX⟩ := hX0
  refine lv_aload_n hx hb dX2_measure_0 rfl (lv_at hl 0 rfl) ?_
  refine va_get (D := (dC, dI)) (ci := 2) (v := .ref (aN 7)) (C := RX2) (T := TX2) (N := 14) hx hb hts iwsMX2_measure_in2 hown hK hP 0 rfl rfl 9 (by decide) (hts _ hm_m_X2_measure_0) (fun _ h9 => h9) rfl dX2_measure_1 ?_
  refine lv_ldc (v := 536870912) hx hb hown (hts _ hm_m_X2_measure_1) dX2_measure_4 ?_
  have hPc : va_P (dC, dI) vwCl (WY (fun _ => 0) (fun _ => aN 7) (fun _ => kN 7) 12 fN_length) _ := hP.sub [8] rfl
  have hDc : va_D _ (WY (fun _ => 0) (fun _ => aN 7) (fun _ => kN 7) 12 fN_length) := hD.sub [8] (by decide) rfl
  have hKc : va_K (dC, dI) vwCl (tY (fun _ => kN 7)) _ := hK.sub [7] rfl
  have hFc := va_free (wc := WY (fun _ => 0) (fun _ => aN 7) (fun _ => kN 7) 12 fN_length) hD hS hA [8] rfl
  refine va_callv (va_runS (As := [.ref (aN 7), .int 536870912]) (rest := []) ⟨hx, hb, hml, hown, hts⟩ (m_J7_fill_53178 l dC dI (fun _ => 0) (fun _ => aN 7) (fun _ => kN 7) 12 fN_length 536870912 (by first | assumption | exact ⟨by omega, by omega⟩) s.heap.size) (va_cwS 2 hts gwsMX2_measure_0 rfl rfl rfl (by decide +kernel) ⟨by decide +kernel, by decide +kernel⟩) ⟨fun a U g mk q => by obtain ⟨q0, q1, qP, qK, qD⟩ := q; exact ⟨q0, q1, qP, va_K.moved (u := U) (U := U.calling g mk a) (Vm.Alike.refl U.vm) qK, qD⟩, fun U hU9 hW => ⟨rfl, by rw [hU9], by rw [hU9]; exact hPc, va_K.moved hW.alike hKc, hDc.weaken (fun _ _ _ _ => trivial)⟩⟩ rfl rfl hl.1 rfl (lv_room (Nat.le_of_ble_eq_true rfl)) dX2_measure_6 (by decide +kernel)) hS (fun q _ h => hFc q h) hFc (fun fY_1 t9_ H locs ht hvm hw9 hB9 hz1 hk1 hS => ?_)
  have f1_0 := hw9
  try dsimp only at f1_0
  obtain ⟨hP, hD⟩ := va_join (wr := [(hN 0, .inr (2, [.int iN_arcs, .ref (aN 0), .ref (aN 1), .ref (aN 2), .ref (aN 3), .int iN_reached, .ref (aN 4), .ref (aN 5), .ref (aN 6), .ref (aN 7), .ref (aN 8), .int iN_stops, .ref (aN 9), .ref (aN 10)])), (aN 0, .inl (kN 0, 40, .inl fN_from)), (aN 1, .inl (kN 1, 40, .inl fN_to)), (aN 2, .inl (kN 2, 40, .inl fN_room)), (aN 3, .inl (kN 3, 40, .inl fN_cost)), (aN 4, .inl (kN 4, 144, .inl fN_free)), (aN 5, .inl (kN 5, 12, .inl fN_before)), (aN 6, .inl (kN 6, 40, .inl fN_flow)), (aN 8, .inl (kN 8, 8, .inl fN_stop)), (aN 9, .inl (kN 9, 64, .inl fN_price)), (aN 10, .inl (kN 10, 1024, .inl fN_rest))]) (w1 := WY (fun _ => 0) (fun _ => aN 7) (fun _ => kN 7) 12 fY_1) hP hD [8] [0, 1, 2, 3, 4, 5, 6, 7, 9, 10, 11] rfl rfl (by decide) (by decide) hk1 hFc (fz_P ht hB9.1) hB9.2
  have hP : va_P (dC, dI) vwCl (WN hN aN kN iN_arcs fN_from fN_to fN_room fN_cost iN_reached fN_free fN_before fN_flow fY_1 fN_stop iN_stops fN_price fN_rest) H := hP.sub [0, 1, 2, 3, 4, 5, 6, 7, 11, 8, 9, 10] rfl
  have hD : va_D A (WN hN aN kN iN_arcs fN_from fN_to fN_room fN_cost iN_reached fN_free fN_before fN_flow fY_1 fN_stop iN_stops fN_price fN_rest) := hD.sub [0, 1, 2, 3, 4, 5, 6, 7, 11, 8, 9, 10] (by decide) rfl
  have hfil := f1_0
  refine lv_aload_n hx hb dX2_measure_9 rfl (lv_at hl 0 rfl) ?_
  refine va_get (D := (dC, dI)) (ci := 2) (v := .ref (aN 7)) (C := RX2) (T := TX2) (N := 14) hx hb hts iwsMX2_measure_in2 hown hK hP 0 rfl rfl 9 (by decide) (hts _ hm_m_X2_measure_0) (fun _ h9 => h9) rfl dX2_measure_10 ?_
  refine lv_iload_n hx hb dX2_measure_13 rfl (lv_at hl 1 rfl) ?_
  refine lv_iconst (v := 0) hx hb dX2_measure_14 (by decide) ?_
  refine va_iast (cA := kN 7) (n := 12) (f := fY_1) hx hb hK hP hD hS 8 7 rfl rfl (vp_in_iff.mpr ⟨b_p1.1, (Int.lt_of_le_of_lt (b_p1.2) (by decide))⟩) dX2_measure_15 (fun H locs hP hD hS => ?_)
  obtain ⟨u2, hu2⟩ : ∃ f9, f9 = upd fY_1 (p1).toNatClampNeg (0 : Int32) := ⟨_, rfl⟩
  have hP : va_P (dC, dI) vwCl (WN hN aN kN iN_arcs fN_from fN_to fN_room fN_cost iN_reached fN_free fN_before fN_flow u2 fN_stop iN_stops fN_price fN_rest) H := by rw [hu2]; exact hP
  have hD : va_D A (WN hN aN kN iN_arcs fN_from fN_to fN_room fN_cost iN_reached fN_free fN_before fN_flow u2 fN_stop iN_stops fN_price fN_rest) := by rw [hu2]; exact hD
  have b_u2 : u2 = upd fY_1 (p1).toNatClampNeg (0 : Int32) := hu2
  clear hu2
  refine lv_iconst (v := 1) hx hb dX2_measure_16 (by decide) ?_
  refine lv_istore_n hx hb dX2_measure_17 rfl hl (by decide) rfl (fun ls (hl : lv_has ls _ ([(2, .int 1), (0, .ref (hN 0)), (1, .int p1)])) => ?_)
  refine lv_iconst (v := 0) hx hb dX2_measure_18 (by decide) ?_
  refine lv_istore_n hx hb dX2_measure_19 rfl hl (by decide) rfl (fun ls (hl : lv_has ls _ ([(3, .int 0), (2, .int 1), (0, .ref (hN 0)), (1, .int p1)])) => ?_)
  have hl : lv_has _ _ ([(3, .int 0), (2, .int 1), (0, .ref (hN 0)), (1, .int p1)]) := lv_sub hl [0, 1, 2, 3] rfl
  refine (fun (loop : ∀ (n9 : Nat) (fN_before_x20 : Nat → Int32) (fN_length_x20 : Nat → Int32) (l3_x20 : Int32) (l2_x20 : Int32) (H : Heap) (locs : List Loc) (ls : Array Slot), (∀ q : Nat, 0 ≤ (fN_before_x20 q).toInt ∧ (fN_before_x20 q).toInt ≤ 79) → (0 ≤ l3_x20.toInt ∧ l3_x20.toInt ≤ 12) → (MsG fN_from fN_to fN_room fN_cost fN_flow iN_arcs.toInt.toNat p1.toInt.toNat RR pp fN_length_x20 (fun w => enB (fN_before_x20 w)) l3_x20.toInt.toNat l2_x20.toInt (fun _ => l3_x20.toInt.toNat) (fun _ => l3_x20.toInt.toNat)) → (12 - l3_x20.toInt < ((n9 : Nat) : Int)) → va_P (dC, dI) vwCl (WN hN aN kN iN_arcs fN_from fN_to fN_room fN_cost iN_reached fN_free fN_before_x20 fN_flow fN_length_x20 fN_stop iN_stops fN_price fN_rest) H → va_D A (WN hN aN kN iN_arcs fN_from fN_to fN_room fN_cost iN_reached fN_free fN_before_x20 fN_flow fN_length_x20 fN_stop iN_stops fN_price fN_rest) → va_S A s.heap H locs → lv_has ls 5 [(3, .int l3_x20), (2, .int l2_x20), (0, .ref (hN 0)), (1, .int p1)] → W p l e _ s m _ below meth c H locs 0 0 _ (F0 m 20 ls [])) => loop (13) fN_before u2 0 1 _ _ _ b_fN_before (show 0 ≤ (0 : Int32).toInt ∧ (0 : Int32).toInt ≤ 12 from by decide) (show MsG fN_from fN_to fN_room fN_cost fN_flow iN_arcs.toInt.toNat p1.toInt.toNat RR pp u2 (fun w => enB (fN_before w)) (0 : Int32).toInt.toNat (1 : Int32).toInt (fun _ => (0 : Int32).toInt.toNat) (fun _ => (0 : Int32).toInt.toNat) from MsG.start hX (by omega) (msIni hfil b_u2) (by decide) (by decide)) ((by have e9 : (0 : Int32).toInt = 0 := (by decide : (0 : Int32).toInt = 0); omega)) hP hD hS hl) ?_
  intro n9
  induction n9 with
  | zero => intro fN_before_x20 fN_length_x20 l3_x20 l2_x20 H locs ls b_fN_before_x20 b_l3_x20 hM hf9; exact False.elim (by omega)
  | succ n9 ihx20 =>
    intro fN_before_x20 fN_length_x20 l3_x20 l2_x20 H locs ls b_fN_before_x20 b_l3_x20 hM hfx20 hP hD hS hl
    refine lv_iload_n hx hb dX2_measure_20 rfl (lv_at hl 0 rfl) ?_
    refine lv_bipush (v := 12) hx hb dX2_measure_21 (by decide) ?_
    refine lv_icmp_ge (tgt := 286) hx hb dX2_measure_23 (by decide) (fun c_23 => ?_) (fun c_23 => ?_)
    · have t_23 : l3_x20.toInt ≥ 12 := toI_ge c_23 rfl (by decide : (12 : Int32).toInt = 12)
      refine W.widen (k := 0) (n := 0) (by decide +kernel) (by decide +kernel) ?_
      exact W.vret hx hb hr (fun t9_ ht hW => ⟨⟨(fN_before_x20, fN_length_x20), rfl, ⟨b_fN_before_x20, (by (try dsimp only); have h9 := MsG.done hM hX (by first | exact Or.inl (by omega) | exact Or.inr t_27); obtain ⟨g1, ⟨rk, g2⟩, g3, g4⟩ := h9; exact ⟨rk, g1, g2, g3, g4⟩)⟩, by rw [ht]; exact hP, hD⟩, hS.F ht⟩) hS.2.2 dX2_measure_286
    · have t_23 : ¬ l3_x20.toInt ≥ 12 := toI_nge c_23 rfl (by decide : (12 : Int32).toInt = 12)
      refine lv_iload_n hx hb dX2_measure_26 rfl (lv_at hl 1 rfl) ?_
      refine lv_if_eq (tgt := 286) hx hb dX2_measure_27 (by decide) (fun c_27 => ?_) (fun c_27 => ?_)
      · have t_27 : l2_x20.toInt = 0 := toI_eq c_27 rfl (by decide : (0 : Int32).toInt = 0)
        refine W.widen (k := 0) (n := 0) (by decide +kernel) (by decide +kernel) ?_
        exact W.vret hx hb hr (fun t9_ ht hW => ⟨⟨(fN_before_x20, fN_length_x20), rfl, ⟨b_fN_before_x20, (by (try dsimp only); have h9 := MsG.done hM hX (by first | exact Or.inl (by omega) | exact Or.inr t_27); obtain ⟨g1, ⟨rk, g2⟩, g3, g4⟩ := h9; exact ⟨rk, g1, g2, g3, g4⟩)⟩, by rw [ht]; exact hP, hD⟩, hS.F ht⟩) hS.2.2 dX2_measure_286
      · have t_27 : ¬ l2_x20.toInt = 0 := toI_neq c_27 rfl (by decide : (0 : Int32).toInt = 0)
        refine lv_iconst (v := 0) hx hb dX2_measure_30 (by decide) ?_
        refine lv_istore_n hx hb dX2_measure_31 rfl hl (by decide) rfl (fun ls (hl : lv_has ls _ ([(2, .int 0), (3, .int l3_x20), (0, .ref (hN 0)), (1, .int p1)])) => ?_)
        refine lv_iconst (v := 0) hx hb dX2_measure_32 (by decide) ?_
        refine lv_istore hx hb dX2_measure_33 hl (by decide) rfl (fun ls (hl : lv_has ls _ ([(4, .int 0), (2, .int 0), (3, .int l3_x20), (0, .ref (hN 0)), (1, .int p1)])) => ?_)
        have hl : lv_has _ _ ([(4, .int 0), (2, .int 0), (3, .int l3_x20), (0, .ref (hN 0)), (1, .int p1)]) := lv_sub hl [0, 1, 2, 3, 4] rfl
        refine (fun (loop : ∀ (n9 : Nat) (fN_before_x35 : Nat → Int32) (fN_length_x35 : Nat → Int32) (l4_x35 : Int32) (l2_x35 : Int32) (H : Heap) (locs : List Loc) (ls : Array Slot), (∀ q : Nat, 0 ≤ (fN_before_x35 q).toInt ∧ (fN_before_x35 q).toInt ≤ 79) → (0 ≤ l4_x35.toInt ∧ l4_x35.toInt ≤ 40) → (MsG fN_from fN_to fN_room fN_cost fN_flow iN_arcs.toInt.toNat p1.toInt.toNat RR pp fN_length_x35 (fun w => enB (fN_before_x35 w)) (l3_x20.toInt.toNat + 1) l2_x35.toInt (upB l3_x20.toInt.toNat l4_x35.toInt.toNat) (upB l3_x20.toInt.toNat l4_x35.toInt.toNat)) → (40 - l4_x35.toInt < ((n9 : Nat) : Int)) → va_P (dC, dI) vwCl (WN hN aN kN iN_arcs fN_from fN_to fN_room fN_cost iN_reached fN_free fN_before_x35 fN_flow fN_length_x35 fN_stop iN_stops fN_price fN_rest) H → va_D A (WN hN aN kN iN_arcs fN_from fN_to fN_room fN_cost iN_reached fN_free fN_before_x35 fN_flow fN_length_x35 fN_stop iN_stops fN_price fN_rest) → va_S A s.heap H locs → lv_has ls 5 [(4, .int l4_x35), (2, .int l2_x35), (3, .int l3_x20), (0, .ref (hN 0)), (1, .int p1)] → W p l e _ s m _ below meth c H locs 0 0 _ (F0 m 35 ls [])) => loop (41) fN_before_x20 fN_length_x20 0 0 _ _ _ b_fN_before_x20 (show 0 ≤ (0 : Int32).toInt ∧ (0 : Int32).toInt ≤ 40 from by decide) (show MsG fN_from fN_to fN_room fN_cost fN_flow iN_arcs.toInt.toNat p1.toInt.toNat RR pp fN_length_x20 (fun w => enB (fN_before_x20 w)) (l3_x20.toInt.toNat + 1) (0 : Int32).toInt (upB l3_x20.toInt.toNat (0 : Int32).toInt.toNat) (upB l3_x20.toInt.toNat (0 : Int32).toInt.toNat) from MsG.go hM (by decide)) ((by have e9 : (0 : Int32).toInt = 0 := (by decide : (0 : Int32).toInt = 0); omega)) hP hD hS hl) ?_
        intro n9
        induction n9 with
        | zero => intro fN_before_x35 fN_length_x35 l4_x35 l2_x35 H locs ls b_fN_before_x35 b_l4_x35 hI hf9; exact False.elim (by omega)
        | succ n9 ihx35 =>
          intro fN_before_x35 fN_length_x35 l4_x35 l2_x35 H locs ls b_fN_before_x35 b_l4_x35 hI hfx35 hP hD hS hl
          refine lv_iload hx hb dX2_measure_35 (lv_at hl 0 rfl) ?_
          refine lv_aload_n hx hb dX2_measure_37 rfl (lv_at hl 3 rfl) ?_
          refine va_get (D := (dC, dI)) (ci := 2) (v := .int iN_arcs) (C := RX2) (T := TX2) (N := 14) hx hb hts iwsMX2_measure_in2 hown hK hP 0 rfl rfl 0 (by decide) (hts (.fieldLink RX2 45 "OptimaWorks$NetDesk" "arcs" "I") (by decide +kernel)) (fun _ h9 => h9) rfl dX2_measure_38 ?_
          refine lv_icmp_ge (tgt := 280) hx hb dX2_measure_41 (by decide) (fun c_41 => ?_) (fun c_41 => ?_)
          · have t_41 : l4_x35.toInt ≥ iN_arcs.toInt := toI_ge c_41 rfl rfl
            refine lv_iinc (v := (iI (l3_x20.toInt + 1))) hx hb dX2_measure_280 hl (k := 2) rfl (iI_add2 (iI_of _) (by decide : (1 : Int32) = iI 1)) (by decide) rfl (fun ls (hl : lv_has ls _ ([(3, .int (iI (l3_x20.toInt + 1))), (4, .int l4_x35), (2, .int l2_x35), (0, .ref (hN 0)), (1, .int p1)])) => ?_)
            refine lv_goto (tgt := 20) hx hb dX2_measure_283 (by decide) ?_
            have hl : lv_has _ _ ([(3, .int (iI (l3_x20.toInt + 1))), (2, .int l2_x35), (0, .ref (hN 0)), (1, .int p1)]) := lv_sub hl [0, 2, 3, 4] rfl
            exact ihx20 fN_before_x35 fN_length_x35 (iI (l3_x20.toInt + 1)) l2_x35 _ _ _ b_fN_before_x35 (iI_rng (Int.le_trans (by decide) (Int.add_le_add (b_l3_x20.1) (Int.le_refl _))) (by omega) (by decide) (by decide)) (show MsG fN_from fN_to fN_room fN_cost fN_flow iN_arcs.toInt.toNat p1.toInt.toNat RR pp fN_length_x35 (fun w => enB (fN_before_x35 w)) (iI (l3_x20.toInt + 1)).toInt.toNat l2_x35.toInt (fun _ => (iI (l3_x20.toInt + 1)).toInt.toNat) (fun _ => (iI (l3_x20.toInt + 1)).toInt.toNat) from MsG.out hI (by omega) (by rw [iI_t (by omega) (by omega)]; omega)) (by have e9 : ((iI (l3_x20.toInt + 1))).toInt = (l3_x20.toInt + 1) := (iI_t (Int.le_trans (by decide) (Int.add_le_add (b_l3_x20.1) (Int.le_refl _))) (Int.le_trans (Int.add_le_add (b_l3_x20.2) (Int.le_refl _)) (by decide))); omega) hP hD hS hl
          · have t_41 : ¬ l4_x35.toInt ≥ iN_arcs.toInt := toI_nge c_41 rfl rfl
            obtain ⟨x5, y5, hx5, hy5, hxy5, ex5, ey5, hr5, hc5⟩ := hAr l4_x35.toInt.toNat (by omega)
            have hbd9 := MsG.bd hI hX
            have hB9 : ∀ n, n < 12 → 0 ≤ (fN_length_x35 n).toInt ∧ (fN_length_x35 n).toInt ≤ 536870912 := fun n hn => ⟨(hbd9 n hn).1, (hbd9 n hn).2.1⟩
            refine lv_aload_n hx hb dX2_measure_44 rfl (lv_at hl 3 rfl) ?_
            refine va_get (D := (dC, dI)) (ci := 2) (v := .ref (aN 6)) (C := RX2) (T := TX2) (N := 14) hx hb hts iwsMX2_measure_in2 hown hK hP 0 rfl rfl 8 (by decide) (hts _ hm_m_X2_measure_2) (fun _ h9 => h9) rfl dX2_measure_45 ?_
            refine lv_iload hx hb dX2_measure_48 (lv_at hl 0 rfl) ?_
            refine va_iald (cA := kN 6) (n := 40) (f := fN_flow) hx hb hK hP 7 6 rfl rfl (vp_in_iff.mpr ⟨b_l4_x35.1, (Int.lt_of_lt_of_le (Int.not_le.mp t_41) (Int.le_trans b_iN_arcs.2 (by decide)))⟩) dX2_measure_50 ?_
            refine lv_topi (fun v1176 hv1176 => ?_)
            have b_v1176 : v1176 = fN_flow (l4_x35).toNatClampNeg := hv1176
            clear hv1176
            refine lv_aload_n hx hb dX2_measure_51 rfl (lv_at hl 3 rfl) ?_
            refine va_get (D := (dC, dI)) (ci := 2) (v := .ref (aN 2)) (C := RX2) (T := TX2) (N := 14) hx hb hts iwsMX2_measure_in2 hown hK hP 0 rfl rfl 3 (by decide) (hts (.fieldLink RX2 18 "OptimaWorks$NetDesk" "room" "[I") (by decide +kernel)) (fun _ h9 => h9) rfl dX2_measure_52 ?_
            refine lv_iload hx hb dX2_measure_55 (lv_at hl 0 rfl) ?_
            refine va_iald (cA := kN 2) (n := 40) (f := fN_room) hx hb hK hP 3 2 rfl rfl (vp_in_iff.mpr ⟨b_l4_x35.1, (Int.lt_of_lt_of_le (Int.not_le.mp t_41) (Int.le_trans b_iN_arcs.2 (by decide)))⟩) dX2_measure_57 ?_
            refine lv_topi (fun v1177 hv1177 => ?_)
            have b_v1177 : v1177 = fN_room (l4_x35).toNatClampNeg := hv1177
            clear hv1177
            refine W.cut (pc := 161) (fun H locs ls stk => ∃ (fN_before_j71 : Nat → Int32) (fN_length_j71 : Nat → Int32) (l2_j71 : Int32), (∀ q : Nat, 0 ≤ (fN_before_j71 q).toInt ∧ (fN_before_j71 q).toInt ≤ 79) ∧ (MsG fN_from fN_to fN_room fN_cost fN_flow iN_arcs.toInt.toNat p1.toInt.toNat RR pp fN_length_j71 (fun w => enB (fN_before_j71 w)) (l3_x20.toInt.toNat + 1) l2_j71.toInt (upB l3_x20.toInt.toNat (l4_x35.toInt.toNat + 1)) (upB l3_x20.toInt.toNat l4_x35.toInt.toNat)) ∧  stk = [] ∧ va_P (dC, dI) vwCl (WN hN aN kN iN_arcs fN_from fN_to fN_room fN_cost iN_reached fN_free fN_before_j71 fN_flow fN_length_j71 fN_stop iN_stops fN_price fN_rest) H ∧ va_D A (WN hN aN kN iN_arcs fN_from fN_to fN_room fN_cost iN_reached fN_free fN_before_j71 fN_flow fN_length_j71 fN_stop iN_stops fN_price fN_rest) ∧ va_S A s.heap H locs ∧ lv_has ls 5 [(4, .int l4_x35), (2, .int l2_j71), (3, .int l3_x20), (0, .ref (hN 0)), (1, .int p1)]) (fun join71 => ?_) ?_
            · refine lv_icmp_ge (tgt := 161) hx hb dX2_measure_58 (by decide) (fun c_58 => ?_) (fun c_58 => ?_)
              · have t_58 : v1176.toInt ≥ v1177.toInt := toI_ge c_58 rfl rfl
                have hl : lv_has _ _ ([(4, .int l4_x35), (2, .int l2_x35), (3, .int l3_x20), (0, .ref (hN 0)), (1, .int p1)]) := lv_sub hl [0, 1, 2, 3, 4] rfl
                exact join71 _ _ _ _ ⟨fN_before_x35, fN_length_x35, l2_x35, b_fN_before_x35, (show MsG fN_from fN_to fN_room fN_cost fN_flow iN_arcs.toInt.toNat p1.toInt.toNat RR pp fN_length_x35 (fun w => enB (fN_before_x35 w)) (l3_x20.toInt.toNat + 1) l2_x35.toInt (upB l3_x20.toInt.toNat (l4_x35.toInt.toNat + 1)) (upB l3_x20.toInt.toNat l4_x35.toInt.toNat) from by first | (have q3 := rowAt b1_v1181 b1_v1180 hx5 ex5; have q4 := rowAt b1_v1185 b1_v1184 hy5 ey5; have q5 : (fN_cost l4_x35.toInt.toNat).toInt = v1182.toInt := (by rw [b1_v1182]; rfl); exact MsG.skipF hI hx5 hy5 ex5 ey5 (fun _ h2 => by rw [q4, q3, q5]; omega)) | (have q3 := rowAt b1_v1179 b1_v1178 hx5 ex5; exact MsG.skipF hI hx5 hy5 ex5 ey5 (fun _ h2 => absurd (Int32.toInt_inj.mp (by have h9 := (hB9 x5 hx5).2; rw [q3] at h9 ⊢; rw [show (536870912 : Int32).toInt = 536870912 from by decide]; omega)) h2)) | (have q1 : (fN_flow l4_x35.toInt.toNat).toInt = v1176.toInt := (by rw [b_v1176]; rfl); have q2 : (fN_room l4_x35.toInt.toNat).toInt = v1177.toInt := (by rw [b_v1177]; rfl); exact MsG.skipF hI hx5 hy5 ex5 ey5 (fun h1 _ => absurd h1 (by omega)))), rfl, hP, hD, hS, hl⟩
              · have t_58 : ¬ v1176.toInt ≥ v1177.toInt := toI_nge c_58 rfl rfl
                refine lv_aload_n hx hb dX2_measure_61 rfl (lv_at hl 3 rfl) ?_
                refine va_get (D := (dC, dI)) (ci := 2) (v := .ref (aN 7)) (C := RX2) (T := TX2) (N := 14) hx hb hts iwsMX2_measure_in2 hown hK hP 0 rfl rfl 9 (by decide) (hts _ hm_m_X2_measure_0) (fun _ h9 => h9) rfl dX2_measure_62 ?_
                refine lv_aload_n hx hb dX2_measure_65 rfl (lv_at hl 3 rfl) ?_
                refine va_get (D := (dC, dI)) (ci := 2) (v := .ref (aN 0)) (C := RX2) (T := TX2) (N := 14) hx hb hts iwsMX2_measure_in2 hown hK hP 0 rfl rfl 1 (by decide) (hts _ hm_m_X2_measure_3) (fun _ h9 => h9) rfl dX2_measure_66 ?_
                refine lv_iload hx hb dX2_measure_69 (lv_at hl 0 rfl) ?_
                refine va_iald (cA := kN 0) (n := 40) (f := fN_from) hx hb hK hP 1 0 rfl rfl (vp_in_iff.mpr ⟨b_l4_x35.1, (by omega)⟩) dX2_measure_71 ?_
                refine lv_topi (fun v1194 hv1194 => ?_)
                have b_v1194 : 0 ≤ v1194.toInt ∧ v1194.toInt ≤ 11 := by rw [hv1194]; exact b_fN_from _
                have b1_v1194 : v1194 = fN_from (l4_x35).toNatClampNeg := hv1194
                clear hv1194
                refine va_iald (cA := kN 7) (n := 12) (f := fN_length_x35) hx hb hK hP 8 7 rfl rfl (vp_in_iff.mpr ⟨b_v1194.1, (Int.lt_of_le_of_lt (b_v1194.2) (by decide))⟩) dX2_measure_72 ?_
                refine lv_topi (fun v1195 hv1195 => ?_)
                have b_v1195 : 0 ≤ v1195.toInt ∧ v1195.toInt ≤ 536870912 := by rw [hv1195]; exact hB9 _ (show (v1194).toNatClampNeg < 12 from by have h9 : (v1194).toNatClampNeg = v1194.toInt.toNat := rfl; omega)
                have b1_v1195 : v1195 = fN_length_x35 (v1194).toNatClampNeg := hv1195
                clear hv1195
                refine lv_ldc (v := 536870912) hx hb hown (hts _ hm_m_X2_measure_1) dX2_measure_73 ?_
                refine lv_icmp_ge (tgt := 161) hx hb dX2_measure_75 (by decide) (fun c_75 => ?_) (fun c_75 => ?_)
                · have t_75 : v1195.toInt ≥ 536870912 := toI_ge c_75 rfl (by decide : (536870912 : Int32).toInt = 536870912)
                  have hl : lv_has _ _ ([(4, .int l4_x35), (2, .int l2_x35), (3, .int l3_x20), (0, .ref (hN 0)), (1, .int p1)]) := lv_sub hl [0, 1, 2, 3, 4] rfl
                  exact join71 _ _ _ _ ⟨fN_before_x35, fN_length_x35, l2_x35, b_fN_before_x35, (show MsG fN_from fN_to fN_room fN_cost fN_flow iN_arcs.toInt.toNat p1.toInt.toNat RR pp fN_length_x35 (fun w => enB (fN_before_x35 w)) (l3_x20.toInt.toNat + 1) l2_x35.toInt (upB l3_x20.toInt.toNat (l4_x35.toInt.toNat + 1)) (upB l3_x20.toInt.toNat l4_x35.toInt.toNat) from by first | (have q3 := rowAt b1_v1181 b1_v1180 hx5 ex5; have q4 := rowAt b1_v1185 b1_v1184 hy5 ey5; have q5 : (fN_cost l4_x35.toInt.toNat).toInt = v1182.toInt := (by rw [b1_v1182]; rfl); exact MsG.skipF hI hx5 hy5 ex5 ey5 (fun _ h2 => by rw [q4, q3, q5]; omega)) | (have q3 := rowAt b1_v1195 b1_v1194 hx5 ex5; exact MsG.skipF hI hx5 hy5 ex5 ey5 (fun _ h2 => absurd (Int32.toInt_inj.mp (by have h9 := (hB9 x5 hx5).2; rw [q3] at h9 ⊢; rw [show (536870912 : Int32).toInt = 536870912 from by decide]; omega)) h2)) | (have q1 : (fN_flow l4_x35.toInt.toNat).toInt = v1176.toInt := (by rw [b_v1176]; rfl); have q2 : (fN_room l4_x35.toInt.toNat).toInt = v1177.toInt := (by rw [b_v1177]; rfl); exact MsG.skipF hI hx5 hy5 ex5 ey5 (fun h1 _ => absurd h1 (by omega)))), rfl, hP, hD, hS, hl⟩
                · have t_75 : ¬ v1195.toInt ≥ 536870912 := toI_nge c_75 rfl (by decide : (536870912 : Int32).toInt = 536870912)
                  refine lv_aload_n hx hb dX2_measure_78 rfl (lv_at hl 3 rfl) ?_
                  refine va_get (D := (dC, dI)) (ci := 2) (v := .ref (aN 7)) (C := RX2) (T := TX2) (N := 14) hx hb hts iwsMX2_measure_in2 hown hK hP 0 rfl rfl 9 (by decide) (hts _ hm_m_X2_measure_0) (fun _ h9 => h9) rfl dX2_measure_79 ?_
                  refine lv_aload_n hx hb dX2_measure_82 rfl (lv_at hl 3 rfl) ?_
                  refine va_get (D := (dC, dI)) (ci := 2) (v := .ref (aN 0)) (C := RX2) (T := TX2) (N := 14) hx hb hts iwsMX2_measure_in2 hown hK hP 0 rfl rfl 1 (by decide) (hts _ hm_m_X2_measure_3) (fun _ h9 => h9) rfl dX2_measure_83 ?_
                  refine lv_iload hx hb dX2_measure_86 (lv_at hl 0 rfl) ?_
                  refine va_iald (cA := kN 0) (n := 40) (f := fN_from) hx hb hK hP 1 0 rfl rfl (vp_in_iff.mpr ⟨b_l4_x35.1, (by omega)⟩) dX2_measure_88 ?_
                  refine lv_topi (fun v1196 hv1196 => ?_)
                  have b_v1196 : 0 ≤ v1196.toInt ∧ v1196.toInt ≤ 11 := by rw [hv1196]; exact b_fN_from _
                  have b1_v1196 : v1196 = fN_from (l4_x35).toNatClampNeg := hv1196
                  clear hv1196
                  refine va_iald (cA := kN 7) (n := 12) (f := fN_length_x35) hx hb hK hP 8 7 rfl rfl (vp_in_iff.mpr ⟨b_v1196.1, (Int.lt_of_le_of_lt (b_v1196.2) (by decide))⟩) dX2_measure_89 ?_
                  refine lv_topi (fun v1197 hv1197 => ?_)
                  have b_v1197 : 0 ≤ v1197.toInt ∧ v1197.toInt ≤ 536870912 := by rw [hv1197]; exact hB9 _ (show (v1196).toNatClampNeg < 12 from by have h9 : (v1196).toNatClampNeg = v1196.toInt.toNat := rfl; omega)
                  have b1_v1197 : v1197 = fN_length_x35 (v1196).toNatClampNeg := hv1197
                  clear hv1197
                  refine lv_aload_n hx hb dX2_measure_90 rfl (lv_at hl 3 rfl) ?_
                  refine va_get (D := (dC, dI)) (ci := 2) (v := .ref (aN 3)) (C := RX2) (T := TX2) (N := 14) hx hb hts iwsMX2_measure_in2 hown hK hP 0 rfl rfl 4 (by decide) (hts _ hm_m_X2_measure_4) (fun _ h9 => h9) rfl dX2_measure_91 ?_
                  refine lv_iload hx hb dX2_measure_94 (lv_at hl 0 rfl) ?_
                  refine va_iald (cA := kN 3) (n := 40) (f := fN_cost) hx hb hK hP 4 3 rfl rfl (vp_in_iff.mpr ⟨b_l4_x35.1, (by omega)⟩) dX2_measure_96 ?_
                  refine lv_topi (fun v1198 hv1198 => ?_)
                  have b_v1198 : 0 ≤ v1198.toInt ∧ v1198.toInt ≤ 1000 := by rw [hv1198]; exact hc5
                  have b1_v1198 : v1198 = fN_cost (l4_x35).toNatClampNeg := hv1198
                  clear hv1198
                  refine lv_iadd hx hb dX2_measure_97 ?_
                  refine lv_topi (fun y1199 hy1199 => ?_)
                  obtain rfl : (iI (v1197.toInt + v1198.toInt)) = y1199 := (hy1199.trans (iI_add2 (iI_of _) (iI_of _))).symm
                  refine lv_aload_n hx hb dX2_measure_98 rfl (lv_at hl 3 rfl) ?_
                  refine va_get (D := (dC, dI)) (ci := 2) (v := .ref (aN 7)) (C := RX2) (T := TX2) (N := 14) hx hb hts iwsMX2_measure_in2 hown hK hP 0 rfl rfl 9 (by decide) (hts _ hm_m_X2_measure_0) (fun _ h9 => h9) rfl dX2_measure_99 ?_
                  refine lv_aload_n hx hb dX2_measure_102 rfl (lv_at hl 3 rfl) ?_
                  refine va_get (D := (dC, dI)) (ci := 2) (v := .ref (aN 1)) (C := RX2) (T := TX2) (N := 14) hx hb hts iwsMX2_measure_in2 hown hK hP 0 rfl rfl 2 (by decide) (hts _ hm_m_X2_measure_5) (fun _ h9 => h9) rfl dX2_measure_103 ?_
                  refine lv_iload hx hb dX2_measure_106 (lv_at hl 0 rfl) ?_
                  refine va_iald (cA := kN 1) (n := 40) (f := fN_to) hx hb hK hP 2 1 rfl rfl (vp_in_iff.mpr ⟨b_l4_x35.1, (by omega)⟩) dX2_measure_108 ?_
                  refine lv_topi (fun v1200 hv1200 => ?_)
                  have b_v1200 : 0 ≤ v1200.toInt ∧ v1200.toInt ≤ 11 := by rw [hv1200]; exact b_fN_to _
                  have b1_v1200 : v1200 = fN_to (l4_x35).toNatClampNeg := hv1200
                  clear hv1200
                  refine va_iald (cA := kN 7) (n := 12) (f := fN_length_x35) hx hb hK hP 8 7 rfl rfl (vp_in_iff.mpr ⟨b_v1200.1, (Int.lt_of_le_of_lt (b_v1200.2) (by decide))⟩) dX2_measure_109 ?_
                  refine lv_topi (fun v1201 hv1201 => ?_)
                  have b_v1201 : 0 ≤ v1201.toInt ∧ v1201.toInt ≤ 536870912 := by rw [hv1201]; exact hB9 _ (show (v1200).toNatClampNeg < 12 from by have h9 : (v1200).toNatClampNeg = v1200.toInt.toNat := rfl; omega)
                  have b1_v1201 : v1201 = fN_length_x35 (v1200).toNatClampNeg := hv1201
                  clear hv1201
                  refine lv_icmp_ge (tgt := 161) hx hb dX2_measure_110 (by decide) (fun c_110 => ?_) (fun c_110 => ?_)
                  · have t_110 : (v1197.toInt + v1198.toInt) ≥ v1201.toInt := toI_ge c_110 (iI_t (Int.le_trans (by decide) (Int.add_le_add (b_v1197.1) (b_v1198.1))) (Int.le_trans (Int.add_le_add (b_v1197.2) (b_v1198.2)) (by decide))) rfl
                    have hl : lv_has _ _ ([(4, .int l4_x35), (2, .int l2_x35), (3, .int l3_x20), (0, .ref (hN 0)), (1, .int p1)]) := lv_sub hl [0, 1, 2, 3, 4] rfl
                    exact join71 _ _ _ _ ⟨fN_before_x35, fN_length_x35, l2_x35, b_fN_before_x35, (show MsG fN_from fN_to fN_room fN_cost fN_flow iN_arcs.toInt.toNat p1.toInt.toNat RR pp fN_length_x35 (fun w => enB (fN_before_x35 w)) (l3_x20.toInt.toNat + 1) l2_x35.toInt (upB l3_x20.toInt.toNat (l4_x35.toInt.toNat + 1)) (upB l3_x20.toInt.toNat l4_x35.toInt.toNat) from by first | (have q3 := rowAt b1_v1197 b1_v1196 hx5 ex5; have q4 := rowAt b1_v1201 b1_v1200 hy5 ey5; have q5 : (fN_cost l4_x35.toInt.toNat).toInt = v1198.toInt := (by rw [b1_v1198]; rfl); exact MsG.skipF hI hx5 hy5 ex5 ey5 (fun _ h2 => by rw [q4, q3, q5]; omega)) | (have q3 := rowAt b1_v1195 b1_v1194 hx5 ex5; exact MsG.skipF hI hx5 hy5 ex5 ey5 (fun _ h2 => absurd (Int32.toInt_inj.mp (by have h9 := (hB9 x5 hx5).2; rw [q3] at h9 ⊢; rw [show (536870912 : Int32).toInt = 536870912 from by decide]; omega)) h2)) | (have q1 : (fN_flow l4_x35.toInt.toNat).toInt = v1176.toInt := (by rw [b_v1176]; rfl); have q2 : (fN_room l4_x35.toInt.toNat).toInt = v1177.toInt := (by rw [b_v1177]; rfl); exact MsG.skipF hI hx5 hy5 ex5 ey5 (fun h1 _ => absurd h1 (by omega)))), rfl, hP, hD, hS, hl⟩
                  · have t_110 : ¬ (v1197.toInt + v1198.toInt) ≥ v1201.toInt := toI_nge c_110 (iI_t (Int.le_trans (by decide) (Int.add_le_add (b_v1197.1) (b_v1198.1))) (Int.le_trans (Int.add_le_add (b_v1197.2) (b_v1198.2)) (by decide))) rfl
                    refine lv_aload_n hx hb dX2_measure_113 rfl (lv_at hl 3 rfl) ?_
                    refine va_get (D := (dC, dI)) (ci := 2) (v := .ref (aN 7)) (C := RX2) (T := TX2) (N := 14) hx hb hts iwsMX2_measure_in2 hown hK hP 0 rfl rfl 9 (by decide) (hts _ hm_m_X2_measure_0) (fun _ h9 => h9) rfl dX2_measure_114 ?_
                    refine lv_aload_n hx hb dX2_measure_117 rfl (lv_at hl 3 rfl) ?_
                    refine va_get (D := (dC, dI)) (ci := 2) (v := .ref (aN 1)) (C := RX2) (T := TX2) (N := 14) hx hb hts iwsMX2_measure_in2 hown hK hP 0 rfl rfl 2 (by decide) (hts _ hm_m_X2_measure_5) (fun _ h9 => h9) rfl dX2_measure_118 ?_
                    refine lv_iload hx hb dX2_measure_121 (lv_at hl 0 rfl) ?_
                    refine va_iald (cA := kN 1) (n := 40) (f := fN_to) hx hb hK hP 2 1 rfl rfl (vp_in_iff.mpr ⟨b_l4_x35.1, (by omega)⟩) dX2_measure_123 ?_
                    refine lv_topi (fun v1202 hv1202 => ?_)
                    have b_v1202 : 0 ≤ v1202.toInt ∧ v1202.toInt ≤ 11 := by rw [hv1202]; exact b_fN_to _
                    have b1_v1202 : v1202 = fN_to (l4_x35).toNatClampNeg := hv1202
                    clear hv1202
                    refine lv_aload_n hx hb dX2_measure_124 rfl (lv_at hl 3 rfl) ?_
                    refine va_get (D := (dC, dI)) (ci := 2) (v := .ref (aN 7)) (C := RX2) (T := TX2) (N := 14) hx hb hts iwsMX2_measure_in2 hown hK hP 0 rfl rfl 9 (by decide) (hts _ hm_m_X2_measure_0) (fun _ h9 => h9) rfl dX2_measure_125 ?_
                    refine lv_aload_n hx hb dX2_measure_128 rfl (lv_at hl 3 rfl) ?_
                    refine va_get (D := (dC, dI)) (ci := 2) (v := .ref (aN 0)) (C := RX2) (T := TX2) (N := 14) hx hb hts iwsMX2_measure_in2 hown hK hP 0 rfl rfl 1 (by decide) (hts _ hm_m_X2_measure_3) (fun _ h9 => h9) rfl dX2_measure_129 ?_
                    refine lv_iload hx hb dX2_measure_132 (lv_at hl 0 rfl) ?_
                    refine va_iald (cA := kN 0) (n := 40) (f := fN_from) hx hb hK hP 1 0 rfl rfl (vp_in_iff.mpr ⟨b_l4_x35.1, (by omega)⟩) dX2_measure_134 ?_
                    refine lv_topi (fun v1203 hv1203 => ?_)
                    have b_v1203 : 0 ≤ v1203.toInt ∧ v1203.toInt ≤ 11 := by rw [hv1203]; exact b_fN_from _
                    have b1_v1203 : v1203 = fN_from (l4_x35).toNatClampNeg := hv1203
                    clear hv1203
                    refine va_iald (cA := kN 7) (n := 12) (f := fN_length_x35) hx hb hK hP 8 7 rfl rfl (vp_in_iff.mpr ⟨b_v1203.1, (Int.lt_of_le_of_lt (b_v1203.2) (by decide))⟩) dX2_measure_135 ?_
                    refine lv_topi (fun v1204 hv1204 => ?_)
                    have b_v1204 : 0 ≤ v1204.toInt ∧ v1204.toInt ≤ 536870912 := by rw [hv1204]; exact hB9 _ (show (v1203).toNatClampNeg < 12 from by have h9 : (v1203).toNatClampNeg = v1203.toInt.toNat := rfl; omega)
                    have b1_v1204 : v1204 = fN_length_x35 (v1203).toNatClampNeg := hv1204
                    clear hv1204
                    refine lv_aload_n hx hb dX2_measure_136 rfl (lv_at hl 3 rfl) ?_
                    refine va_get (D := (dC, dI)) (ci := 2) (v := .ref (aN 3)) (C := RX2) (T := TX2) (N := 14) hx hb hts iwsMX2_measure_in2 hown hK hP 0 rfl rfl 4 (by decide) (hts _ hm_m_X2_measure_4) (fun _ h9 => h9) rfl dX2_measure_137 ?_
                    refine lv_iload hx hb dX2_measure_140 (lv_at hl 0 rfl) ?_
                    refine va_iald (cA := kN 3) (n := 40) (f := fN_cost) hx hb hK hP 4 3 rfl rfl (vp_in_iff.mpr ⟨b_l4_x35.1, (by omega)⟩) dX2_measure_142 ?_
                    refine lv_topi (fun v1205 hv1205 => ?_)
                    have b_v1205 : 0 ≤ v1205.toInt ∧ v1205.toInt ≤ 1000 := by rw [hv1205]; exact hc5
                    have b1_v1205 : v1205 = fN_cost (l4_x35).toNatClampNeg := hv1205
                    clear hv1205
                    refine lv_iadd hx hb dX2_measure_143 ?_
                    refine lv_topi (fun y1206 hy1206 => ?_)
                    obtain rfl : (iI (v1204.toInt + v1205.toInt)) = y1206 := (hy1206.trans (iI_add2 (iI_of _) (iI_of _))).symm
                    refine va_iast (cA := kN 7) (n := 12) (f := fN_length_x35) hx hb hK hP hD hS 8 7 rfl rfl (vp_in_iff.mpr ⟨b_v1202.1, (Int.lt_of_le_of_lt (b_v1202.2) (by decide))⟩) dX2_measure_144 (fun H locs hP hD hS => ?_)
                    obtain ⟨u1207, hu1207⟩ : ∃ f9, f9 = upd fN_length_x35 (v1202).toNatClampNeg (iI (v1204.toInt + v1205.toInt)) := ⟨_, rfl⟩
                    have hP : va_P (dC, dI) vwCl (WN hN aN kN iN_arcs fN_from fN_to fN_room fN_cost iN_reached fN_free fN_before_x35 fN_flow u1207 fN_stop iN_stops fN_price fN_rest) H := by rw [hu1207]; exact hP
                    have hD : va_D A (WN hN aN kN iN_arcs fN_from fN_to fN_room fN_cost iN_reached fN_free fN_before_x35 fN_flow u1207 fN_stop iN_stops fN_price fN_rest) := by rw [hu1207]; exact hD
                    have b_u1207 : u1207 = upd fN_length_x35 (v1202).toNatClampNeg (iI (v1204.toInt + v1205.toInt)) := hu1207
                    clear hu1207
                    refine lv_aload_n hx hb dX2_measure_145 rfl (lv_at hl 3 rfl) ?_
                    refine va_get (D := (dC, dI)) (ci := 2) (v := .ref (aN 5)) (C := RX2) (T := TX2) (N := 14) hx hb hts iwsMX2_measure_in2 hown hK hP 0 rfl rfl 7 (by decide) (hts _ hm_m_X2_measure_6) (fun _ h9 => h9) rfl dX2_measure_146 ?_
                    refine lv_aload_n hx hb dX2_measure_149 rfl (lv_at hl 3 rfl) ?_
                    refine va_get (D := (dC, dI)) (ci := 2) (v := .ref (aN 1)) (C := RX2) (T := TX2) (N := 14) hx hb hts iwsMX2_measure_in2 hown hK hP 0 rfl rfl 2 (by decide) (hts _ hm_m_X2_measure_5) (fun _ h9 => h9) rfl dX2_measure_150 ?_
                    refine lv_iload hx hb dX2_measure_153 (lv_at hl 0 rfl) ?_
                    refine va_iald (cA := kN 1) (n := 40) (f := fN_to) hx hb hK hP 2 1 rfl rfl (vp_in_iff.mpr ⟨b_l4_x35.1, (by omega)⟩) dX2_measure_155 ?_
                    refine lv_topi (fun v1208 hv1208 => ?_)
                    have b_v1208 : 0 ≤ v1208.toInt ∧ v1208.toInt ≤ 11 := by rw [hv1208]; exact b_fN_to _
                    have b1_v1208 : v1208 = fN_to (l4_x35).toNatClampNeg := hv1208
                    clear hv1208
                    refine lv_iload hx hb dX2_measure_156 (lv_at hl 0 rfl) ?_
                    refine va_iast (cA := kN 5) (n := 12) (f := fN_before_x35) hx hb hK hP hD hS 6 5 rfl rfl (vp_in_iff.mpr ⟨b_v1208.1, (Int.lt_of_le_of_lt (b_v1208.2) (by decide))⟩) dX2_measure_158 (fun H locs hP hD hS => ?_)
                    obtain ⟨u1209, hu1209⟩ : ∃ f9, f9 = upd fN_before_x35 (v1208).toNatClampNeg l4_x35 := ⟨_, rfl⟩
                    have hP : va_P (dC, dI) vwCl (WN hN aN kN iN_arcs fN_from fN_to fN_room fN_cost iN_reached fN_free u1209 fN_flow u1207 fN_stop iN_stops fN_price fN_rest) H := by rw [hu1209]; exact hP
                    have hD : va_D A (WN hN aN kN iN_arcs fN_from fN_to fN_room fN_cost iN_reached fN_free u1209 fN_flow u1207 fN_stop iN_stops fN_price fN_rest) := by rw [hu1209]; exact hD
                    have b_u1209 : ∀ q : Nat, 0 ≤ (u1209 q).toInt ∧ (u1209 q).toInt ≤ 79 := by rw [hu1209]; exact upd_r b_fN_before_x35 (⟨b_l4_x35.1, Int.le_trans b_l4_x35.2 (by decide)⟩)
                    have b1_u1209 : u1209 = upd fN_before_x35 (v1208).toNatClampNeg l4_x35 := hu1209
                    clear hu1209
                    refine lv_iconst (v := 1) hx hb dX2_measure_159 (by decide) ?_
                    refine lv_istore_n hx hb dX2_measure_160 rfl hl (by decide) rfl (fun ls (hl : lv_has ls _ ([(2, .int 1), (4, .int l4_x35), (3, .int l3_x20), (0, .ref (hN 0)), (1, .int p1)])) => ?_)
                    have hl : lv_has _ _ ([(4, .int l4_x35), (2, .int 1), (3, .int l3_x20), (0, .ref (hN 0)), (1, .int p1)]) := lv_sub hl [1, 0, 2, 3, 4] rfl
                    exact join71 _ _ _ _ ⟨u1209, u1207, 1, b_u1209, (show MsG fN_from fN_to fN_room fN_cost fN_flow iN_arcs.toInt.toNat p1.toInt.toNat RR pp u1207 (fun w => enB (u1209 w)) (l3_x20.toInt.toNat + 1) (1 : Int32).toInt (upB l3_x20.toInt.toNat (l4_x35.toInt.toNat + 1)) (upB l3_x20.toInt.toNat l4_x35.toInt.toNat) from by have q1 : (fN_flow l4_x35.toInt.toNat).toInt = v1176.toInt := (by rw [b_v1176]; rfl); have q2 : (fN_room l4_x35.toInt.toNat).toInt = v1177.toInt := (by rw [b_v1177]; rfl); have q3 := rowAt b1_v1195 b1_v1194 hx5 ex5; have q4 := rowAt b1_v1197 b1_v1196 hx5 ex5; have q5 : (fN_cost l4_x35.toInt.toNat).toInt = v1198.toInt := (by rw [b1_v1198]; rfl); have q6 := rowAt b1_v1201 b1_v1200 hy5 ey5; have q7 := rowAt b1_v1204 b1_v1203 hx5 ex5; have q8 : (fN_cost l4_x35.toInt.toNat).toInt = v1205.toInt := (by rw [b1_v1205]; rfl); have u1 := updAt b_u1207 (ixAt b1_v1202 hy5 ey5); have u2 := updAt b1_u1209 (ixAt b1_v1208 hy5 ey5); exact MsG.mendF hI hX (by omega) (by omega) hx5 hy5 hxy5 ex5 ey5 hc5 (by omega) (fun e9 => by rw [q3] at e9; rw [e9] at t_75; exact t_75 (by decide)) (by rw [q4, q5, q6]; omega) (by rw [u1.1, q7, q8, iI_t (by omega) (by omega)]) u1.2 (by show (enB (u1209 y5)).toInt = _; rw [u2.1]; exact enB_f (by omega) (by omega)) (fun w hw => by show enB (u1209 w) = enB (fN_before_x35 w); rw [u2.2 w hw])), rfl, hP, hD, hS, hl⟩
            · intro H locs ls stk
              refine fz_e3 ?_
              intro fN_before_j71 fN_length_j71 l2_j71
              refine fz_a7 ?_
              intro b_fN_before_j71 hI2 hst9_2 hP hD hS hl
              subst hst9_2
              have hbd8 := MsG.bd hI2 hX
              have hB9 : ∀ n, n < 12 → 0 ≤ (fN_length_j71 n).toInt ∧ (fN_length_j71 n).toInt ≤ 536870912 := fun n hn => ⟨(hbd8 n hn).1, (hbd8 n hn).2.1⟩
              refine lv_aload_n hx hb dX2_measure_161 rfl (lv_at hl 3 rfl) ?_
              refine va_get (D := (dC, dI)) (ci := 2) (v := .ref (aN 6)) (C := RX2) (T := TX2) (N := 14) hx hb hts iwsMX2_measure_in2 hown hK hP 0 rfl rfl 8 (by decide) (hts _ hm_m_X2_measure_2) (fun _ h9 => h9) rfl dX2_measure_162 ?_
              refine lv_iload hx hb dX2_measure_165 (lv_at hl 0 rfl) ?_
              refine va_iald (cA := kN 6) (n := 40) (f := fN_flow) hx hb hK hP 7 6 rfl rfl (vp_in_iff.mpr ⟨b_l4_x35.1, (by omega)⟩) dX2_measure_167 ?_
              refine lv_topi (fun v1210 hv1210 => ?_)
              have b_v1210 : v1210 = fN_flow (l4_x35).toNatClampNeg := hv1210
              clear hv1210
              refine W.cut (pc := 274) (fun H locs ls stk => ∃ (fN_before_j72 : Nat → Int32) (fN_length_j72 : Nat → Int32) (l2_j72 : Int32), (∀ q : Nat, 0 ≤ (fN_before_j72 q).toInt ∧ (fN_before_j72 q).toInt ≤ 79) ∧ (MsG fN_from fN_to fN_room fN_cost fN_flow iN_arcs.toInt.toNat p1.toInt.toNat RR pp fN_length_j72 (fun w => enB (fN_before_j72 w)) (l3_x20.toInt.toNat + 1) l2_j72.toInt (upB l3_x20.toInt.toNat (l4_x35.toInt.toNat + 1)) (upB l3_x20.toInt.toNat (l4_x35.toInt.toNat + 1))) ∧  stk = [] ∧ va_P (dC, dI) vwCl (WN hN aN kN iN_arcs fN_from fN_to fN_room fN_cost iN_reached fN_free fN_before_j72 fN_flow fN_length_j72 fN_stop iN_stops fN_price fN_rest) H ∧ va_D A (WN hN aN kN iN_arcs fN_from fN_to fN_room fN_cost iN_reached fN_free fN_before_j72 fN_flow fN_length_j72 fN_stop iN_stops fN_price fN_rest) ∧ va_S A s.heap H locs ∧ lv_has ls 5 [(4, .int l4_x35), (2, .int l2_j72), (3, .int l3_x20), (0, .ref (hN 0)), (1, .int p1)]) (fun join72 => ?_) ?_
              · refine lv_if_le (tgt := 274) hx hb dX2_measure_168 (by decide) (fun c_168 => ?_) (fun c_168 => ?_)
                · have t_168 : v1210.toInt ≤ 0 := toI_le c_168 rfl (by decide : (0 : Int32).toInt = 0)
                  have hl : lv_has _ _ ([(4, .int l4_x35), (2, .int l2_j71), (3, .int l3_x20), (0, .ref (hN 0)), (1, .int p1)]) := lv_sub hl [0, 1, 2, 3, 4] rfl
                  exact join72 _ _ _ _ ⟨fN_before_j71, fN_length_j71, l2_j71, b_fN_before_j71, (show MsG fN_from fN_to fN_room fN_cost fN_flow iN_arcs.toInt.toNat p1.toInt.toNat RR pp fN_length_j71 (fun w => enB (fN_before_j71 w)) (l3_x20.toInt.toNat + 1) l2_j71.toInt (upB l3_x20.toInt.toNat (l4_x35.toInt.toNat + 1)) (upB l3_x20.toInt.toNat (l4_x35.toInt.toNat + 1)) from by first | (have q3 := rowAt b1_v1214 b1_v1213 hy5 ey5; have q4 := rowAt b1_v1218 b1_v1217 hx5 ex5; have q5 : (fN_cost l4_x35.toInt.toNat).toInt = v1215.toInt := (by rw [b1_v1215]; rfl); exact MsG.skipB hI2 hx5 hy5 ex5 ey5 (fun _ h2 => by rw [q4, q3, q5]; omega)) | (have q3 := rowAt b1_v1212 b1_v1211 hy5 ey5; exact MsG.skipB hI2 hx5 hy5 ex5 ey5 (fun _ h2 => absurd (Int32.toInt_inj.mp (by have h9 := (hB9 y5 hy5).2; rw [q3] at h9 ⊢; rw [show (536870912 : Int32).toInt = 536870912 from by decide]; omega)) h2)) | (have q1 : (fN_flow l4_x35.toInt.toNat).toInt = v1210.toInt := (by rw [b_v1210]; rfl); exact MsG.skipB hI2 hx5 hy5 ex5 ey5 (fun h1 _ => absurd h1 (by omega)))), rfl, hP, hD, hS, hl⟩
                · have t_168 : ¬ v1210.toInt ≤ 0 := toI_nle c_168 rfl (by decide : (0 : Int32).toInt = 0)
                  refine lv_aload_n hx hb dX2_measure_171 rfl (lv_at hl 3 rfl) ?_
                  refine va_get (D := (dC, dI)) (ci := 2) (v := .ref (aN 7)) (C := RX2) (T := TX2) (N := 14) hx hb hts iwsMX2_measure_in2 hown hK hP 0 rfl rfl 9 (by decide) (hts _ hm_m_X2_measure_0) (fun _ h9 => h9) rfl dX2_measure_172 ?_
                  refine lv_aload_n hx hb dX2_measure_175 rfl (lv_at hl 3 rfl) ?_
                  refine va_get (D := (dC, dI)) (ci := 2) (v := .ref (aN 1)) (C := RX2) (T := TX2) (N := 14) hx hb hts iwsMX2_measure_in2 hown hK hP 0 rfl rfl 2 (by decide) (hts _ hm_m_X2_measure_5) (fun _ h9 => h9) rfl dX2_measure_176 ?_
                  refine lv_iload hx hb dX2_measure_179 (lv_at hl 0 rfl) ?_
                  refine va_iald (cA := kN 1) (n := 40) (f := fN_to) hx hb hK hP 2 1 rfl rfl (vp_in_iff.mpr ⟨b_l4_x35.1, (by omega)⟩) dX2_measure_181 ?_
                  refine lv_topi (fun v1228 hv1228 => ?_)
                  have b_v1228 : 0 ≤ v1228.toInt ∧ v1228.toInt ≤ 11 := by rw [hv1228]; exact b_fN_to _
                  have b1_v1228 : v1228 = fN_to (l4_x35).toNatClampNeg := hv1228
                  clear hv1228
                  refine va_iald (cA := kN 7) (n := 12) (f := fN_length_j71) hx hb hK hP 8 7 rfl rfl (vp_in_iff.mpr ⟨b_v1228.1, (Int.lt_of_le_of_lt (b_v1228.2) (by decide))⟩) dX2_measure_182 ?_
                  refine lv_topi (fun v1229 hv1229 => ?_)
                  have b_v1229 : 0 ≤ v1229.toInt ∧ v1229.toInt ≤ 536870912 := by rw [hv1229]; exact hB9 _ (show (v1228).toNatClampNeg < 12 from by have h9 : (v1228).toNatClampNeg = v1228.toInt.toNat := rfl; omega)
                  have b1_v1229 : v1229 = fN_length_j71 (v1228).toNatClampNeg := hv1229
                  clear hv1229
                  refine lv_ldc (v := 536870912) hx hb hown (hts _ hm_m_X2_measure_1) dX2_measure_183 ?_
                  refine lv_icmp_ge (tgt := 274) hx hb dX2_measure_185 (by decide) (fun c_185 => ?_) (fun c_185 => ?_)
                  · have t_185 : v1229.toInt ≥ 536870912 := toI_ge c_185 rfl (by decide : (536870912 : Int32).toInt = 536870912)
                    have hl : lv_has _ _ ([(4, .int l4_x35), (2, .int l2_j71), (3, .int l3_x20), (0, .ref (hN 0)), (1, .int p1)]) := lv_sub hl [0, 1, 2, 3, 4] rfl
                    exact join72 _ _ _ _ ⟨fN_before_j71, fN_length_j71, l2_j71, b_fN_before_j71, (show MsG fN_from fN_to fN_room fN_cost fN_flow iN_arcs.toInt.toNat p1.toInt.toNat RR pp fN_length_j71 (fun w => enB (fN_before_j71 w)) (l3_x20.toInt.toNat + 1) l2_j71.toInt (upB l3_x20.toInt.toNat (l4_x35.toInt.toNat + 1)) (upB l3_x20.toInt.toNat (l4_x35.toInt.toNat + 1)) from by first | (have q3 := rowAt b1_v1214 b1_v1213 hy5 ey5; have q4 := rowAt b1_v1218 b1_v1217 hx5 ex5; have q5 : (fN_cost l4_x35.toInt.toNat).toInt = v1215.toInt := (by rw [b1_v1215]; rfl); exact MsG.skipB hI2 hx5 hy5 ex5 ey5 (fun _ h2 => by rw [q4, q3, q5]; omega)) | (have q3 := rowAt b1_v1229 b1_v1228 hy5 ey5; exact MsG.skipB hI2 hx5 hy5 ex5 ey5 (fun _ h2 => absurd (Int32.toInt_inj.mp (by have h9 := (hB9 y5 hy5).2; rw [q3] at h9 ⊢; rw [show (536870912 : Int32).toInt = 536870912 from by decide]; omega)) h2)) | (have q1 : (fN_flow l4_x35.toInt.toNat).toInt = v1210.toInt := (by rw [b_v1210]; rfl); exact MsG.skipB hI2 hx5 hy5 ex5 ey5 (fun h1 _ => absurd h1 (by omega)))), rfl, hP, hD, hS, hl⟩
                  · have t_185 : ¬ v1229.toInt ≥ 536870912 := toI_nge c_185 rfl (by decide : (536870912 : Int32).toInt = 536870912)
                    refine lv_aload_n hx hb dX2_measure_188 rfl (lv_at hl 3 rfl) ?_
                    refine va_get (D := (dC, dI)) (ci := 2) (v := .ref (aN 7)) (C := RX2) (T := TX2) (N := 14) hx hb hts iwsMX2_measure_in2 hown hK hP 0 rfl rfl 9 (by decide) (hts _ hm_m_X2_measure_0) (fun _ h9 => h9) rfl dX2_measure_189 ?_
                    refine lv_aload_n hx hb dX2_measure_192 rfl (lv_at hl 3 rfl) ?_
                    refine va_get (D := (dC, dI)) (ci := 2) (v := .ref (aN 1)) (C := RX2) (T := TX2) (N := 14) hx hb hts iwsMX2_measure_in2 hown hK hP 0 rfl rfl 2 (by decide) (hts _ hm_m_X2_measure_5) (fun _ h9 => h9) rfl dX2_measure_193 ?_
                    refine lv_iload hx hb dX2_measure_196 (lv_at hl 0 rfl) ?_
                    refine va_iald (cA := kN 1) (n := 40) (f := fN_to) hx hb hK hP 2 1 rfl rfl (vp_in_iff.mpr ⟨b_l4_x35.1, (by omega)⟩) dX2_measure_198 ?_
                    refine lv_topi (fun v1230 hv1230 => ?_)
                    have b_v1230 : 0 ≤ v1230.toInt ∧ v1230.toInt ≤ 11 := by rw [hv1230]; exact b_fN_to _
                    have b1_v1230 : v1230 = fN_to (l4_x35).toNatClampNeg := hv1230
                    clear hv1230
                    refine va_iald (cA := kN 7) (n := 12) (f := fN_length_j71) hx hb hK hP 8 7 rfl rfl (vp_in_iff.mpr ⟨b_v1230.1, (Int.lt_of_le_of_lt (b_v1230.2) (by decide))⟩) dX2_measure_199 ?_
                    refine lv_topi (fun v1231 hv1231 => ?_)
                    have b_v1231 : 0 ≤ v1231.toInt ∧ v1231.toInt ≤ 536870912 := by rw [hv1231]; exact hB9 _ (show (v1230).toNatClampNeg < 12 from by have h9 : (v1230).toNatClampNeg = v1230.toInt.toNat := rfl; omega)
                    have b1_v1231 : v1231 = fN_length_j71 (v1230).toNatClampNeg := hv1231
                    clear hv1231
                    refine lv_aload_n hx hb dX2_measure_200 rfl (lv_at hl 3 rfl) ?_
                    refine va_get (D := (dC, dI)) (ci := 2) (v := .ref (aN 3)) (C := RX2) (T := TX2) (N := 14) hx hb hts iwsMX2_measure_in2 hown hK hP 0 rfl rfl 4 (by decide) (hts _ hm_m_X2_measure_4) (fun _ h9 => h9) rfl dX2_measure_201 ?_
                    refine lv_iload hx hb dX2_measure_204 (lv_at hl 0 rfl) ?_
                    refine va_iald (cA := kN 3) (n := 40) (f := fN_cost) hx hb hK hP 4 3 rfl rfl (vp_in_iff.mpr ⟨b_l4_x35.1, (by omega)⟩) dX2_measure_206 ?_
                    refine lv_topi (fun v1232 hv1232 => ?_)
                    have b_v1232 : 0 ≤ v1232.toInt ∧ v1232.toInt ≤ 1000 := by rw [hv1232]; exact hc5
                    have b1_v1232 : v1232 = fN_cost (l4_x35).toNatClampNeg := hv1232
                    clear hv1232
                    refine lv_isub hx hb dX2_measure_207 ?_
                    refine lv_topi (fun y1233 hy1233 => ?_)
                    obtain rfl : (iI (v1231.toInt - v1232.toInt)) = y1233 := (hy1233.trans (iI_sub2 (iI_of _) (iI_of _))).symm
                    refine lv_aload_n hx hb dX2_measure_208 rfl (lv_at hl 3 rfl) ?_
                    refine va_get (D := (dC, dI)) (ci := 2) (v := .ref (aN 7)) (C := RX2) (T := TX2) (N := 14) hx hb hts iwsMX2_measure_in2 hown hK hP 0 rfl rfl 9 (by decide) (hts _ hm_m_X2_measure_0) (fun _ h9 => h9) rfl dX2_measure_209 ?_
                    refine lv_aload_n hx hb dX2_measure_212 rfl (lv_at hl 3 rfl) ?_
                    refine va_get (D := (dC, dI)) (ci := 2) (v := .ref (aN 0)) (C := RX2) (T := TX2) (N := 14) hx hb hts iwsMX2_measure_in2 hown hK hP 0 rfl rfl 1 (by decide) (hts _ hm_m_X2_measure_3) (fun _ h9 => h9) rfl dX2_measure_213 ?_
                    refine lv_iload hx hb dX2_measure_216 (lv_at hl 0 rfl) ?_
                    refine va_iald (cA := kN 0) (n := 40) (f := fN_from) hx hb hK hP 1 0 rfl rfl (vp_in_iff.mpr ⟨b_l4_x35.1, (by omega)⟩) dX2_measure_218 ?_
                    refine lv_topi (fun v1234 hv1234 => ?_)
                    have b_v1234 : 0 ≤ v1234.toInt ∧ v1234.toInt ≤ 11 := by rw [hv1234]; exact b_fN_from _
                    have b1_v1234 : v1234 = fN_from (l4_x35).toNatClampNeg := hv1234
                    clear hv1234
                    refine va_iald (cA := kN 7) (n := 12) (f := fN_length_j71) hx hb hK hP 8 7 rfl rfl (vp_in_iff.mpr ⟨b_v1234.1, (Int.lt_of_le_of_lt (b_v1234.2) (by decide))⟩) dX2_measure_219 ?_
                    refine lv_topi (fun v1235 hv1235 => ?_)
                    have b_v1235 : 0 ≤ v1235.toInt ∧ v1235.toInt ≤ 536870912 := by rw [hv1235]; exact hB9 _ (show (v1234).toNatClampNeg < 12 from by have h9 : (v1234).toNatClampNeg = v1234.toInt.toNat := rfl; omega)
                    have b1_v1235 : v1235 = fN_length_j71 (v1234).toNatClampNeg := hv1235
                    clear hv1235
                    refine lv_icmp_ge (tgt := 274) hx hb dX2_measure_220 (by decide) (fun c_220 => ?_) (fun c_220 => ?_)
                    · have t_220 : (v1231.toInt - v1232.toInt) ≥ v1235.toInt := toI_ge c_220 (iI_t (Int.le_trans (by decide) (Int.sub_le_sub (b_v1231.1) (b_v1232.2))) (Int.le_trans (Int.sub_le_sub (b_v1231.2) (b_v1232.1)) (by decide))) rfl
                      have hl : lv_has _ _ ([(4, .int l4_x35), (2, .int l2_j71), (3, .int l3_x20), (0, .ref (hN 0)), (1, .int p1)]) := lv_sub hl [0, 1, 2, 3, 4] rfl
                      exact join72 _ _ _ _ ⟨fN_before_j71, fN_length_j71, l2_j71, b_fN_before_j71, (show MsG fN_from fN_to fN_room fN_cost fN_flow iN_arcs.toInt.toNat p1.toInt.toNat RR pp fN_length_j71 (fun w => enB (fN_before_j71 w)) (l3_x20.toInt.toNat + 1) l2_j71.toInt (upB l3_x20.toInt.toNat (l4_x35.toInt.toNat + 1)) (upB l3_x20.toInt.toNat (l4_x35.toInt.toNat + 1)) from by first | (have q3 := rowAt b1_v1231 b1_v1230 hy5 ey5; have q4 := rowAt b1_v1235 b1_v1234 hx5 ex5; have q5 : (fN_cost l4_x35.toInt.toNat).toInt = v1232.toInt := (by rw [b1_v1232]; rfl); exact MsG.skipB hI2 hx5 hy5 ex5 ey5 (fun _ h2 => by rw [q4, q3, q5]; omega)) | (have q3 := rowAt b1_v1229 b1_v1228 hy5 ey5; exact MsG.skipB hI2 hx5 hy5 ex5 ey5 (fun _ h2 => absurd (Int32.toInt_inj.mp (by have h9 := (hB9 y5 hy5).2; rw [q3] at h9 ⊢; rw [show (536870912 : Int32).toInt = 536870912 from by decide]; omega)) h2)) | (have q1 : (fN_flow l4_x35.toInt.toNat).toInt = v1210.toInt := (by rw [b_v1210]; rfl); exact MsG.skipB hI2 hx5 hy5 ex5 ey5 (fun h1 _ => absurd h1 (by omega)))), rfl, hP, hD, hS, hl⟩
                    · have t_220 : ¬ (v1231.toInt - v1232.toInt) ≥ v1235.toInt := toI_nge c_220 (iI_t (Int.le_trans (by decide) (Int.sub_le_sub (b_v1231.1) (b_v1232.2))) (Int.le_trans (Int.sub_le_sub (b_v1231.2) (b_v1232.1)) (by decide))) rfl
                      refine lv_aload_n hx hb dX2_measure_223 rfl (lv_at hl 3 rfl) ?_
                      refine va_get (D := (dC, dI)) (ci := 2) (v := .ref (aN 7)) (C := RX2) (T := TX2) (N := 14) hx hb hts iwsMX2_measure_in2 hown hK hP 0 rfl rfl 9 (by decide) (hts _ hm_m_X2_measure_0) (fun _ h9 => h9) rfl dX2_measure_224 ?_
                      refine lv_aload_n hx hb dX2_measure_227 rfl (lv_at hl 3 rfl) ?_
                      refine va_get (D := (dC, dI)) (ci := 2) (v := .ref (aN 0)) (C := RX2) (T := TX2) (N := 14) hx hb hts iwsMX2_measure_in2 hown hK hP 0 rfl rfl 1 (by decide) (hts _ hm_m_X2_measure_3) (fun _ h9 => h9) rfl dX2_measure_228 ?_
                      refine lv_iload hx hb dX2_measure_231 (lv_at hl 0 rfl) ?_
                      refine va_iald (cA := kN 0) (n := 40) (f := fN_from) hx hb hK hP 1 0 rfl rfl (vp_in_iff.mpr ⟨b_l4_x35.1, (by omega)⟩) dX2_measure_233 ?_
                      refine lv_topi (fun v1236 hv1236 => ?_)
                      have b_v1236 : 0 ≤ v1236.toInt ∧ v1236.toInt ≤ 11 := by rw [hv1236]; exact b_fN_from _
                      have b1_v1236 : v1236 = fN_from (l4_x35).toNatClampNeg := hv1236
                      clear hv1236
                      refine lv_aload_n hx hb dX2_measure_234 rfl (lv_at hl 3 rfl) ?_
                      refine va_get (D := (dC, dI)) (ci := 2) (v := .ref (aN 7)) (C := RX2) (T := TX2) (N := 14) hx hb hts iwsMX2_measure_in2 hown hK hP 0 rfl rfl 9 (by decide) (hts _ hm_m_X2_measure_0) (fun _ h9 => h9) rfl dX2_measure_235 ?_
                      refine lv_aload_n hx hb dX2_measure_238 rfl (lv_at hl 3 rfl) ?_
                      refine va_get (D := (dC, dI)) (ci := 2) (v := .ref (aN 1)) (C := RX2) (T := TX2) (N := 14) hx hb hts iwsMX2_measure_in2 hown hK hP 0 rfl rfl 2 (by decide) (hts _ hm_m_X2_measure_5) (fun _ h9 => h9) rfl dX2_measure_239 ?_
                      refine lv_iload hx hb dX2_measure_242 (lv_at hl 0 rfl) ?_
                      refine va_iald (cA := kN 1) (n := 40) (f := fN_to) hx hb hK hP 2 1 rfl rfl (vp_in_iff.mpr ⟨b_l4_x35.1, (by omega)⟩) dX2_measure_244 ?_
                      refine lv_topi (fun v1237 hv1237 => ?_)
                      have b_v1237 : 0 ≤ v1237.toInt ∧ v1237.toInt ≤ 11 := by rw [hv1237]; exact b_fN_to _
                      have b1_v1237 : v1237 = fN_to (l4_x35).toNatClampNeg := hv1237
                      clear hv1237
                      refine va_iald (cA := kN 7) (n := 12) (f := fN_length_j71) hx hb hK hP 8 7 rfl rfl (vp_in_iff.mpr ⟨b_v1237.1, (Int.lt_of_le_of_lt (b_v1237.2) (by decide))⟩) dX2_measure_245 ?_
                      refine lv_topi (fun v1238 hv1238 => ?_)
                      have b_v1238 : 0 ≤ v1238.toInt ∧ v1238.toInt ≤ 536870912 := by rw [hv1238]; exact hB9 _ (show (v1237).toNatClampNeg < 12 from by have h9 : (v1237).toNatClampNeg = v1237.toInt.toNat := rfl; omega)
                      have b1_v1238 : v1238 = fN_length_j71 (v1237).toNatClampNeg := hv1238
                      clear hv1238
                      refine lv_aload_n hx hb dX2_measure_246 rfl (lv_at hl 3 rfl) ?_
                      refine va_get (D := (dC, dI)) (ci := 2) (v := .ref (aN 3)) (C := RX2) (T := TX2) (N := 14) hx hb hts iwsMX2_measure_in2 hown hK hP 0 rfl rfl 4 (by decide) (hts _ hm_m_X2_measure_4) (fun _ h9 => h9) rfl dX2_measure_247 ?_
                      refine lv_iload hx hb dX2_measure_250 (lv_at hl 0 rfl) ?_
                      refine va_iald (cA := kN 3) (n := 40) (f := fN_cost) hx hb hK hP 4 3 rfl rfl (vp_in_iff.mpr ⟨b_l4_x35.1, (by omega)⟩) dX2_measure_252 ?_
                      refine lv_topi (fun v1239 hv1239 => ?_)
                      have b_v1239 : 0 ≤ v1239.toInt ∧ v1239.toInt ≤ 1000 := by rw [hv1239]; exact hc5
                      have b1_v1239 : v1239 = fN_cost (l4_x35).toNatClampNeg := hv1239
                      clear hv1239
                      refine lv_isub hx hb dX2_measure_253 ?_
                      refine lv_topi (fun y1240 hy1240 => ?_)
                      obtain rfl : (iI (v1238.toInt - v1239.toInt)) = y1240 := (hy1240.trans (iI_sub2 (iI_of _) (iI_of _))).symm
                      refine va_iast (cA := kN 7) (n := 12) (f := fN_length_j71) hx hb hK hP hD hS 8 7 rfl rfl (vp_in_iff.mpr ⟨b_v1236.1, (Int.lt_of_le_of_lt (b_v1236.2) (by decide))⟩) dX2_measure_254 (fun H locs hP hD hS => ?_)
                      obtain ⟨u1241, hu1241⟩ : ∃ f9, f9 = upd fN_length_j71 (v1236).toNatClampNeg (iI (v1238.toInt - v1239.toInt)) := ⟨_, rfl⟩
                      have hP : va_P (dC, dI) vwCl (WN hN aN kN iN_arcs fN_from fN_to fN_room fN_cost iN_reached fN_free fN_before_j71 fN_flow u1241 fN_stop iN_stops fN_price fN_rest) H := by rw [hu1241]; exact hP
                      have hD : va_D A (WN hN aN kN iN_arcs fN_from fN_to fN_room fN_cost iN_reached fN_free fN_before_j71 fN_flow u1241 fN_stop iN_stops fN_price fN_rest) := by rw [hu1241]; exact hD
                      have b_u1241 : u1241 = upd fN_length_j71 (v1236).toNatClampNeg (iI (v1238.toInt - v1239.toInt)) := hu1241
                      clear hu1241
                      refine lv_aload_n hx hb dX2_measure_255 rfl (lv_at hl 3 rfl) ?_
                      refine va_get (D := (dC, dI)) (ci := 2) (v := .ref (aN 5)) (C := RX2) (T := TX2) (N := 14) hx hb hts iwsMX2_measure_in2 hown hK hP 0 rfl rfl 7 (by decide) (hts _ hm_m_X2_measure_6) (fun _ h9 => h9) rfl dX2_measure_256 ?_
                      refine lv_aload_n hx hb dX2_measure_259 rfl (lv_at hl 3 rfl) ?_
                      refine va_get (D := (dC, dI)) (ci := 2) (v := .ref (aN 0)) (C := RX2) (T := TX2) (N := 14) hx hb hts iwsMX2_measure_in2 hown hK hP 0 rfl rfl 1 (by decide) (hts _ hm_m_X2_measure_3) (fun _ h9 => h9) rfl dX2_measure_260 ?_
                      refine lv_iload hx hb dX2_measure_263 (lv_at hl 0 rfl) ?_
                      refine va_iald (cA := kN 0) (n := 40) (f := fN_from) hx hb hK hP 1 0 rfl rfl (vp_in_iff.mpr ⟨b_l4_x35.1, (by omega)⟩) dX2_measure_265 ?_
                      refine lv_topi (fun v1242 hv1242 => ?_)
                      have b_v1242 : 0 ≤ v1242.toInt ∧ v1242.toInt ≤ 11 := by rw [hv1242]; exact b_fN_from _
                      have b1_v1242 : v1242 = fN_from (l4_x35).toNatClampNeg := hv1242
                      clear hv1242
                      refine lv_iload hx hb dX2_measure_266 (lv_at hl 0 rfl) ?_
                      refine lv_bipush (v := 40) hx hb dX2_measure_268 (by decide) ?_
                      refine lv_iadd hx hb dX2_measure_270 ?_
                      refine lv_topi (fun y1243 hy1243 => ?_)
                      obtain rfl : (iI (l4_x35.toInt + 40)) = y1243 := (hy1243.trans (iI_add2 (iI_of _) (by decide : (40 : Int32) = iI 40))).symm
                      refine va_iast (cA := kN 5) (n := 12) (f := fN_before_j71) hx hb hK hP hD hS 6 5 rfl rfl (vp_in_iff.mpr ⟨b_v1242.1, (Int.lt_of_le_of_lt (b_v1242.2) (by decide))⟩) dX2_measure_271 (fun H locs hP hD hS => ?_)
                      obtain ⟨u1244, hu1244⟩ : ∃ f9, f9 = upd fN_before_j71 (v1242).toNatClampNeg (iI (l4_x35.toInt + 40)) := ⟨_, rfl⟩
                      have hP : va_P (dC, dI) vwCl (WN hN aN kN iN_arcs fN_from fN_to fN_room fN_cost iN_reached fN_free u1244 fN_flow u1241 fN_stop iN_stops fN_price fN_rest) H := by rw [hu1244]; exact hP
                      have hD : va_D A (WN hN aN kN iN_arcs fN_from fN_to fN_room fN_cost iN_reached fN_free u1244 fN_flow u1241 fN_stop iN_stops fN_price fN_rest) := by rw [hu1244]; exact hD
                      have b_u1244 : ∀ q : Nat, 0 ≤ (u1244 q).toInt ∧ (u1244 q).toInt ≤ 79 := by rw [hu1244]; exact upd_r b_fN_before_j71 (iI_rng (Int.le_trans (by decide) (Int.add_le_add (b_l4_x35.1) (Int.le_refl _))) (by omega) (by decide) (by decide))
                      have b1_u1244 : u1244 = upd fN_before_j71 (v1242).toNatClampNeg (iI (l4_x35.toInt + 40)) := hu1244
                      clear hu1244
                      refine lv_iconst (v := 1) hx hb dX2_measure_272 (by decide) ?_
                      refine lv_istore_n hx hb dX2_measure_273 rfl hl (by decide) rfl (fun ls (hl : lv_has ls _ ([(2, .int 1), (4, .int l4_x35), (3, .int l3_x20), (0, .ref (hN 0)), (1, .int p1)])) => ?_)
                      have hl : lv_has _ _ ([(4, .int l4_x35), (2, .int 1), (3, .int l3_x20), (0, .ref (hN 0)), (1, .int p1)]) := lv_sub hl [1, 0, 2, 3, 4] rfl
                      exact join72 _ _ _ _ ⟨u1244, u1241, 1, b_u1244, (show MsG fN_from fN_to fN_room fN_cost fN_flow iN_arcs.toInt.toNat p1.toInt.toNat RR pp u1241 (fun w => enB (u1244 w)) (l3_x20.toInt.toNat + 1) (1 : Int32).toInt (upB l3_x20.toInt.toNat (l4_x35.toInt.toNat + 1)) (upB l3_x20.toInt.toNat (l4_x35.toInt.toNat + 1)) from by have q1 : (fN_flow l4_x35.toInt.toNat).toInt = v1210.toInt := (by rw [b_v1210]; rfl); have q3 := rowAt b1_v1229 b1_v1228 hy5 ey5; have q4 := rowAt b1_v1231 b1_v1230 hy5 ey5; have q5 : (fN_cost l4_x35.toInt.toNat).toInt = v1232.toInt := (by rw [b1_v1232]; rfl); have q6 := rowAt b1_v1235 b1_v1234 hx5 ex5; have q7 := rowAt b1_v1238 b1_v1237 hy5 ey5; have q8 : (fN_cost l4_x35.toInt.toNat).toInt = v1239.toInt := (by rw [b1_v1239]; rfl); have u1 := updAt b_u1241 (ixAt b1_v1236 hx5 ex5); have u2 := updAt b1_u1244 (ixAt b1_v1242 hx5 ex5); exact MsG.mendB hI2 hX (by omega) (by omega) hx5 hy5 hxy5 ex5 ey5 hc5 (by omega) (fun e9 => by rw [q3] at e9; rw [e9] at t_185; exact t_185 (by decide)) (by rw [q4, q5, q6]; omega) (by rw [u1.1, q7, q8, iI_t (by omega) (by omega)]) u1.2 (by show (enB (u1244 x5)).toInt = _; rw [u2.1]; exact enB_b (by rw [iI_t (by omega) (by omega)]; omega) (by omega)) (fun w hw => by show enB (u1244 w) = enB (fN_before_j71 w); rw [u2.2 w hw])), rfl, hP, hD, hS, hl⟩
              · intro H locs ls stk
                refine fz_e3 ?_
                intro fN_before_j72 fN_length_j72 l2_j72
                refine fz_a7 ?_
                intro b_fN_before_j72 hI3 hst9_2 hP hD hS hl
                subst hst9_2
                refine lv_iinc (v := (iI (l4_x35.toInt + 1))) hx hb dX2_measure_274 hl (k := 0) rfl (iI_add2 (iI_of _) (by decide : (1 : Int32) = iI 1)) (by decide) rfl (fun ls (hl : lv_has ls _ ([(4, .int (iI (l4_x35.toInt + 1))), (2, .int l2_j72), (3, .int l3_x20), (0, .ref (hN 0)), (1, .int p1)])) => ?_)
                refine lv_goto (tgt := 35) hx hb dX2_measure_277 (by decide) ?_
                have hl : lv_has _ _ ([(4, .int (iI (l4_x35.toInt + 1))), (2, .int l2_j72), (3, .int l3_x20), (0, .ref (hN 0)), (1, .int p1)]) := lv_sub hl [0, 1, 2, 3, 4] rfl
                exact ihx35 fN_before_j72 fN_length_j72 (iI (l4_x35.toInt + 1)) l2_j72 _ _ _ b_fN_before_j72 (iI_rng (Int.le_trans (by decide) (Int.add_le_add (b_l4_x35.1) (Int.le_refl _))) (by omega) (by decide) (by decide)) (show MsG fN_from fN_to fN_room fN_cost fN_flow iN_arcs.toInt.toNat p1.toInt.toNat RR pp fN_length_j72 (fun w => enB (fN_before_j72 w)) (l3_x20.toInt.toNat + 1) l2_j72.toInt (upB l3_x20.toInt.toNat (iI (l4_x35.toInt + 1)).toInt.toNat) (upB l3_x20.toInt.toNat (iI (l4_x35.toInt + 1)).toInt.toNat) from by rw [show (iI (l4_x35.toInt + 1)).toInt.toNat = l4_x35.toInt.toNat + 1 from by rw [iI_t (by omega) (by omega)]; omega]; exact hI3) (by have e9 : ((iI (l4_x35.toInt + 1))).toInt = (l4_x35.toInt + 1) := (iI_t (Int.le_trans (by decide) (Int.add_le_add (b_l4_x35.1) (Int.le_refl _))) (Int.le_trans (Int.add_le_add (b_l4_x35.2) (Int.le_refl _)) (by decide))); omega) hP hD hS hl
theorem dX2_push_0 : decode cX2_push 0 = .ok (.iload_n 3, 1) := dk_29 (by decide +kernel)
theorem dX2_push_1 : decode cX2_push 1 = .ok (.istore 4, 2) := dk_54 (by decide +kernel)
theorem dX2_push_3 : decode cX2_push 3 = .ok (.iload_n 2, 1) := dk_28 (by decide +kernel)
theorem dX2_push_4 : decode cX2_push 4 = .ok (.istore 5, 2) := dk_54 (by decide +kernel)
theorem dX2_push_6 : decode cX2_push 6 = .ok (.iconst 0, 1) := dk_3 (by decide +kernel)
theorem dX2_push_7 : decode cX2_push 7 = .ok (.istore 6, 2) := dk_54 (by decide +kernel)
theorem dX2_push_9 : decode cX2_push 9 = .ok (.iload 6, 2) := dk_21 (by decide +kernel)
theorem dX2_push_11 : decode cX2_push 11 = .ok (.bipush 12, 2) := dk_16 (by decide +kernel)
theorem dX2_push_13 : decode cX2_push 13 = .ok (.if_icmp .ge 95, 3) := dk_162 (by decide +kernel)
theorem dX2_push_16 : decode cX2_push 16 = .ok (.iload 5, 2) := dk_21 (by decide +kernel)
theorem dX2_push_18 : decode cX2_push 18 = .ok (.iload_n 1, 1) := dk_27 (by decide +kernel)
theorem dX2_push_19 : decode cX2_push 19 = .ok (.if_icmp .eq 89, 3) := dk_159 (by decide +kernel)
theorem dX2_push_22 : decode cX2_push 22 = .ok (.aload_n 0, 1) := dk_42 (by decide +kernel)
theorem dX2_push_23 : decode cX2_push 23 = .ok (.getfield 27, 3) := dk_180 (by decide +kernel)
theorem dX2_push_26 : decode cX2_push 26 = .ok (.iload 5, 2) := dk_21 (by decide +kernel)
theorem dX2_push_28 : decode cX2_push 28 = .ok (.iaload, 1) := dk_46 (by decide +kernel)
theorem dX2_push_29 : decode cX2_push 29 = .ok (.istore 7, 2) := dk_54 (by decide +kernel)
theorem dX2_push_31 : decode cX2_push 31 = .ok (.iload 4, 2) := dk_21 (by decide +kernel)
theorem dX2_push_33 : decode cX2_push 33 = .ok (.iload 7, 2) := dk_21 (by decide +kernel)
theorem dX2_push_35 : decode cX2_push 35 = .ok (.bipush 40, 2) := dk_16 (by decide +kernel)
theorem dX2_push_37 : decode cX2_push 37 = .ok (.if_icmp .ge 21, 3) := dk_162 (by decide +kernel)
theorem dX2_push_40 : decode cX2_push 40 = .ok (.aload_n 0, 1) := dk_42 (by decide +kernel)
theorem dX2_push_41 : decode cX2_push 41 = .ok (.getfield 18, 3) := dk_180 (by decide +kernel)
theorem dX2_push_44 : decode cX2_push 44 = .ok (.iload 7, 2) := dk_21 (by decide +kernel)
theorem dX2_push_46 : decode cX2_push 46 = .ok (.iaload, 1) := dk_46 (by decide +kernel)
theorem dX2_push_47 : decode cX2_push 47 = .ok (.aload_n 0, 1) := dk_42 (by decide +kernel)
theorem dX2_push_48 : decode cX2_push 48 = .ok (.getfield 30, 3) := dk_180 (by decide +kernel)
theorem dX2_push_51 : decode cX2_push 51 = .ok (.iload 7, 2) := dk_21 (by decide +kernel)
theorem dX2_push_53 : decode cX2_push 53 = .ok (.iaload, 1) := dk_46 (by decide +kernel)
theorem dX2_push_54 : decode cX2_push 54 = .ok (.isub, 1) := dk_100 (by decide +kernel)
theorem dX2_push_55 : decode cX2_push 55 = .ok (.goto 13, 3) := dk_167 (by decide +kernel)
theorem dX2_push_58 : decode cX2_push 58 = .ok (.aload_n 0, 1) := dk_42 (by decide +kernel)
theorem dX2_push_59 : decode cX2_push 59 = .ok (.getfield 30, 3) := dk_180 (by decide +kernel)
theorem dX2_push_62 : decode cX2_push 62 = .ok (.iload 7, 2) := dk_21 (by decide +kernel)
theorem dX2_push_64 : decode cX2_push 64 = .ok (.bipush 40, 2) := dk_16 (by decide +kernel)
theorem dX2_push_66 : decode cX2_push 66 = .ok (.isub, 1) := dk_100 (by decide +kernel)
theorem dX2_push_67 : decode cX2_push 67 = .ok (.iaload, 1) := dk_46 (by decide +kernel)
theorem dX2_push_68 : decode cX2_push 68 = .ok (.invokestatic 61, 3) := dk_184 (by decide +kernel)
theorem dX2_push_71 : decode cX2_push 71 = .ok (.istore 4, 2) := dk_54 (by decide +kernel)
theorem dX2_push_73 : decode cX2_push 73 = .ok (.iload 7, 2) := dk_21 (by decide +kernel)
theorem dX2_push_75 : decode cX2_push 75 = .ok (.bipush 40, 2) := dk_16 (by decide +kernel)
theorem dX2_push_77 : decode cX2_push 77 = .ok (.if_icmp .ge 13, 3) := dk_162 (by decide +kernel)
theorem dX2_push_80 : decode cX2_push 80 = .ok (.aload_n 0, 1) := dk_42 (by decide +kernel)
theorem dX2_push_81 : decode cX2_push 81 = .ok (.getfield 11, 3) := dk_180 (by decide +kernel)
theorem dX2_push_84 : decode cX2_push 84 = .ok (.iload 7, 2) := dk_21 (by decide +kernel)
theorem dX2_push_86 : decode cX2_push 86 = .ok (.iaload, 1) := dk_46 (by decide +kernel)
theorem dX2_push_87 : decode cX2_push 87 = .ok (.goto 13, 3) := dk_167 (by decide +kernel)
theorem dX2_push_90 : decode cX2_push 90 = .ok (.aload_n 0, 1) := dk_42 (by decide +kernel)
theorem dX2_push_91 : decode cX2_push 91 = .ok (.getfield 15, 3) := dk_180 (by decide +kernel)
theorem dX2_push_94 : decode cX2_push 94 = .ok (.iload 7, 2) := dk_21 (by decide +kernel)
theorem dX2_push_96 : decode cX2_push 96 = .ok (.bipush 40, 2) := dk_16 (by decide +kernel)
theorem dX2_push_98 : decode cX2_push 98 = .ok (.isub, 1) := dk_100 (by decide +kernel)
theorem dX2_push_99 : decode cX2_push 99 = .ok (.iaload, 1) := dk_46 (by decide +kernel)
theorem dX2_push_100 : decode cX2_push 100 = .ok (.istore 5, 2) := dk_54 (by decide +kernel)
theorem dX2_push_102 : decode cX2_push 102 = .ok (.iinc 6 1, 3) := dk_132 (by decide +kernel)
theorem dX2_push_105 : decode cX2_push 105 = .ok (.goto (-96), 3) := dk_167 (by decide +kernel)
theorem dX2_push_108 : decode cX2_push 108 = .ok (.iload_n 2, 1) := dk_28 (by decide +kernel)
theorem dX2_push_109 : decode cX2_push 109 = .ok (.istore 5, 2) := dk_54 (by decide +kernel)
theorem dX2_push_111 : decode cX2_push 111 = .ok (.iconst 0, 1) := dk_3 (by decide +kernel)
theorem dX2_push_112 : decode cX2_push 112 = .ok (.istore 6, 2) := dk_54 (by decide +kernel)
theorem dX2_push_114 : decode cX2_push 114 = .ok (.iload 6, 2) := dk_21 (by decide +kernel)
theorem dX2_push_116 : decode cX2_push 116 = .ok (.bipush 12, 2) := dk_16 (by decide +kernel)
theorem dX2_push_118 : decode cX2_push 118 = .ok (.if_icmp .ge 82, 3) := dk_162 (by decide +kernel)
theorem dX2_push_121 : decode cX2_push 121 = .ok (.iload 5, 2) := dk_21 (by decide +kernel)
theorem dX2_push_123 : decode cX2_push 123 = .ok (.iload_n 1, 1) := dk_27 (by decide +kernel)
theorem dX2_push_124 : decode cX2_push 124 = .ok (.if_icmp .eq 76, 3) := dk_159 (by decide +kernel)
theorem dX2_push_127 : decode cX2_push 127 = .ok (.aload_n 0, 1) := dk_42 (by decide +kernel)
theorem dX2_push_128 : decode cX2_push 128 = .ok (.getfield 27, 3) := dk_180 (by decide +kernel)
theorem dX2_push_131 : decode cX2_push 131 = .ok (.iload 5, 2) := dk_21 (by decide +kernel)
theorem dX2_push_133 : decode cX2_push 133 = .ok (.iaload, 1) := dk_46 (by decide +kernel)
theorem dX2_push_134 : decode cX2_push 134 = .ok (.istore 7, 2) := dk_54 (by decide +kernel)
theorem dX2_push_136 : decode cX2_push 136 = .ok (.iload 7, 2) := dk_21 (by decide +kernel)
theorem dX2_push_138 : decode cX2_push 138 = .ok (.bipush 40, 2) := dk_16 (by decide +kernel)
theorem dX2_push_140 : decode cX2_push 140 = .ok (.if_icmp .ge 27, 3) := dk_162 (by decide +kernel)
theorem dX2_push_143 : decode cX2_push 143 = .ok (.aload_n 0, 1) := dk_42 (by decide +kernel)
theorem dX2_push_144 : decode cX2_push 144 = .ok (.getfield 30, 3) := dk_180 (by decide +kernel)
theorem dX2_push_147 : decode cX2_push 147 = .ok (.iload 7, 2) := dk_21 (by decide +kernel)
theorem dX2_push_149 : decode cX2_push 149 = .ok (.dup2, 1) := dk_92 (by decide +kernel)
theorem dX2_push_150 : decode cX2_push 150 = .ok (.iaload, 1) := dk_46 (by decide +kernel)
theorem dX2_push_151 : decode cX2_push 151 = .ok (.iload 4, 2) := dk_21 (by decide +kernel)
theorem dX2_push_153 : decode cX2_push 153 = .ok (.iadd, 1) := dk_96 (by decide +kernel)
theorem dX2_push_154 : decode cX2_push 154 = .ok (.iastore, 1) := dk_79 (by decide +kernel)
theorem dX2_push_155 : decode cX2_push 155 = .ok (.aload_n 0, 1) := dk_42 (by decide +kernel)
theorem dX2_push_156 : decode cX2_push 156 = .ok (.getfield 11, 3) := dk_180 (by decide +kernel)
theorem dX2_push_159 : decode cX2_push 159 = .ok (.iload 7, 2) := dk_21 (by decide +kernel)
theorem dX2_push_161 : decode cX2_push 161 = .ok (.iaload, 1) := dk_46 (by decide +kernel)
theorem dX2_push_162 : decode cX2_push 162 = .ok (.istore 5, 2) := dk_54 (by decide +kernel)
theorem dX2_push_164 : decode cX2_push 164 = .ok (.goto 30, 3) := dk_167 (by decide +kernel)
theorem dX2_push_167 : decode cX2_push 167 = .ok (.aload_n 0, 1) := dk_42 (by decide +kernel)
theorem dX2_push_168 : decode cX2_push 168 = .ok (.getfield 30, 3) := dk_180 (by decide +kernel)
theorem dX2_push_171 : decode cX2_push 171 = .ok (.iload 7, 2) := dk_21 (by decide +kernel)
theorem dX2_push_173 : decode cX2_push 173 = .ok (.bipush 40, 2) := dk_16 (by decide +kernel)
theorem dX2_push_175 : decode cX2_push 175 = .ok (.isub, 1) := dk_100 (by decide +kernel)
theorem dX2_push_176 : decode cX2_push 176 = .ok (.dup2, 1) := dk_92 (by decide +kernel)
theorem dX2_push_177 : decode cX2_push 177 = .ok (.iaload, 1) := dk_46 (by decide +kernel)
theorem dX2_push_178 : decode cX2_push 178 = .ok (.iload 4, 2) := dk_21 (by decide +kernel)
theorem dX2_push_180 : decode cX2_push 180 = .ok (.isub, 1) := dk_100 (by decide +kernel)
theorem dX2_push_181 : decode cX2_push 181 = .ok (.iastore, 1) := dk_79 (by decide +kernel)
theorem dX2_push_182 : decode cX2_push 182 = .ok (.aload_n 0, 1) := dk_42 (by decide +kernel)
theorem dX2_push_183 : decode cX2_push 183 = .ok (.getfield 15, 3) := dk_180 (by decide +kernel)
theorem dX2_push_186 : decode cX2_push 186 = .ok (.iload 7, 2) := dk_21 (by decide +kernel)
theorem dX2_push_188 : decode cX2_push 188 = .ok (.bipush 40, 2) := dk_16 (by decide +kernel)
theorem dX2_push_190 : decode cX2_push 190 = .ok (.isub, 1) := dk_100 (by decide +kernel)
theorem dX2_push_191 : decode cX2_push 191 = .ok (.iaload, 1) := dk_46 (by decide +kernel)
theorem dX2_push_192 : decode cX2_push 192 = .ok (.istore 5, 2) := dk_54 (by decide +kernel)
theorem dX2_push_194 : decode cX2_push 194 = .ok (.iinc 6 1, 3) := dk_132 (by decide +kernel)
theorem dX2_push_197 : decode cX2_push 197 = .ok (.goto (-83), 3) := dk_167 (by decide +kernel)
theorem dX2_push_200 : decode cX2_push 200 = .ok (.iload 4, 2) := dk_21 (by decide +kernel)
theorem dX2_push_202 : decode cX2_push 202 = .ok (.ireturn, 1) := dk_172 (by decide +kernel)
def wsMX2_push : List Cond := .code yX2_push cX2_push 8 (some .int) :: ([.fieldLink RX2 27 "OptimaWorks$NetDesk" "before" "[I", .fieldLink RX2 30 "OptimaWorks$NetDesk" "flow" "[I", .methodLink RX2 61 Lib.Math.min.name, .static Lib.Math.min.name, .initialized "java/lang/Math", .code Lib.Math.min.name Lib.Math.min.code 2 (some .int), .fieldLink RX2 15 "OptimaWorks$NetDesk" "to" "[I", .fieldLink RX2 18 "OptimaWorks$NetDesk" "room" "[I", .fieldLink RX2 11 "OptimaWorks$NetDesk" "from" "[I"] ++ wsX20)
theorem iwsMX2_push_in2 : ∀ w ∈ wsX20, w ∈ wsMX2_push := fun _ h => List.mem_cons_of_mem _ (List.mem_append_right _ h)
theorem gdwsMX2_push : wsMX2_push.all goodWord = true := gdC rfl (gdA (by decide +kernel : ([.fieldLink RX2 27 "OptimaWorks$NetDesk" "before" "[I", .fieldLink RX2 30 "OptimaWorks$NetDesk" "flow" "[I", .methodLink RX2 61 Lib.Math.min.name, .static Lib.Math.min.name, .initialized "java/lang/Math", .code Lib.Math.min.name Lib.Math.min.code 2 (some .int), .fieldLink RX2 15 "OptimaWorks$NetDesk" "to" "[I", .fieldLink RX2 18 "OptimaWorks$NetDesk" "room" "[I", .fieldLink RX2 11 "OptimaWorks$NetDesk" "from" "[I"] : List Cond).all goodWord = true) gdwsX20)
theorem hm_m_X2_push_0 : (.fieldLink RX2 27 "OptimaWorks$NetDesk" "before" "[I" : Cond) ∈ wsMX2_push := by decide +kernel
theorem hm_m_X2_push_1 : (.fieldLink RX2 30 "OptimaWorks$NetDesk" "flow" "[I" : Cond) ∈ wsMX2_push := by decide +kernel
theorem hm_m_X2_push_2 : (.fieldLink RX2 15 "OptimaWorks$NetDesk" "to" "[I" : Cond) ∈ wsMX2_push := by decide +kernel
theorem hm_m_X2_push_3 : (.fieldLink RX2 11 "OptimaWorks$NetDesk" "from" "[I" : Cond) ∈ wsMX2_push := by decide +kernel
theorem hm_m_X2_push_4 : (.methodLink RX2 61 Lib.Math.min.name : Cond) ∈ wsMX2_push := by decide +kernel
theorem hm_m_X2_push_5 : (.static Lib.Math.min.name : Cond) ∈ wsMX2_push := by decide +kernel
theorem hm_m_X2_push_6 : (.initialized "java/lang/Math" : Cond) ∈ wsMX2_push := by decide +kernel
theorem hm_m_X2_push_7 : (.code Lib.Math.min.name Lib.Math.min.code 2 (some .int) : Cond) ∈ wsMX2_push := by decide +kernel
set_option maxHeartbeats 4000000 in
set_option maxRecDepth 100000 in
/-- a flow along the way -/
theorem m_X2_push (l : Launch) (dC : Nat → ClassId) (dI : Nat → Nat → Nat) (hN : Nat → Nat) (aN : Nat → Nat) (kN : Nat → ClassId) (iN_arcs : Int32) (fN_from : Nat → Int32) (fN_to : Nat → Int32) (fN_room : Nat → Int32) (fN_cost : Nat → Int32) (iN_reached : Int32) (fN_free : Nat → Int32) (fN_before : Nat → Int32) (fN_flow : Nat → Int32) (fN_length : Nat → Int32) (fN_stop : Nat → Int32) (iN_stops : Int32) (fN_price : Nat → Int32) (fN_rest : Nat → Int32) (p1 : Int32) (p2 : Int32) (p3 : Int32) (b_iN_arcs : 0 ≤ iN_arcs.toInt ∧ iN_arcs.toInt ≤ 40) (b_fN_from : ∀ q : Nat, 0 ≤ (fN_from q).toInt ∧ (fN_from q).toInt ≤ 11) (b_fN_to : ∀ q : Nat, 0 ≤ (fN_to q).toInt ∧ (fN_to q).toInt ≤ 11) (b_fN_before : ∀ q : Nat, 0 ≤ (fN_before q).toInt ∧ (fN_before q).toInt ≤ 79) (b_fN_stop : ∀ q : Nat, 0 ≤ (fN_stop q).toInt ∧ (fN_stop q).toInt ≤ 11) (b_iN_stops : 0 ≤ iN_stops.toInt ∧ iN_stops.toInt ≤ 8) (b_p1 : 0 ≤ p1.toInt ∧ p1.toInt ≤ 11) (b_p2 : 0 ≤ p2.toInt ∧ p2.toInt ≤ 11) (b_p3 : 1 ≤ p3.toInt ∧ p3.toInt ≤ 2147483647) (hAr : ArO fN_from fN_to fN_room fN_cost iN_arcs.toInt.toNat) (hM0 : ∃ rk, PrC fN_from fN_to fN_room fN_cost fN_flow iN_arcs.toInt.toNat fN_length ∧ TrK fN_from fN_to fN_room fN_cost fN_flow iN_arcs.toInt.toNat p1.toInt.toNat fN_length (fun w => enB (fN_before w)) rk ∧ (fN_length p1.toInt.toNat).toInt = 0 ∧ ∀ v, v < 12 → 0 ≤ (fN_length v).toInt ∧ (fN_length v).toInt ≤ 536870912 ∧ (fN_length v ≠ 536870912 → (fN_length v).toInt ≤ 11000)) (hFl : FlO fN_room fN_flow iN_arcs.toInt.toNat) (htl : fN_length p2.toInt.toNat ≠ 536870912) (hne : p1.toInt ≠ p2.toInt) (sz : Nat) : Met l yX2_push wsMX2_push ({ frames := 1, cells := 0, slots := 0, locals := 13 }) (va_Pc [.ref (hN 0), .int p1, .int p2, .int p3] (fun U => U.heap.size = sz ∧ va_P (dC, dI) vwCl (WN hN aN kN iN_arcs fN_from fN_to fN_room fN_cost iN_reached fN_free fN_before fN_flow fN_length fN_stop iN_stops fN_price fN_rest) U.heap ∧ va_K (dC, dI) vwCl (tN kN) U ∧ va_D (fun _ => True) (WN hN aN kN iN_arcs fN_from fN_to fN_room fN_cost iN_reached fN_free fN_before fN_flow fN_length fN_stop iN_stops fN_price fN_rest))) (va_Qi (fun (r : Int32) (u : Nat → Int32) => (1 ≤ r.toInt ∧ r.toInt ≤ p3.toInt) ∧ (FlO fN_room u iN_arcs.toInt.toNat) ∧ (∀ S, rsA (((iN_arcs.toInt.toNat : Nat) : Int), fN_from, fN_to, fN_room, fN_cost) (fI u) S iN_arcs.toInt.toNat = rsA (((iN_arcs.toInt.toNat : Nat) : Int), fN_from, fN_to, fN_room, fN_cost) (fI fN_flow) S iN_arcs.toInt.toNat - (sW S p1.toInt.toNat r.toInt - sW S p2.toInt.toNat r.toInt)) ∧ (∀ a, a < iN_arcs.toInt.toNat → u a = fN_flow a ∨ ∃ m, m < 12 ∧ fN_length m ≠ 536870912 ∧ m ≠ p1.toInt.toNat ∧ ((enB (fN_before m)).toInt = (a : Int) + 1 ∨ (enB (fN_before m)).toInt = -((a : Int) + 1))) ∧ (csA (((iN_arcs.toInt.toNat : Nat) : Int), fN_from, fN_to, fN_room, fN_cost) (fI u) iN_arcs.toInt.toNat = csA (((iN_arcs.toInt.toNat : Nat) : Int), fN_from, fN_to, fN_room, fN_cost) (fI fN_flow) iN_arcs.toInt.toNat + r.toInt * ((fN_length p2.toInt.toNat).toInt - (fN_length p1.toInt.toNat).toInt))) (fun (u : Nat → Int32) t => va_P (dC, dI) vwCl (WN hN aN kN iN_arcs fN_from fN_to fN_room fN_cost iN_reached fN_free fN_before u fN_length fN_stop iN_stops fN_price fN_rest) t.heap ∧ va_D (va_A (WN hN aN kN iN_arcs fN_from fN_to fN_room fN_cost iN_reached fN_free fN_before fN_flow fN_length fN_stop iN_stops fN_price fN_rest) sz) (WN hN aN kN iN_arcs fN_from fN_to fN_room fN_cost iN_reached fN_free fN_before u fN_length fN_stop iN_stops fN_price fN_rest)) (va_A (WN hN aN kN iN_arcs fN_from fN_to fN_room fN_cost iN_reached fN_free fN_before fN_flow fN_length fN_stop iN_stops fN_price fN_rest) sz)) 0 0 (va_A (WN hN aN kN iN_arcs fN_from fN_to fN_room fN_cost iN_reached fN_free fN_before fN_flow fN_length fN_stop iN_stops fN_price fN_rest) sz) := by
  refine Met.ofW (cc := cX2_push) (maxL := 8) (ret := (some .int)) (by decide) rfl ?_
  intro p e s m args below meth c s₁ B hml hv
  obtain ⟨rfl, hsz, hP, hK, hD0⟩ := hv
  have hx := B.exec
  have hb := B.bytes
  have hr := B.returns
  have hts := atoms_spec (ws := wsMX2_push) B.pre
  have hown : s.vm.findClass RX2 = some m.cls := findClass_of_methodNamed B.named
  have hlocks := B.notSynchronized
  subst hsz
  have hD := hD0.self (sz := s.heap.size)
  generalize hAe : va_A (WN hN aN kN iN_arcs fN_from fN_to fN_room fN_cost iN_reached fN_free fN_before fN_flow fN_length fN_stop iN_stops fN_price fN_rest) s.heap.size = A at hD ⊢
  have hA : ∀ q : Nat, s.heap.size ≤ q → A q := fun q h => by rw [← hAe]; exact Or.inr h
  have hS : va_S A s.heap s.heap [] := va_S.rf
  have hl := lv_entry ([.ref (hN 0), .int p1, .int p2, .int p3]) (n := 8) (Nat.le_of_ble_eq_true rfl)
  rw [lg_entry_eq]
  generalize (lg_sl ([.ref (hN 0), .int p1, .int p2, .int p3]) ++ List.replicate (8 - (lg_sl ([.ref (hN 0), .int p1, .int p2, .int p3])).length) Slot.unset).toArray = ls at hl ⊢
  have hl : lv_has ls 8 [(0, .ref (hN 0)), (1, .int p1), (2, .int p2), (3, .int p3)] := hl
  obtain ⟨rk, hC, hT, hs0, hbd⟩ := hM0
  refine lv_iload_n hx hb dX2_push_0 rfl (lv_at hl 3 rfl) ?_
  refine lv_istore hx hb dX2_push_1 hl (by decide) rfl (fun ls (hl : lv_has ls _ ([(4, .int p3), (0, .ref (hN 0)), (1, .int p1), (2, .int p2), (3, .int p3)])) => ?_)
  refine lv_iload_n hx hb dX2_push_3 rfl (lv_at hl 3 rfl) ?_
  refine lv_istore hx hb dX2_push_4 hl (by decide) rfl (fun ls (hl : lv_has ls _ ([(5, .int p2), (4, .int p3), (0, .ref (hN 0)), (1, .int p1), (2, .int p2), (3, .int p3)])) => ?_)
  refine lv_iconst (v := 0) hx hb dX2_push_6 (by decide) ?_
  refine lv_istore hx hb dX2_push_7 hl (by decide) rfl (fun ls (hl : lv_has ls _ ([(6, .int 0), (5, .int p2), (4, .int p3), (0, .ref (hN 0)), (1, .int p1), (2, .int p2), (3, .int p3)])) => ?_)
  have hl : lv_has _ _ ([(6, .int 0), (5, .int p2), (4, .int p3), (0, .ref (hN 0)), (1, .int p1), (2, .int p2), (3, .int p3)]) := lv_sub hl [0, 1, 2, 3, 4, 5, 6] rfl
  refine (fun (loop : ∀ (n9 : Nat) (l6_x9 : Int32) (l5_x9 : Int32) (l4_x9 : Int32) (H : Heap) (locs : List Loc) (ls : Array Slot), (0 ≤ l6_x9.toInt ∧ l6_x9.toInt ≤ 12) → (0 ≤ l5_x9.toInt ∧ l5_x9.toInt ≤ 11) → (Qk1 fN_from fN_to fN_room fN_flow fN_length fN_before rk p2.toInt.toNat p3.toInt l6_x9.toInt.toNat l5_x9.toInt.toNat l4_x9.toInt) → (12 - l6_x9.toInt < ((n9 : Nat) : Int)) → va_P (dC, dI) vwCl (WN hN aN kN iN_arcs fN_from fN_to fN_room fN_cost iN_reached fN_free fN_before fN_flow fN_length fN_stop iN_stops fN_price fN_rest) H → va_D A (WN hN aN kN iN_arcs fN_from fN_to fN_room fN_cost iN_reached fN_free fN_before fN_flow fN_length fN_stop iN_stops fN_price fN_rest) → va_S A s.heap H locs → lv_has ls 8 [(6, .int l6_x9), (5, .int l5_x9), (4, .int l4_x9), (0, .ref (hN 0)), (1, .int p1), (2, .int p2), (3, .int p3)] → W p l e _ s m _ below meth c H locs 0 0 _ (F0 m 9 ls [])) => loop (13) 0 p2 p3 _ _ _ (show 0 ≤ (0 : Int32).toInt ∧ (0 : Int32).toInt ≤ 12 from by decide) (b_p2) (show Qk1 fN_from fN_to fN_room fN_flow fN_length fN_before rk p2.toInt.toNat p3.toInt (0 : Int32).toInt.toNat p2.toInt.toNat p3.toInt from Qk1.start (by omega) htl (by decide) rfl rfl (by omega)) ((by have e9 : (0 : Int32).toInt = 0 := (by decide : (0 : Int32).toInt = 0); omega)) hP hD hS hl) ?_
  intro n9
  induction n9 with
  | zero => intro l6_x9 l5_x9 l4_x9 H locs ls b_l6_x9 b_l5_x9 hK1 hf9; exact False.elim (by omega)
  | succ n9 ihx9 =>
    intro l6_x9 l5_x9 l4_x9 H locs ls b_l6_x9 b_l5_x9 hK1 hfx9 hP hD hS hl
    refine lv_iload hx hb dX2_push_9 (lv_at hl 0 rfl) ?_
    have hst9 := hK1.2.2.2.1
    refine lv_bipush (v := 12) hx hb dX2_push_11 (by decide) ?_
    refine lv_icmp_ge (tgt := 108) hx hb dX2_push_13 (by decide) (fun c9 => False.elim (by have t9 : l6_x9.toInt ≥ 12 := toI_ge c9 rfl (by decide : (12 : Int32).toInt = 12); omega)) (fun c_13 => ?_)
    have t_13 : ¬ l6_x9.toInt ≥ 12 := toI_nge c_13 rfl (by decide : (12 : Int32).toInt = 12)
    refine lv_iload hx hb dX2_push_16 (lv_at hl 1 rfl) ?_
    refine lv_iload_n hx hb dX2_push_18 rfl (lv_at hl 4 rfl) ?_
    refine lv_icmp_eq (tgt := 108) hx hb dX2_push_19 (by decide) (fun c_19 => ?_) (fun c_19 => ?_)
    · have t_19 : l5_x9.toInt = p1.toInt := toI_eq c_19 rfl rfl
      have hms : l5_x9.toInt.toNat = p1.toInt.toNat := (by rw [t_19])
      have hw1 := hK1.2.2.2.2.1
      refine lv_iload_n hx hb dX2_push_108 rfl (lv_at hl 5 rfl) ?_
      refine lv_istore hx hb dX2_push_109 hl (by decide) rfl (fun ls (hl : lv_has ls _ ([(5, .int p2), (6, .int l6_x9), (4, .int l4_x9), (0, .ref (hN 0)), (1, .int p1), (2, .int p2), (3, .int p3)])) => ?_)
      refine lv_iconst (v := 0) hx hb dX2_push_111 (by decide) ?_
      refine lv_istore hx hb dX2_push_112 hl (by decide) rfl (fun ls (hl : lv_has ls _ ([(6, .int 0), (5, .int p2), (4, .int l4_x9), (0, .ref (hN 0)), (1, .int p1), (2, .int p2), (3, .int p3)])) => ?_)
      have hl : lv_has _ _ ([(6, .int 0), (5, .int p2), (4, .int l4_x9), (0, .ref (hN 0)), (1, .int p1), (2, .int p2), (3, .int p3)]) := lv_sub hl [0, 1, 2, 3, 4, 5, 6] rfl
      refine (fun (loop : ∀ (n9 : Nat) (fN_flow_x114 : Nat → Int32) (l6_x114 : Int32) (l5_x114 : Int32) (H : Heap) (locs : List Loc) (ls : Array Slot), (0 ≤ l6_x114.toInt ∧ l6_x114.toInt ≤ 12) → (0 ≤ l5_x114.toInt ∧ l5_x114.toInt ≤ 11) → (Qk2 (((iN_arcs.toInt.toNat : Nat) : Int), fN_from, fN_to, fN_room, fN_cost) fN_from fN_to fN_room fN_cost fN_flow fN_flow_x114 fN_length fN_before rk iN_arcs.toInt.toNat p1.toInt.toNat p2.toInt.toNat l4_x9.toInt l6_x9.toInt.toNat l6_x114.toInt.toNat l5_x114.toInt.toNat) → (12 - l6_x114.toInt < ((n9 : Nat) : Int)) → va_P (dC, dI) vwCl (WN hN aN kN iN_arcs fN_from fN_to fN_room fN_cost iN_reached fN_free fN_before fN_flow_x114 fN_length fN_stop iN_stops fN_price fN_rest) H → va_D A (WN hN aN kN iN_arcs fN_from fN_to fN_room fN_cost iN_reached fN_free fN_before fN_flow_x114 fN_length fN_stop iN_stops fN_price fN_rest) → va_S A s.heap H locs → lv_has ls 8 [(6, .int l6_x114), (5, .int l5_x114), (4, .int l4_x9), (0, .ref (hN 0)), (1, .int p1), (2, .int p2), (3, .int p3)] → W p l e _ s m _ below meth c H locs 0 0 _ (F0 m 114 ls [])) => loop (13) fN_flow 0 p2 _ _ _ (show 0 ≤ (0 : Int32).toInt ∧ (0 : Int32).toInt ≤ 12 from by decide) (b_p2) (show Qk2 (((iN_arcs.toInt.toNat : Nat) : Int), fN_from, fN_to, fN_room, fN_cost) fN_from fN_to fN_room fN_cost fN_flow fN_flow fN_length fN_before rk iN_arcs.toInt.toNat p1.toInt.toNat p2.toInt.toNat l4_x9.toInt l6_x9.toInt.toNat (0 : Int32).toInt.toNat p2.toInt.toNat from Qk2.start hFl (by omega) htl (by decide) rfl) ((by have e9 : (0 : Int32).toInt = 0 := (by decide : (0 : Int32).toInt = 0); omega)) hP hD hS hl) ?_
      intro n9
      induction n9 with
      | zero => intro fN_flow_x114 l6_x114 l5_x114 H locs ls b_l6_x114 b_l5_x114 hK2 hf9; exact False.elim (by omega)
      | succ n9 ihx114 =>
        intro fN_flow_x114 l6_x114 l5_x114 H locs ls b_l6_x114 b_l5_x114 hK2 hfx114 hP hD hS hl
        refine lv_iload hx hb dX2_push_114 (lv_at hl 0 rfl) ?_
        have hst9 := hK2.2.2.2.1
        refine lv_bipush (v := 12) hx hb dX2_push_116 (by decide) ?_
        refine lv_icmp_ge (tgt := 200) hx hb dX2_push_118 (by decide) (fun c9 => False.elim (by have t9 : l6_x114.toInt ≥ 12 := toI_ge c9 rfl (by decide : (12 : Int32).toInt = 12); omega)) (fun c_118 => ?_)
        have t_118 : ¬ l6_x114.toInt ≥ 12 := toI_nge c_118 rfl (by decide : (12 : Int32).toInt = 12)
        refine lv_iload hx hb dX2_push_121 (lv_at hl 1 rfl) ?_
        refine lv_iload_n hx hb dX2_push_123 rfl (lv_at hl 4 rfl) ?_
        refine lv_icmp_eq (tgt := 200) hx hb dX2_push_124 (by decide) (fun c_124 => ?_) (fun c_124 => ?_)
        · have t_124 : l5_x114.toInt = p1.toInt := toI_eq c_124 rfl rfl
          refine lv_iload hx hb dX2_push_200 (lv_at hl 2 rfl) ?_
          refine W.widen (k := 0) (n := 0) (by decide +kernel) (by decide +kernel) ?_
          exact W.iret (v := l4_x9) hx hb hr (fun t9_ ht hW => ⟨⟨l4_x9, fN_flow_x114, rfl, ⟨(by (try dsimp only); have hen : l5_x114.toInt.toNat = p1.toInt.toNat := (by rw [t_124]); exact ⟨hw1, hK1.2.2.2.2.2.1⟩), (by (try dsimp only); have hen : l5_x114.toInt.toNat = p1.toInt.toNat := (by rw [t_124]); exact hK2.2.2.2.2.2.1), (by (try dsimp only); have hen : l5_x114.toInt.toNat = p1.toInt.toNat := (by rw [t_124]); have h9 := hK2.2.2.2.2.2.2.1; rw [hen] at h9; exact h9), (by (try dsimp only); have hen : l5_x114.toInt.toNat = p1.toInt.toNat := (by rw [t_124]); exact hK2.2.2.2.2.2.2.2.1), (by (try dsimp only); have hen : l5_x114.toInt.toNat = p1.toInt.toNat := (by rw [t_124]); have h9 := hK2.2.2.2.2.2.2.2.2.2; rw [hen] at h9; exact h9)⟩, by rw [ht]; exact hP, hD⟩, hS.F ht⟩) hS.2.2 dX2_push_202
        · have t_124 : ¬ l5_x114.toInt = p1.toInt := toI_neq c_124 rfl rfl
          have hns : l5_x114.toInt.toNat ≠ p1.toInt.toNat := (by omega)
          obtain ⟨c9, hk9, hu9, hl9, hp9, hr9, hq9, hc9⟩ := hT.cls b_fN_before hK2.2.1 hK2.2.2.1 hns
          have ha9 := hk9.1
          have hwd := hK2.wid hK1 hms hns
          refine lv_aload_n hx hb dX2_push_127 rfl (lv_at hl 3 rfl) ?_
          refine va_get (D := (dC, dI)) (ci := 2) (v := .ref (aN 5)) (C := RX2) (T := TX2) (N := 14) hx hb hts iwsMX2_push_in2 hown hK hP 0 rfl rfl 7 (by decide) (hts _ hm_m_X2_push_0) (fun _ h9 => h9) rfl dX2_push_128 ?_
          refine lv_iload hx hb dX2_push_131 (lv_at hl 1 rfl) ?_
          refine va_iald (cA := kN 5) (n := 12) (f := fN_before) hx hb hK hP 6 5 rfl rfl (vp_in_iff.mpr ⟨b_l5_x114.1, (Int.lt_of_le_of_lt (b_l5_x114.2) (by decide))⟩) dX2_push_133 ?_
          refine lv_topi (fun v243 hv243 => ?_)
          have b_v243 : 0 ≤ v243.toInt ∧ v243.toInt ≤ 79 := by rw [hv243]; exact b_fN_before _
          have b1_v243 : v243 = fN_before (l5_x114).toNatClampNeg := hv243
          clear hv243
          refine lv_istore hx hb dX2_push_134 hl (by decide) rfl (fun ls (hl : lv_has ls _ ([(7, .int v243), (6, .int l6_x114), (5, .int l5_x114), (4, .int l4_x9), (0, .ref (hN 0)), (1, .int p1), (2, .int p2), (3, .int p3)])) => ?_)
          refine lv_iload hx hb dX2_push_136 (lv_at hl 0 rfl) ?_
          refine lv_bipush (v := 40) hx hb dX2_push_138 (by decide) ?_
          refine lv_icmp_ge (tgt := 167) hx hb dX2_push_140 (by decide) (fun c_140 => ?_) (fun c_140 => ?_)
          · have t_140 : v243.toInt ≥ 40 := toI_ge c_140 rfl (by decide : (40 : Int32).toInt = 40)
            have q40 : (fN_before l5_x114.toInt.toNat).toInt = v243.toInt := (by rw [b1_v243]; rfl)
            have hA9 : qA fN_before l5_x114.toInt.toNat = (v243.toInt - 40).toNat := (by unfold qA; rw [if_neg (by omega), q40])
            rw [hA9] at ha9
            obtain ⟨x9, y9, _, _, _, _, _, hro9, _⟩ := hAr _ ha9
            have hfl9 := hFl _ ha9
            have hfm9 := hK2.2.2.2.2.2.1 _ ha9
            refine lv_aload_n hx hb dX2_push_167 rfl (lv_at hl 4 rfl) ?_
            refine va_get (D := (dC, dI)) (ci := 2) (v := .ref (aN 6)) (C := RX2) (T := TX2) (N := 14) hx hb hts iwsMX2_push_in2 hown hK hP 0 rfl rfl 8 (by decide) (hts _ hm_m_X2_push_1) (fun _ h9 => h9) rfl dX2_push_168 ?_
            refine lv_iload hx hb dX2_push_171 (lv_at hl 0 rfl) ?_
            refine lv_bipush (v := 40) hx hb dX2_push_173 (by decide) ?_
            refine lv_isub hx hb dX2_push_175 ?_
            refine lv_topi (fun y244 hy244 => ?_)
            obtain rfl : (iI (v243.toInt - 40)) = y244 := (hy244.trans (iI_sub2 (iI_of _) (by decide : (40 : Int32) = iI 40))).symm
            refine lv_dup2_11 hx hb dX2_push_176 rfl rfl ?_
            refine va_iald (cA := kN 6) (n := 40) (f := fN_flow_x114) hx hb hK hP 7 6 rfl rfl (vp_iI (by omega) (Int.lt_of_le_of_lt (Int.sub_le_sub (b_v243.2) (Int.le_refl _)) (by decide)) (by decide)) dX2_push_177 ?_
            refine lv_topi (fun v245 hv245 => ?_)
            have b_v245 : 0 ≤ v245.toInt ∧ v245.toInt ≤ 1000 := by rw [hv245]; exact (by have hi9 : ((iI (v243.toInt - 40))).toNatClampNeg = (v243.toInt - 40).toNat := (by show (iI (v243.toInt - 40)).toInt.toNat = _; rw [iI_t (by omega) (by omega)]); rw [hi9]; omega)
            have b1_v245 : v245 = fN_flow_x114 (v243.toInt - 40).toNat := by rw [hv245]; exact (by have hi9 : ((iI (v243.toInt - 40))).toNatClampNeg = (v243.toInt - 40).toNat := (by show (iI (v243.toInt - 40)).toInt.toNat = _; rw [iI_t (by omega) (by omega)]); rw [hi9])
            clear hv245
            refine lv_iload hx hb dX2_push_178 (lv_at hl 3 rfl) ?_
            refine lv_isub hx hb dX2_push_180 ?_
            refine lv_topi (fun y246 hy246 => ?_)
            obtain rfl : (iI (v245.toInt - l4_x9.toInt)) = y246 := (hy246.trans (iI_sub2 (iI_of _) (iI_of _))).symm
            refine va_iast (cA := kN 6) (n := 40) (f := fN_flow_x114) hx hb hK hP hD hS 7 6 rfl rfl (vp_iI (by omega) (Int.lt_of_le_of_lt (Int.sub_le_sub (b_v243.2) (Int.le_refl _)) (by decide)) (by decide)) dX2_push_181 (fun H locs hP hD hS => ?_)
            obtain ⟨u247, hu247⟩ : ∃ f9, f9 = upd fN_flow_x114 ((iI (v243.toInt - 40))).toNatClampNeg (iI (v245.toInt - l4_x9.toInt)) := ⟨_, rfl⟩
            have hP : va_P (dC, dI) vwCl (WN hN aN kN iN_arcs fN_from fN_to fN_room fN_cost iN_reached fN_free fN_before u247 fN_length fN_stop iN_stops fN_price fN_rest) H := by rw [hu247]; exact hP
            have hD : va_D A (WN hN aN kN iN_arcs fN_from fN_to fN_room fN_cost iN_reached fN_free fN_before u247 fN_length fN_stop iN_stops fN_price fN_rest) := by rw [hu247]; exact hD
            have b_u247 : u247 = upd fN_flow_x114 ((iI (v243.toInt - 40))).toNatClampNeg (iI (v245.toInt - l4_x9.toInt)) := hu247
            clear hu247
            refine lv_aload_n hx hb dX2_push_182 rfl (lv_at hl 4 rfl) ?_
            refine va_get (D := (dC, dI)) (ci := 2) (v := .ref (aN 1)) (C := RX2) (T := TX2) (N := 14) hx hb hts iwsMX2_push_in2 hown hK hP 0 rfl rfl 2 (by decide) (hts _ hm_m_X2_push_2) (fun _ h9 => h9) rfl dX2_push_183 ?_
            refine lv_iload hx hb dX2_push_186 (lv_at hl 0 rfl) ?_
            refine lv_bipush (v := 40) hx hb dX2_push_188 (by decide) ?_
            refine lv_isub hx hb dX2_push_190 ?_
            refine lv_topi (fun y248 hy248 => ?_)
            obtain rfl : (iI (v243.toInt - 40)) = y248 := (hy248.trans (iI_sub2 (iI_of _) (by decide : (40 : Int32) = iI 40))).symm
            refine va_iald (cA := kN 1) (n := 40) (f := fN_to) hx hb hK hP 2 1 rfl rfl (vp_iI (by omega) (Int.lt_of_le_of_lt (Int.sub_le_sub (b_v243.2) (Int.le_refl _)) (by decide)) (by decide)) dX2_push_191 ?_
            refine lv_topi (fun v249 hv249 => ?_)
            have b_v249 : 0 ≤ v249.toInt ∧ v249.toInt ≤ 11 := by rw [hv249]; exact b_fN_to _
            have b1_v249 : v249 = fN_to (v243.toInt - 40).toNat := by rw [hv249]; exact (by have hi9 : ((iI (v243.toInt - 40))).toNatClampNeg = (v243.toInt - 40).toNat := (by show (iI (v243.toInt - 40)).toInt.toNat = _; rw [iI_t (by omega) (by omega)]); rw [hi9])
            clear hv249
            refine lv_istore hx hb dX2_push_192 hl (by decide) rfl (fun ls (hl : lv_has ls _ ([(5, .int v249), (7, .int v243), (6, .int l6_x114), (4, .int l4_x9), (0, .ref (hN 0)), (1, .int p1), (2, .int p2), (3, .int p3)])) => ?_)
            refine lv_iinc (v := (iI (l6_x114.toInt + 1))) hx hb dX2_push_194 hl (k := 2) rfl (iI_add2 (iI_of _) (by decide : (1 : Int32) = iI 1)) (by decide) rfl (fun ls (hl : lv_has ls _ ([(6, .int (iI (l6_x114.toInt + 1))), (5, .int v249), (7, .int v243), (4, .int l4_x9), (0, .ref (hN 0)), (1, .int p1), (2, .int p2), (3, .int p3)])) => ?_)
            refine lv_goto (tgt := 114) hx hb dX2_push_197 (by decide) ?_
            have hl : lv_has _ _ ([(6, .int (iI (l6_x114.toInt + 1))), (5, .int v249), (4, .int l4_x9), (0, .ref (hN 0)), (1, .int p1), (2, .int p2), (3, .int p3)]) := lv_sub hl [0, 1, 3, 4, 5, 6, 7] rfl
            exact ihx114 u247 (iI (l6_x114.toInt + 1)) v249 _ _ _ (iI_rng (Int.le_trans (by decide) (Int.add_le_add (b_l6_x114.1) (Int.le_refl _))) (by omega) (by decide) (by decide)) (b_v249) (show Qk2 (((iN_arcs.toInt.toNat : Nat) : Int), fN_from, fN_to, fN_room, fN_cost) fN_from fN_to fN_room fN_cost fN_flow u247 fN_length fN_before rk iN_arcs.toInt.toNat p1.toInt.toNat p2.toInt.toNat l4_x9.toInt l6_x9.toInt.toNat (iI (l6_x114.toInt + 1)).toInt.toNat v249.toInt.toNat from by have hU9 : v249.toInt.toNat = qU fN_from fN_to fN_before l5_x114.toInt.toNat := (by unfold qU; rw [if_neg (by omega), hA9, b1_v249]); have hS9 : qS fN_before l5_x114.toInt.toNat l4_x9.toInt = -l4_x9.toInt := (by unfold qS; rw [if_neg (by omega)]); have hR9 : qR fN_room fN_flow fN_before l5_x114.toInt.toNat = (fN_flow (v243.toInt - 40).toNat).toInt := (by unfold qR; rw [if_neg (by omega), hA9]); have hI9 : ((iI (v243.toInt - 40))).toNatClampNeg = qA fN_before l5_x114.toInt.toNat := (Eq.trans (by show (iI (v243.toInt - 40)).toInt.toNat = _; rw [iI_t (by omega) (by omega)]) hA9.symm); have hx9 : v245 = fN_flow_x114 (qA fN_before l5_x114.toInt.toNat) := (by rw [hA9]; exact b1_v245); exact Qk2.step hK2 hAr hT hC hFl b_fN_before hK1 hms hns hU9 (by rw [iI_t (by omega) (by omega)]; omega) (by rw [← hI9]; exact b_u247) (by rw [← hx9, hS9, iI_t (by omega) (by omega)] <;> omega)) (by have e9 : ((iI (l6_x114.toInt + 1))).toInt = (l6_x114.toInt + 1) := (iI_t (Int.le_trans (by decide) (Int.add_le_add (b_l6_x114.1) (Int.le_refl _))) (Int.le_trans (Int.add_le_add (b_l6_x114.2) (Int.le_refl _)) (by decide))); omega) hP hD hS hl
          · have t_140 : ¬ v243.toInt ≥ 40 := toI_nge c_140 rfl (by decide : (40 : Int32).toInt = 40)
            have q40 : (fN_before l5_x114.toInt.toNat).toInt = v243.toInt := (by rw [b1_v243]; rfl)
            have hA9 : qA fN_before l5_x114.toInt.toNat = v243.toInt.toNat := (by unfold qA; rw [if_pos (by omega), q40])
            rw [hA9] at ha9
            obtain ⟨x9, y9, _, _, _, _, _, hro9, _⟩ := hAr _ ha9
            have hfl9 := hFl _ ha9
            have hfm9 := hK2.2.2.2.2.2.1 _ ha9
            refine lv_aload_n hx hb dX2_push_143 rfl (lv_at hl 4 rfl) ?_
            refine va_get (D := (dC, dI)) (ci := 2) (v := .ref (aN 6)) (C := RX2) (T := TX2) (N := 14) hx hb hts iwsMX2_push_in2 hown hK hP 0 rfl rfl 8 (by decide) (hts _ hm_m_X2_push_1) (fun _ h9 => h9) rfl dX2_push_144 ?_
            refine lv_iload hx hb dX2_push_147 (lv_at hl 0 rfl) ?_
            refine lv_dup2_11 hx hb dX2_push_149 rfl rfl ?_
            refine va_iald (cA := kN 6) (n := 40) (f := fN_flow_x114) hx hb hK hP 7 6 rfl rfl (vp_in_iff.mpr ⟨b_v243.1, (Int.lt_of_lt_of_le (Int.not_le.mp t_140) (by decide))⟩) dX2_push_150 ?_
            refine lv_topi (fun v250 hv250 => ?_)
            have b_v250 : 0 ≤ v250.toInt ∧ v250.toInt ≤ 1000 := by rw [hv250]; exact (by have hi9 : (v243).toNatClampNeg = v243.toInt.toNat := (by rfl); rw [hi9]; omega)
            have b1_v250 : v250 = fN_flow_x114 v243.toInt.toNat := by rw [hv250]; exact (by have hi9 : (v243).toNatClampNeg = v243.toInt.toNat := (by rfl); rw [hi9])
            clear hv250
            refine lv_iload hx hb dX2_push_151 (lv_at hl 3 rfl) ?_
            refine lv_iadd hx hb dX2_push_153 ?_
            refine lv_topi (fun y251 hy251 => ?_)
            obtain rfl : (iI (v250.toInt + l4_x9.toInt)) = y251 := (hy251.trans (iI_add2 (iI_of _) (iI_of _))).symm
            refine va_iast (cA := kN 6) (n := 40) (f := fN_flow_x114) hx hb hK hP hD hS 7 6 rfl rfl (vp_in_iff.mpr ⟨b_v243.1, (Int.lt_of_lt_of_le (Int.not_le.mp t_140) (by decide))⟩) dX2_push_154 (fun H locs hP hD hS => ?_)
            obtain ⟨u252, hu252⟩ : ∃ f9, f9 = upd fN_flow_x114 (v243).toNatClampNeg (iI (v250.toInt + l4_x9.toInt)) := ⟨_, rfl⟩
            have hP : va_P (dC, dI) vwCl (WN hN aN kN iN_arcs fN_from fN_to fN_room fN_cost iN_reached fN_free fN_before u252 fN_length fN_stop iN_stops fN_price fN_rest) H := by rw [hu252]; exact hP
            have hD : va_D A (WN hN aN kN iN_arcs fN_from fN_to fN_room fN_cost iN_reached fN_free fN_before u252 fN_length fN_stop iN_stops fN_price fN_rest) := by rw [hu252]; exact hD
            have b_u252 : u252 = upd fN_flow_x114 (v243).toNatClampNeg (iI (v250.toInt + l4_x9.toInt)) := hu252
            clear hu252
            refine lv_aload_n hx hb dX2_push_155 rfl (lv_at hl 4 rfl) ?_
            refine va_get (D := (dC, dI)) (ci := 2) (v := .ref (aN 0)) (C := RX2) (T := TX2) (N := 14) hx hb hts iwsMX2_push_in2 hown hK hP 0 rfl rfl 1 (by decide) (hts _ hm_m_X2_push_3) (fun _ h9 => h9) rfl dX2_push_156 ?_
            refine lv_iload hx hb dX2_push_159 (lv_at hl 0 rfl) ?_
            refine va_iald (cA := kN 0) (n := 40) (f := fN_from) hx hb hK hP 1 0 rfl rfl (vp_in_iff.mpr ⟨b_v243.1, (Int.lt_of_lt_of_le (Int.not_le.mp t_140) (by decide))⟩) dX2_push_161 ?_
            refine lv_topi (fun v253 hv253 => ?_)
            have b_v253 : 0 ≤ v253.toInt ∧ v253.toInt ≤ 11 := by rw [hv253]; exact b_fN_from _
            have b1_v253 : v253 = fN_from v243.toInt.toNat := by rw [hv253]; exact (by have hi9 : (v243).toNatClampNeg = v243.toInt.toNat := (by rfl); rw [hi9])
            clear hv253
            refine lv_istore hx hb dX2_push_162 hl (by decide) rfl (fun ls (hl : lv_has ls _ ([(5, .int v253), (7, .int v243), (6, .int l6_x114), (4, .int l4_x9), (0, .ref (hN 0)), (1, .int p1), (2, .int p2), (3, .int p3)])) => ?_)
            refine lv_goto (tgt := 194) hx hb dX2_push_164 (by decide) ?_
            refine lv_iinc (v := (iI (l6_x114.toInt + 1))) hx hb dX2_push_194 hl (k := 2) rfl (iI_add2 (iI_of _) (by decide : (1 : Int32) = iI 1)) (by decide) rfl (fun ls (hl : lv_has ls _ ([(6, .int (iI (l6_x114.toInt + 1))), (5, .int v253), (7, .int v243), (4, .int l4_x9), (0, .ref (hN 0)), (1, .int p1), (2, .int p2), (3, .int p3)])) => ?_)
            refine lv_goto (tgt := 114) hx hb dX2_push_197 (by decide) ?_
            have hl : lv_has _ _ ([(6, .int (iI (l6_x114.toInt + 1))), (5, .int v253), (4, .int l4_x9), (0, .ref (hN 0)), (1, .int p1), (2, .int p2), (3, .int p3)]) := lv_sub hl [0, 1, 3, 4, 5, 6, 7] rfl
            exact ihx114 u252 (iI (l6_x114.toInt + 1)) v253 _ _ _ (iI_rng (Int.le_trans (by decide) (Int.add_le_add (b_l6_x114.1) (Int.le_refl _))) (by omega) (by decide) (by decide)) (b_v253) (show Qk2 (((iN_arcs.toInt.toNat : Nat) : Int), fN_from, fN_to, fN_room, fN_cost) fN_from fN_to fN_room fN_cost fN_flow u252 fN_length fN_before rk iN_arcs.toInt.toNat p1.toInt.toNat p2.toInt.toNat l4_x9.toInt l6_x9.toInt.toNat (iI (l6_x114.toInt + 1)).toInt.toNat v253.toInt.toNat from by have hU9 : v253.toInt.toNat = qU fN_from fN_to fN_before l5_x114.toInt.toNat := (by unfold qU; rw [if_pos (by omega), hA9, b1_v253]); have hS9 : qS fN_before l5_x114.toInt.toNat l4_x9.toInt = l4_x9.toInt := (by unfold qS; rw [if_pos (by omega)]); have hR9 : qR fN_room fN_flow fN_before l5_x114.toInt.toNat = (fN_room v243.toInt.toNat).toInt - (fN_flow v243.toInt.toNat).toInt := (by unfold qR; rw [if_pos (by omega), hA9]); have hI9 : (v243).toNatClampNeg = qA fN_before l5_x114.toInt.toNat := (Eq.trans rfl hA9.symm); have hx9 : v250 = fN_flow_x114 (qA fN_before l5_x114.toInt.toNat) := (by rw [hA9]; exact b1_v250); exact Qk2.step hK2 hAr hT hC hFl b_fN_before hK1 hms hns hU9 (by rw [iI_t (by omega) (by omega)]; omega) (by rw [← hI9]; exact b_u252) (by rw [← hx9, hS9, iI_t (by omega) (by omega)] <;> omega)) (by have e9 : ((iI (l6_x114.toInt + 1))).toInt = (l6_x114.toInt + 1) := (iI_t (Int.le_trans (by decide) (Int.add_le_add (b_l6_x114.1) (Int.le_refl _))) (Int.le_trans (Int.add_le_add (b_l6_x114.2) (Int.le_refl _)) (by decide))); omega) hP hD hS hl
    · have t_19 : ¬ l5_x9.toInt = p1.toInt := toI_neq c_19 rfl rfl
      have hns : l5_x9.toInt.toNat ≠ p1.toInt.toNat := (by omega)
      obtain ⟨c9, hk9, hu9, hl9, hp9, hr9, hq9, hc9⟩ := hT.cls b_fN_before hK1.2.1 hK1.2.2.1 hns
      have ha9 := hk9.1
      refine lv_aload_n hx hb dX2_push_22 rfl (lv_at hl 3 rfl) ?_
      refine va_get (D := (dC, dI)) (ci := 2) (v := .ref (aN 5)) (C := RX2) (T := TX2) (N := 14) hx hb hts iwsMX2_push_in2 hown hK hP 0 rfl rfl 7 (by decide) (hts _ hm_m_X2_push_0) (fun _ h9 => h9) rfl dX2_push_23 ?_
      refine lv_iload hx hb dX2_push_26 (lv_at hl 1 rfl) ?_
      refine va_iald (cA := kN 5) (n := 12) (f := fN_before) hx hb hK hP 6 5 rfl rfl (vp_in_iff.mpr ⟨b_l5_x9.1, (Int.lt_of_le_of_lt (b_l5_x9.2) (by decide))⟩) dX2_push_28 ?_
      refine lv_topi (fun v254 hv254 => ?_)
      have b_v254 : 0 ≤ v254.toInt ∧ v254.toInt ≤ 79 := by rw [hv254]; exact b_fN_before _
      have b1_v254 : v254 = fN_before (l5_x9).toNatClampNeg := hv254
      clear hv254
      refine lv_istore hx hb dX2_push_29 hl (by decide) rfl (fun ls (hl : lv_has ls _ ([(7, .int v254), (6, .int l6_x9), (5, .int l5_x9), (4, .int l4_x9), (0, .ref (hN 0)), (1, .int p1), (2, .int p2), (3, .int p3)])) => ?_)
      refine lv_iload hx hb dX2_push_31 (lv_at hl 3 rfl) ?_
      refine lv_iload hx hb dX2_push_33 (lv_at hl 0 rfl) ?_
      refine lv_bipush (v := 40) hx hb dX2_push_35 (by decide) ?_
      refine lv_icmp_ge (tgt := 58) hx hb dX2_push_37 (by decide) (fun c_37 => ?_) (fun c_37 => ?_)
      · have t_37 : v254.toInt ≥ 40 := toI_ge c_37 rfl (by decide : (40 : Int32).toInt = 40)
        have q40 : (fN_before l5_x9.toInt.toNat).toInt = v254.toInt := (by rw [b1_v254]; rfl)
        have hA9 : qA fN_before l5_x9.toInt.toNat = (v254.toInt - 40).toNat := (by unfold qA; rw [if_neg (by omega), q40])
        rw [hA9] at ha9
        obtain ⟨x9, y9, _, _, _, _, _, hro9, _⟩ := hAr _ ha9
        have hfl9 := hFl _ ha9
        refine lv_aload_n hx hb dX2_push_58 rfl (lv_at hl 4 rfl) ?_
        refine va_get (D := (dC, dI)) (ci := 2) (v := .ref (aN 6)) (C := RX2) (T := TX2) (N := 14) hx hb hts iwsMX2_push_in2 hown hK hP 0 rfl rfl 8 (by decide) (hts _ hm_m_X2_push_1) (fun _ h9 => h9) rfl dX2_push_59 ?_
        refine lv_iload hx hb dX2_push_62 (lv_at hl 0 rfl) ?_
        refine lv_bipush (v := 40) hx hb dX2_push_64 (by decide) ?_
        refine lv_isub hx hb dX2_push_66 ?_
        refine lv_topi (fun y255 hy255 => ?_)
        obtain rfl : (iI (v254.toInt - 40)) = y255 := (hy255.trans (iI_sub2 (iI_of _) (by decide : (40 : Int32) = iI 40))).symm
        refine va_iald (cA := kN 6) (n := 40) (f := fN_flow) hx hb hK hP 7 6 rfl rfl (vp_iI (by omega) (Int.lt_of_le_of_lt (Int.sub_le_sub (b_v254.2) (Int.le_refl _)) (by decide)) (by decide)) dX2_push_67 ?_
        refine lv_topi (fun v256 hv256 => ?_)
        have b_v256 : 0 ≤ v256.toInt ∧ v256.toInt ≤ 1000 := by rw [hv256]; exact (by have hi9 : ((iI (v254.toInt - 40))).toNatClampNeg = (v254.toInt - 40).toNat := (by show (iI (v254.toInt - 40)).toInt.toNat = _; rw [iI_t (by omega) (by omega)]); rw [hi9]; omega)
        have b1_v256 : v256 = fN_flow (v254.toInt - 40).toNat := by rw [hv256]; exact (by have hi9 : ((iI (v254.toInt - 40))).toNatClampNeg = (v254.toInt - 40).toNat := (by show (iI (v254.toInt - 40)).toInt.toNat = _; rw [iI_t (by omega) (by omega)]); rw [hi9])
        clear hv256
        refine va_mmin hx hb (by rw [hml]; exact hl.1.symm) hown (hts _ hm_m_X2_push_4) (hts _ hm_m_X2_push_5) (hts _ hm_m_X2_push_6) (hts _ hm_m_X2_push_7) (by decide +kernel) (Nat.le_of_ble_eq_true rfl) (by decide +kernel) (by decide +kernel) dX2_push_68 ?_
        refine lv_topi (fun v257 hv257 => ?_)
        have b_v257 : (v257.toInt ≤ l4_x9.toInt ∧ v257.toInt ≤ v256.toInt) ∧ (v257.toInt = l4_x9.toInt ∨ v257.toInt = v256.toInt) := by rw [hv257]; exact min_t rfl rfl
        clear hv257
        refine lv_istore hx hb dX2_push_71 hl (by decide) rfl (fun ls (hl : lv_has ls _ ([(4, .int v257), (7, .int v254), (6, .int l6_x9), (5, .int l5_x9), (0, .ref (hN 0)), (1, .int p1), (2, .int p2), (3, .int p3)])) => ?_)
        refine lv_iload hx hb dX2_push_73 (lv_at hl 1 rfl) ?_
        refine lv_bipush (v := 40) hx hb dX2_push_75 (by decide) ?_
        refine lv_icmp_ge (tgt := 90) hx hb dX2_push_77 (by decide) (fun c_77 => ?_) (fun c9 => False.elim (by have t9 : ¬ v254.toInt ≥ 40 := toI_nge c9 rfl (by decide : (40 : Int32).toInt = 40); omega))
        have t_77 : v254.toInt ≥ 40 := toI_ge c_77 rfl (by decide : (40 : Int32).toInt = 40)
        refine lv_aload_n hx hb dX2_push_90 rfl (lv_at hl 4 rfl) ?_
        refine va_get (D := (dC, dI)) (ci := 2) (v := .ref (aN 1)) (C := RX2) (T := TX2) (N := 14) hx hb hts iwsMX2_push_in2 hown hK hP 0 rfl rfl 2 (by decide) (hts _ hm_m_X2_push_2) (fun _ h9 => h9) rfl dX2_push_91 ?_
        refine lv_iload hx hb dX2_push_94 (lv_at hl 1 rfl) ?_
        refine lv_bipush (v := 40) hx hb dX2_push_96 (by decide) ?_
        refine lv_isub hx hb dX2_push_98 ?_
        refine lv_topi (fun y258 hy258 => ?_)
        obtain rfl : (iI (v254.toInt - 40)) = y258 := (hy258.trans (iI_sub2 (iI_of _) (by decide : (40 : Int32) = iI 40))).symm
        refine va_iald (cA := kN 1) (n := 40) (f := fN_to) hx hb hK hP 2 1 rfl rfl (vp_iI (by omega) (Int.lt_of_le_of_lt (Int.sub_le_sub (b_v254.2) (Int.le_refl _)) (by decide)) (by decide)) dX2_push_99 ?_
        refine lv_topi (fun v259 hv259 => ?_)
        have b_v259 : 0 ≤ v259.toInt ∧ v259.toInt ≤ 11 := by rw [hv259]; exact b_fN_to _
        have b1_v259 : v259 = fN_to (v254.toInt - 40).toNat := by rw [hv259]; exact (by have hi9 : ((iI (v254.toInt - 40))).toNatClampNeg = (v254.toInt - 40).toNat := (by show (iI (v254.toInt - 40)).toInt.toNat = _; rw [iI_t (by omega) (by omega)]); rw [hi9])
        clear hv259
        refine lv_istore hx hb dX2_push_100 hl (by decide) rfl (fun ls (hl : lv_has ls _ ([(5, .int v259), (4, .int v257), (7, .int v254), (6, .int l6_x9), (0, .ref (hN 0)), (1, .int p1), (2, .int p2), (3, .int p3)])) => ?_)
        refine lv_iinc (v := (iI (l6_x9.toInt + 1))) hx hb dX2_push_102 hl (k := 3) rfl (iI_add2 (iI_of _) (by decide : (1 : Int32) = iI 1)) (by decide) rfl (fun ls (hl : lv_has ls _ ([(6, .int (iI (l6_x9.toInt + 1))), (5, .int v259), (4, .int v257), (7, .int v254), (0, .ref (hN 0)), (1, .int p1), (2, .int p2), (3, .int p3)])) => ?_)
        refine lv_goto (tgt := 9) hx hb dX2_push_105 (by decide) ?_
        have hl : lv_has _ _ ([(6, .int (iI (l6_x9.toInt + 1))), (5, .int v259), (4, .int v257), (0, .ref (hN 0)), (1, .int p1), (2, .int p2), (3, .int p3)]) := lv_sub hl [0, 1, 2, 4, 5, 6, 7] rfl
        exact ihx9 (iI (l6_x9.toInt + 1)) v259 v257 _ _ _ (iI_rng (Int.le_trans (by decide) (Int.add_le_add (b_l6_x9.1) (Int.le_refl _))) (by omega) (by decide) (by decide)) (b_v259) (show Qk1 fN_from fN_to fN_room fN_flow fN_length fN_before rk p2.toInt.toNat p3.toInt (iI (l6_x9.toInt + 1)).toInt.toNat v259.toInt.toNat v257.toInt from by have hU9 : v259.toInt.toNat = qU fN_from fN_to fN_before l5_x9.toInt.toNat := (by unfold qU; rw [if_neg (by omega), hA9, b1_v259]); have hR9 : qR fN_room fN_flow fN_before l5_x9.toInt.toNat = v256.toInt := (by unfold qR; rw [if_neg (by omega), hA9, b1_v256]); have hwx := hK1.2.2.2.2.1; exact Qk1.step hK1 hT b_fN_before hns hU9 (by rw [iI_t (by omega) (by omega)]; omega) (by omega) (by rw [hR9]; omega) (by rw [hR9]; omega)) (by have e9 : ((iI (l6_x9.toInt + 1))).toInt = (l6_x9.toInt + 1) := (iI_t (Int.le_trans (by decide) (Int.add_le_add (b_l6_x9.1) (Int.le_refl _))) (Int.le_trans (Int.add_le_add (b_l6_x9.2) (Int.le_refl _)) (by decide))); omega) hP hD hS hl
      · have t_37 : ¬ v254.toInt ≥ 40 := toI_nge c_37 rfl (by decide : (40 : Int32).toInt = 40)
        have q40 : (fN_before l5_x9.toInt.toNat).toInt = v254.toInt := (by rw [b1_v254]; rfl)
        have hA9 : qA fN_before l5_x9.toInt.toNat = v254.toInt.toNat := (by unfold qA; rw [if_pos (by omega), q40])
        rw [hA9] at ha9
        obtain ⟨x9, y9, _, _, _, _, _, hro9, _⟩ := hAr _ ha9
        have hfl9 := hFl _ ha9
        refine lv_aload_n hx hb dX2_push_40 rfl (lv_at hl 4 rfl) ?_
        refine va_get (D := (dC, dI)) (ci := 2) (v := .ref (aN 2)) (C := RX2) (T := TX2) (N := 14) hx hb hts iwsMX2_push_in2 hown hK hP 0 rfl rfl 3 (by decide) (hts (.fieldLink RX2 18 "OptimaWorks$NetDesk" "room" "[I") (by decide +kernel)) (fun _ h9 => h9) rfl dX2_push_41 ?_
        refine lv_iload hx hb dX2_push_44 (lv_at hl 0 rfl) ?_
        refine va_iald (cA := kN 2) (n := 40) (f := fN_room) hx hb hK hP 3 2 rfl rfl (vp_in_iff.mpr ⟨b_v254.1, (Int.lt_of_lt_of_le (Int.not_le.mp t_37) (by decide))⟩) dX2_push_46 ?_
        refine lv_topi (fun v260 hv260 => ?_)
        have b_v260 : 0 ≤ v260.toInt ∧ v260.toInt ≤ 1000 := by rw [hv260]; exact (by have hi9 : (v254).toNatClampNeg = v254.toInt.toNat := (by rfl); rw [hi9]; omega)
        have b1_v260 : v260 = fN_room v254.toInt.toNat := by rw [hv260]; exact (by have hi9 : (v254).toNatClampNeg = v254.toInt.toNat := (by rfl); rw [hi9])
        clear hv260
        refine lv_aload_n hx hb dX2_push_47 rfl (lv_at hl 4 rfl) ?_
        refine va_get (D := (dC, dI)) (ci := 2) (v := .ref (aN 6)) (C := RX2) (T := TX2) (N := 14) hx hb hts iwsMX2_push_in2 hown hK hP 0 rfl rfl 8 (by decide) (hts _ hm_m_X2_push_1) (fun _ h9 => h9) rfl dX2_push_48 ?_
        refine lv_iload hx hb dX2_push_51 (lv_at hl 0 rfl) ?_
        refine va_iald (cA := kN 6) (n := 40) (f := fN_flow) hx hb hK hP 7 6 rfl rfl (vp_in_iff.mpr ⟨b_v254.1, (Int.lt_of_lt_of_le (Int.not_le.mp t_37) (by decide))⟩) dX2_push_53 ?_
        refine lv_topi (fun v261 hv261 => ?_)
        have b_v261 : 0 ≤ v261.toInt ∧ v261.toInt ≤ 1000 := by rw [hv261]; exact (by have hi9 : (v254).toNatClampNeg = v254.toInt.toNat := (by rfl); rw [hi9]; omega)
        have b1_v261 : v261 = fN_flow v254.toInt.toNat := by rw [hv261]; exact (by have hi9 : (v254).toNatClampNeg = v254.toInt.toNat := (by rfl); rw [hi9])
        clear hv261
        refine lv_isub hx hb dX2_push_54 ?_
        refine lv_topi (fun y262 hy262 => ?_)
        obtain rfl : (iI (v260.toInt - v261.toInt)) = y262 := (hy262.trans (iI_sub2 (iI_of _) (iI_of _))).symm
        refine lv_goto (tgt := 68) hx hb dX2_push_55 (by decide) ?_
        refine va_mmin hx hb (by rw [hml]; exact hl.1.symm) hown (hts _ hm_m_X2_push_4) (hts _ hm_m_X2_push_5) (hts _ hm_m_X2_push_6) (hts _ hm_m_X2_push_7) (by decide +kernel) (Nat.le_of_ble_eq_true rfl) (by decide +kernel) (by decide +kernel) dX2_push_68 ?_
        refine lv_topi (fun v263 hv263 => ?_)
        have b_v263 : (v263.toInt ≤ l4_x9.toInt ∧ v263.toInt ≤ (v260.toInt - v261.toInt)) ∧ (v263.toInt = l4_x9.toInt ∨ v263.toInt = (v260.toInt - v261.toInt)) := by rw [hv263]; exact min_t rfl (iI_t (Int.le_trans (by decide) (Int.sub_le_sub (b_v260.1) (b_v261.2))) (Int.le_trans (Int.sub_le_sub (b_v260.2) (b_v261.1)) (by decide)))
        clear hv263
        refine lv_istore hx hb dX2_push_71 hl (by decide) rfl (fun ls (hl : lv_has ls _ ([(4, .int v263), (7, .int v254), (6, .int l6_x9), (5, .int l5_x9), (0, .ref (hN 0)), (1, .int p1), (2, .int p2), (3, .int p3)])) => ?_)
        refine lv_iload hx hb dX2_push_73 (lv_at hl 1 rfl) ?_
        refine lv_bipush (v := 40) hx hb dX2_push_75 (by decide) ?_
        refine lv_icmp_ge (tgt := 90) hx hb dX2_push_77 (by decide) (fun c9 => False.elim (by have t9 : v254.toInt ≥ 40 := toI_ge c9 rfl (by decide : (40 : Int32).toInt = 40); omega)) (fun c_77 => ?_)
        have t_77 : ¬ v254.toInt ≥ 40 := toI_nge c_77 rfl (by decide : (40 : Int32).toInt = 40)
        refine lv_aload_n hx hb dX2_push_80 rfl (lv_at hl 4 rfl) ?_
        refine va_get (D := (dC, dI)) (ci := 2) (v := .ref (aN 0)) (C := RX2) (T := TX2) (N := 14) hx hb hts iwsMX2_push_in2 hown hK hP 0 rfl rfl 1 (by decide) (hts _ hm_m_X2_push_3) (fun _ h9 => h9) rfl dX2_push_81 ?_
        refine lv_iload hx hb dX2_push_84 (lv_at hl 1 rfl) ?_
        refine va_iald (cA := kN 0) (n := 40) (f := fN_from) hx hb hK hP 1 0 rfl rfl (vp_in_iff.mpr ⟨b_v254.1, (Int.lt_of_lt_of_le (Int.not_le.mp t_77) (by decide))⟩) dX2_push_86 ?_
        refine lv_topi (fun v264 hv264 => ?_)
        have b_v264 : 0 ≤ v264.toInt ∧ v264.toInt ≤ 11 := by rw [hv264]; exact b_fN_from _
        have b1_v264 : v264 = fN_from v254.toInt.toNat := by rw [hv264]; exact (by have hi9 : (v254).toNatClampNeg = v254.toInt.toNat := (by rfl); rw [hi9])
        clear hv264
        refine lv_goto (tgt := 100) hx hb dX2_push_87 (by decide) ?_
        refine lv_istore hx hb dX2_push_100 hl (by decide) rfl (fun ls (hl : lv_has ls _ ([(5, .int v264), (4, .int v263), (7, .int v254), (6, .int l6_x9), (0, .ref (hN 0)), (1, .int p1), (2, .int p2), (3, .int p3)])) => ?_)
        refine lv_iinc (v := (iI (l6_x9.toInt + 1))) hx hb dX2_push_102 hl (k := 3) rfl (iI_add2 (iI_of _) (by decide : (1 : Int32) = iI 1)) (by decide) rfl (fun ls (hl : lv_has ls _ ([(6, .int (iI (l6_x9.toInt + 1))), (5, .int v264), (4, .int v263), (7, .int v254), (0, .ref (hN 0)), (1, .int p1), (2, .int p2), (3, .int p3)])) => ?_)
        refine lv_goto (tgt := 9) hx hb dX2_push_105 (by decide) ?_
        have hl : lv_has _ _ ([(6, .int (iI (l6_x9.toInt + 1))), (5, .int v264), (4, .int v263), (0, .ref (hN 0)), (1, .int p1), (2, .int p2), (3, .int p3)]) := lv_sub hl [0, 1, 2, 4, 5, 6, 7] rfl
        exact ihx9 (iI (l6_x9.toInt + 1)) v264 v263 _ _ _ (iI_rng (Int.le_trans (by decide) (Int.add_le_add (b_l6_x9.1) (Int.le_refl _))) (by omega) (by decide) (by decide)) (b_v264) (show Qk1 fN_from fN_to fN_room fN_flow fN_length fN_before rk p2.toInt.toNat p3.toInt (iI (l6_x9.toInt + 1)).toInt.toNat v264.toInt.toNat v263.toInt from by have hU9 : v264.toInt.toNat = qU fN_from fN_to fN_before l5_x9.toInt.toNat := (by unfold qU; rw [if_pos (by omega), hA9, b1_v264]); have hR9 : qR fN_room fN_flow fN_before l5_x9.toInt.toNat = v260.toInt - v261.toInt := (by unfold qR; rw [if_pos (by omega), hA9, b1_v260, b1_v261]); have hwx := hK1.2.2.2.2.1; exact Qk1.step hK1 hT b_fN_before hns hU9 (by rw [iI_t (by omega) (by omega)]; omega) (by omega) (by rw [hR9]; omega) (by rw [hR9]; omega)) (by have e9 : ((iI (l6_x9.toInt + 1))).toInt = (l6_x9.toInt + 1) := (iI_t (Int.le_trans (by decide) (Int.add_le_add (b_l6_x9.1) (Int.le_refl _))) (Int.le_trans (Int.add_le_add (b_l6_x9.2) (Int.le_refl _)) (by decide))); omega) hP hD hS hl
theorem dX2_leastCost_0 : decode cX2_leastCost 0 = .ok (.iload_n 3, 1) := dk_29 (by decide +kernel)
theorem dX2_leastCost_1 : decode cX2_leastCost 1 = .ok (.ifCond .ge 5, 3) := dk_156 (by decide +kernel)
theorem dX2_leastCost_4 : decode cX2_leastCost 4 = .ok (.iconst (-1), 1) := dk_2 (by decide +kernel)
theorem dX2_leastCost_5 : decode cX2_leastCost 5 = .ok (.ireturn, 1) := dk_172 (by decide +kernel)
theorem dX2_leastCost_6 : decode cX2_leastCost 6 = .ok (.aload_n 0, 1) := dk_42 (by decide +kernel)
theorem dX2_leastCost_7 : decode cX2_leastCost 7 = .ok (.getfield 30, 3) := dk_180 (by decide +kernel)
theorem dX2_leastCost_10 : decode cX2_leastCost 10 = .ok (.iconst 0, 1) := dk_3 (by decide +kernel)
theorem dX2_leastCost_11 : decode cX2_leastCost 11 = .ok (.invokestatic 49, 3) := dk_184 (by decide +kernel)
theorem dX2_leastCost_14 : decode cX2_leastCost 14 = .ok (.iload_n 3, 1) := dk_29 (by decide +kernel)
theorem dX2_leastCost_15 : decode cX2_leastCost 15 = .ok (.istore 4, 2) := dk_54 (by decide +kernel)
theorem dX2_leastCost_17 : decode cX2_leastCost 17 = .ok (.iconst 0, 1) := dk_3 (by decide +kernel)
theorem dX2_leastCost_18 : decode cX2_leastCost 18 = .ok (.istore 5, 2) := dk_54 (by decide +kernel)
theorem dX2_leastCost_20 : decode cX2_leastCost 20 = .ok (.iconst 0, 1) := dk_3 (by decide +kernel)
theorem dX2_leastCost_21 : decode cX2_leastCost 21 = .ok (.istore 6, 2) := dk_54 (by decide +kernel)
theorem dX2_leastCost_23 : decode cX2_leastCost 23 = .ok (.iload 6, 2) := dk_21 (by decide +kernel)
theorem dX2_leastCost_25 : decode cX2_leastCost 25 = .ok (.ldc 55, 2) := dk_18 (by decide +kernel)
theorem dX2_leastCost_27 : decode cX2_leastCost 27 = .ok (.if_icmp .ge 63, 3) := dk_162 (by decide +kernel)
theorem dX2_leastCost_30 : decode cX2_leastCost 30 = .ok (.iload 4, 2) := dk_21 (by decide +kernel)
theorem dX2_leastCost_32 : decode cX2_leastCost 32 = .ok (.ifCond .le 58, 3) := dk_158 (by decide +kernel)
theorem dX2_leastCost_35 : decode cX2_leastCost 35 = .ok (.aload_n 0, 1) := dk_42 (by decide +kernel)
theorem dX2_leastCost_36 : decode cX2_leastCost 36 = .ok (.iload_n 1, 1) := dk_27 (by decide +kernel)
theorem dX2_leastCost_37 : decode cX2_leastCost 37 = .ok (.invokevirtual 70, 3) := dk_182 (by decide +kernel)
theorem dX2_leastCost_40 : decode cX2_leastCost 40 = .ok (.aload_n 0, 1) := dk_42 (by decide +kernel)
theorem dX2_leastCost_41 : decode cX2_leastCost 41 = .ok (.getfield 33, 3) := dk_180 (by decide +kernel)
theorem dX2_leastCost_44 : decode cX2_leastCost 44 = .ok (.iload_n 2, 1) := dk_28 (by decide +kernel)
theorem dX2_leastCost_45 : decode cX2_leastCost 45 = .ok (.iaload, 1) := dk_46 (by decide +kernel)
theorem dX2_leastCost_46 : decode cX2_leastCost 46 = .ok (.ldc 60, 2) := dk_18 (by decide +kernel)
theorem dX2_leastCost_48 : decode cX2_leastCost 48 = .ok (.if_icmp .lt 5, 3) := dk_161 (by decide +kernel)
theorem dX2_leastCost_51 : decode cX2_leastCost 51 = .ok (.iconst (-1), 1) := dk_2 (by decide +kernel)
theorem dX2_leastCost_52 : decode cX2_leastCost 52 = .ok (.ireturn, 1) := dk_172 (by decide +kernel)
theorem dX2_leastCost_53 : decode cX2_leastCost 53 = .ok (.aload_n 0, 1) := dk_42 (by decide +kernel)
theorem dX2_leastCost_54 : decode cX2_leastCost 54 = .ok (.iload_n 1, 1) := dk_27 (by decide +kernel)
theorem dX2_leastCost_55 : decode cX2_leastCost 55 = .ok (.iload_n 2, 1) := dk_28 (by decide +kernel)
theorem dX2_leastCost_56 : decode cX2_leastCost 56 = .ok (.iload 4, 2) := dk_21 (by decide +kernel)
theorem dX2_leastCost_58 : decode cX2_leastCost 58 = .ok (.invokevirtual 74, 3) := dk_182 (by decide +kernel)
theorem dX2_leastCost_61 : decode cX2_leastCost 61 = .ok (.istore 7, 2) := dk_54 (by decide +kernel)
theorem dX2_leastCost_63 : decode cX2_leastCost 63 = .ok (.iload 4, 2) := dk_21 (by decide +kernel)
theorem dX2_leastCost_65 : decode cX2_leastCost 65 = .ok (.iload 7, 2) := dk_21 (by decide +kernel)
theorem dX2_leastCost_67 : decode cX2_leastCost 67 = .ok (.isub, 1) := dk_100 (by decide +kernel)
theorem dX2_leastCost_68 : decode cX2_leastCost 68 = .ok (.istore 4, 2) := dk_54 (by decide +kernel)
theorem dX2_leastCost_70 : decode cX2_leastCost 70 = .ok (.iload 5, 2) := dk_21 (by decide +kernel)
theorem dX2_leastCost_72 : decode cX2_leastCost 72 = .ok (.iload 7, 2) := dk_21 (by decide +kernel)
theorem dX2_leastCost_74 : decode cX2_leastCost 74 = .ok (.aload_n 0, 1) := dk_42 (by decide +kernel)
theorem dX2_leastCost_75 : decode cX2_leastCost 75 = .ok (.getfield 33, 3) := dk_180 (by decide +kernel)
theorem dX2_leastCost_78 : decode cX2_leastCost 78 = .ok (.iload_n 2, 1) := dk_28 (by decide +kernel)
theorem dX2_leastCost_79 : decode cX2_leastCost 79 = .ok (.iaload, 1) := dk_46 (by decide +kernel)
theorem dX2_leastCost_80 : decode cX2_leastCost 80 = .ok (.imul, 1) := dk_104 (by decide +kernel)
theorem dX2_leastCost_81 : decode cX2_leastCost 81 = .ok (.iadd, 1) := dk_96 (by decide +kernel)
theorem dX2_leastCost_82 : decode cX2_leastCost 82 = .ok (.istore 5, 2) := dk_54 (by decide +kernel)
theorem dX2_leastCost_84 : decode cX2_leastCost 84 = .ok (.iinc 6 1, 3) := dk_132 (by decide +kernel)
theorem dX2_leastCost_87 : decode cX2_leastCost 87 = .ok (.goto (-64), 3) := dk_167 (by decide +kernel)
theorem dX2_leastCost_90 : decode cX2_leastCost 90 = .ok (.iload 5, 2) := dk_21 (by decide +kernel)
theorem dX2_leastCost_92 : decode cX2_leastCost 92 = .ok (.ireturn, 1) := dk_172 (by decide +kernel)
def wsMX2_leastCost : List Cond := .code yX2_leastCost cX2_leastCost 8 (some .int) :: ([.fieldLink RX2 30 "OptimaWorks$NetDesk" "flow" "[I", .constant RX2 55 1000000, .fieldLink RX2 33 "OptimaWorks$NetDesk" "length" "[I", .constant RX2 60 536870912] ++ wsX20 ++ (va_wsS RX2 49 yJ7_fill_53178 wsMJ7_fill_53178) ++ (wsV RX2 70 RX2 yX2_measure wsMX2_measure) ++ (wsV RX2 74 RX2 yX2_push wsMX2_push))
theorem iwsMX2_leastCost_in2 : ∀ w ∈ wsX20, w ∈ wsMX2_leastCost := fun _ h => List.mem_cons_of_mem _ (List.mem_append_left _ (List.mem_append_left _ (List.mem_append_left _ (List.mem_append_right _ h))))
theorem gwsMX2_leastCost_0 : GoodIn wsMX2_leastCost (va_wsS RX2 49 yJ7_fill_53178 wsMJ7_fill_53178) := goodIn_sub (fun _ h => List.mem_cons_of_mem _ (List.mem_append_left _ (List.mem_append_left _ (List.mem_append_right _ h)))) (gdS (by decide +kernel) gdwsMJ7_fill_53178)
theorem gwsMX2_leastCost_1 : GoodIn wsMX2_leastCost (wsV RX2 70 RX2 yX2_measure wsMX2_measure) := goodIn_sub (fun _ h => List.mem_cons_of_mem _ (List.mem_append_left _ (List.mem_append_right _ h))) (gdV (by decide +kernel) gdwsMX2_measure)
theorem gwsMX2_leastCost_2 : GoodIn wsMX2_leastCost (wsV RX2 74 RX2 yX2_push wsMX2_push) := goodIn_sub (fun _ h => List.mem_cons_of_mem _ (List.mem_append_right _ h)) (gdV (by decide +kernel) gdwsMX2_push)
theorem gdwsMX2_leastCost : wsMX2_leastCost.all goodWord = true := gdC rfl (gdA (gdA (gdA (gdA (by decide +kernel : ([.fieldLink RX2 30 "OptimaWorks$NetDesk" "flow" "[I", .constant RX2 55 1000000, .fieldLink RX2 33 "OptimaWorks$NetDesk" "length" "[I", .constant RX2 60 536870912] : List Cond).all goodWord = true) gdwsX20) (gdS (by decide +kernel) gdwsMJ7_fill_53178)) (gdV (by decide +kernel) gdwsMX2_measure)) (gdV (by decide +kernel) gdwsMX2_push))
theorem hm_m_X2_leastCost_0 : (.fieldLink RX2 33 "OptimaWorks$NetDesk" "length" "[I" : Cond) ∈ wsMX2_leastCost := by decide +kernel
set_option maxHeartbeats 4000000 in
set_option maxRecDepth 100000 in
/-- the least cost -/
theorem m_X2_leastCost (l : Launch) (dC : Nat → ClassId) (dI : Nat → Nat → Nat) (hN : Nat → Nat) (aN : Nat → Nat) (kN : Nat → ClassId) (iN_arcs : Int32) (fN_from : Nat → Int32) (fN_to : Nat → Int32) (fN_room : Nat → Int32) (fN_cost : Nat → Int32) (iN_reached : Int32) (fN_free : Nat → Int32) (fN_before : Nat → Int32) (fN_flow : Nat → Int32) (fN_length : Nat → Int32) (fN_stop : Nat → Int32) (iN_stops : Int32) (fN_price : Nat → Int32) (fN_rest : Nat → Int32) (p1 : Int32) (p2 : Int32) (p3 : Int32) (b_iN_arcs : 0 ≤ iN_arcs.toInt ∧ iN_arcs.toInt ≤ 40) (b_fN_from : ∀ q : Nat, 0 ≤ (fN_from q).toInt ∧ (fN_from q).toInt ≤ 11) (b_fN_to : ∀ q : Nat, 0 ≤ (fN_to q).toInt ∧ (fN_to q).toInt ≤ 11) (b_fN_before : ∀ q : Nat, 0 ≤ (fN_before q).toInt ∧ (fN_before q).toInt ≤ 79) (b_fN_stop : ∀ q : Nat, 0 ≤ (fN_stop q).toInt ∧ (fN_stop q).toInt ≤ 11) (b_iN_stops : 0 ≤ iN_stops.toInt ∧ iN_stops.toInt ≤ 8) (b_p1 : 0 ≤ p1.toInt ∧ p1.toInt ≤ 11) (b_p2 : 0 ≤ p2.toInt ∧ p2.toInt ≤ 11) (hAr : ArO fN_from fN_to fN_room fN_cost iN_arcs.toInt.toNat) (hne : p1.toInt ≠ p2.toInt) (sz : Nat) : Met l yX2_leastCost wsMX2_leastCost ({ frames := 2, cells := 0, slots := 0, locals := 47 }) (va_Pc [.ref (hN 0), .int p1, .int p2, .int p3] (fun U => U.heap.size = sz ∧ va_P (dC, dI) vwCl (WN hN aN kN iN_arcs fN_from fN_to fN_room fN_cost iN_reached fN_free fN_before fN_flow fN_length fN_stop iN_stops fN_price fN_rest) U.heap ∧ va_K (dC, dI) vwCl (tN kN) U ∧ va_D (fun _ => True) (WN hN aN kN iN_arcs fN_from fN_to fN_room fN_cost iN_reached fN_free fN_before fN_flow fN_length fN_stop iN_stops fN_price fN_rest))) (va_Qi (fun (r : Int32) (u : (Nat → Int32) × (Nat → Int32) × (Nat → Int32)) => (∀ q : Nat, 0 ≤ ((u.1) q).toInt ∧ ((u.1) q).toInt ≤ 79) ∧ (mnC (iN_arcs.toInt, fN_from, fN_to, fN_room, fN_cost) p1.toInt.toNat p2.toInt.toNat p3.toInt r.toInt)) (fun (u : (Nat → Int32) × (Nat → Int32) × (Nat → Int32)) t => va_P (dC, dI) vwCl (WN hN aN kN iN_arcs fN_from fN_to fN_room fN_cost iN_reached fN_free (u.1) (u.2.1) (u.2.2) fN_stop iN_stops fN_price fN_rest) t.heap ∧ va_D (va_A (WN hN aN kN iN_arcs fN_from fN_to fN_room fN_cost iN_reached fN_free fN_before fN_flow fN_length fN_stop iN_stops fN_price fN_rest) sz) (WN hN aN kN iN_arcs fN_from fN_to fN_room fN_cost iN_reached fN_free (u.1) (u.2.1) (u.2.2) fN_stop iN_stops fN_price fN_rest)) (va_A (WN hN aN kN iN_arcs fN_from fN_to fN_room fN_cost iN_reached fN_free fN_before fN_flow fN_length fN_stop iN_stops fN_price fN_rest) sz)) 0 0 (va_A (WN hN aN kN iN_arcs fN_from fN_to fN_room fN_cost iN_reached fN_free fN_before fN_flow fN_length fN_stop iN_stops fN_price fN_rest) sz) := by
  refine Met.ofW (cc := cX2_leastCost) (maxL := 8) (ret := (some .int)) (by decide) rfl ?_
  intro p e s m args below meth c s₁ B hml hv
  obtain ⟨rfl, hsz, hP, hK, hD0⟩ := hv
  have hx := B.exec
  have hb := B.bytes
  have hr := B.returns
  have hts := atoms_spec (ws := wsMX2_leastCost) B.pre
  have hown : s.vm.findClass RX2 = some m.cls := findClass_of_methodNamed B.named
  have hlocks := B.notSynchronized
  subst hsz
  have hD := hD0.self (sz := s.heap.size)
  generalize hAe : va_A (WN hN aN kN iN_arcs fN_from fN_to fN_room fN_cost iN_reached fN_free fN_before fN_flow fN_length fN_stop iN_stops fN_price fN_rest) s.heap.size = A at hD ⊢
  have hA : ∀ q : Nat, s.heap.size ≤ q → A q := fun q h => by rw [← hAe]; exact Or.inr h
  have hS : va_S A s.heap s.heap [] := va_S.rf
  have hl := lv_entry ([.ref (hN 0), .int p1, .int p2, .int p3]) (n := 8) (Nat.le_of_ble_eq_true rfl)
  rw [lg_entry_eq]
  generalize (lg_sl ([.ref (hN 0), .int p1, .int p2, .int p3]) ++ List.replicate (8 - (lg_sl ([.ref (hN 0), .int p1, .int p2, .int p3])).length) Slot.unset).toArray = ls at hl ⊢
  have hl : lv_has ls 8 [(0, .ref (hN 0)), (1, .int p1), (2, .int p2), (3, .int p3)] := hl
  refine lv_iload_n hx hb dX2_leastCost_0 rfl (lv_at hl 3 rfl) ?_
  refine lv_if_ge (tgt := 6) hx hb dX2_leastCost_1 (by decide) (fun c_1 => ?_) (fun c_1 => ?_)
  · have t_1 : p3.toInt ≥ 0 := toI_ge c_1 rfl (by decide : (0 : Int32).toInt = 0)
    refine lv_aload_n hx hb dX2_leastCost_6 rfl (lv_at hl 0 rfl) ?_
    refine va_get (D := (dC, dI)) (ci := 2) (v := .ref (aN 6)) (C := RX2) (T := TX2) (N := 14) hx hb hts iwsMX2_leastCost_in2 hown hK hP 0 rfl rfl 8 (by decide) (hts (.fieldLink RX2 30 "OptimaWorks$NetDesk" "flow" "[I") (by decide +kernel)) (fun _ h9 => h9) rfl dX2_leastCost_7 ?_
    refine lv_iconst (v := 0) hx hb dX2_leastCost_10 (by decide) ?_
    have hPc : va_P (dC, dI) vwCl (WY (fun _ => 0) (fun _ => aN 6) (fun _ => kN 6) 40 fN_flow) _ := hP.sub [7] rfl
    have hDc : va_D _ (WY (fun _ => 0) (fun _ => aN 6) (fun _ => kN 6) 40 fN_flow) := hD.sub [7] (by decide) rfl
    have hKc : va_K (dC, dI) vwCl (tY (fun _ => kN 6)) _ := hK.sub [6] rfl
    have hFc := va_free (wc := WY (fun _ => 0) (fun _ => aN 6) (fun _ => kN 6) 40 fN_flow) hD hS hA [7] rfl
    refine va_callv (va_runS (As := [.ref (aN 6), .int 0]) (rest := []) ⟨hx, hb, hml, hown, hts⟩ (m_J7_fill_53178 l dC dI (fun _ => 0) (fun _ => aN 6) (fun _ => kN 6) 40 fN_flow 0 (by first | assumption | exact ⟨by omega, by omega⟩) s.heap.size) (va_cwS 2 hts gwsMX2_leastCost_0 rfl rfl rfl (by decide +kernel) ⟨by decide +kernel, by decide +kernel⟩) ⟨fun a U g mk q => by obtain ⟨q0, q1, qP, qK, qD⟩ := q; exact ⟨q0, q1, qP, va_K.moved (u := U) (U := U.calling g mk a) (Vm.Alike.refl U.vm) qK, qD⟩, fun U hU9 hW => ⟨rfl, by rw [hU9], by rw [hU9]; exact hPc, va_K.moved hW.alike hKc, hDc.weaken (fun _ _ _ _ => trivial)⟩⟩ rfl rfl hl.1 rfl (lv_room (Nat.le_of_ble_eq_true rfl)) dX2_leastCost_11 (by decide +kernel)) hS (fun q _ h => hFc q h) hFc (fun fY_1 t9_ H locs ht hvm hw9 hB9 hz1 hk1 hS => ?_)
    have f1_0 := hw9
    try dsimp only at f1_0
    obtain ⟨hP, hD⟩ := va_join (wr := [(hN 0, .inr (2, [.int iN_arcs, .ref (aN 0), .ref (aN 1), .ref (aN 2), .ref (aN 3), .int iN_reached, .ref (aN 4), .ref (aN 5), .ref (aN 6), .ref (aN 7), .ref (aN 8), .int iN_stops, .ref (aN 9), .ref (aN 10)])), (aN 0, .inl (kN 0, 40, .inl fN_from)), (aN 1, .inl (kN 1, 40, .inl fN_to)), (aN 2, .inl (kN 2, 40, .inl fN_room)), (aN 3, .inl (kN 3, 40, .inl fN_cost)), (aN 4, .inl (kN 4, 144, .inl fN_free)), (aN 5, .inl (kN 5, 12, .inl fN_before)), (aN 7, .inl (kN 7, 12, .inl fN_length)), (aN 8, .inl (kN 8, 8, .inl fN_stop)), (aN 9, .inl (kN 9, 64, .inl fN_price)), (aN 10, .inl (kN 10, 1024, .inl fN_rest))]) (w1 := WY (fun _ => 0) (fun _ => aN 6) (fun _ => kN 6) 40 fY_1) hP hD [7] [0, 1, 2, 3, 4, 5, 6, 8, 9, 10, 11] rfl rfl (by decide) (by decide) hk1 hFc (fz_P ht hB9.1) hB9.2
    have hP : va_P (dC, dI) vwCl (WN hN aN kN iN_arcs fN_from fN_to fN_room fN_cost iN_reached fN_free fN_before fY_1 fN_length fN_stop iN_stops fN_price fN_rest) H := hP.sub [0, 1, 2, 3, 4, 5, 6, 11, 7, 8, 9, 10] rfl
    have hD : va_D A (WN hN aN kN iN_arcs fN_from fN_to fN_room fN_cost iN_reached fN_free fN_before fY_1 fN_length fN_stop iN_stops fN_price fN_rest) := hD.sub [0, 1, 2, 3, 4, 5, 6, 11, 7, 8, 9, 10] (by decide) rfl
    have hfil := f1_0
    refine lv_iload_n hx hb dX2_leastCost_14 rfl (lv_at hl 3 rfl) ?_
    refine lv_istore hx hb dX2_leastCost_15 hl (by decide) rfl (fun ls (hl : lv_has ls _ ([(4, .int p3), (0, .ref (hN 0)), (1, .int p1), (2, .int p2), (3, .int p3)])) => ?_)
    refine lv_iconst (v := 0) hx hb dX2_leastCost_17 (by decide) ?_
    refine lv_istore hx hb dX2_leastCost_18 hl (by decide) rfl (fun ls (hl : lv_has ls _ ([(5, .int 0), (4, .int p3), (0, .ref (hN 0)), (1, .int p1), (2, .int p2), (3, .int p3)])) => ?_)
    refine lv_iconst (v := 0) hx hb dX2_leastCost_20 (by decide) ?_
    refine lv_istore hx hb dX2_leastCost_21 hl (by decide) rfl (fun ls (hl : lv_has ls _ ([(6, .int 0), (5, .int 0), (4, .int p3), (0, .ref (hN 0)), (1, .int p1), (2, .int p2), (3, .int p3)])) => ?_)
    have hl : lv_has _ _ ([(6, .int 0), (5, .int 0), (4, .int p3), (0, .ref (hN 0)), (1, .int p1), (2, .int p2), (3, .int p3)]) := lv_sub hl [0, 1, 2, 3, 4, 5, 6] rfl
    refine (fun (loop : ∀ (n9 : Nat) (fN_before_x23 : Nat → Int32) (fN_flow_x23 : Nat → Int32) (fN_length_x23 : Nat → Int32) (l6_x23 : Int32) (l5_x23 : Int32) (l4_x23 : Int32) (H : Heap) (locs : List Loc) (ls : Array Slot), (∀ q : Nat, 0 ≤ (fN_before_x23 q).toInt ∧ (fN_before_x23 q).toInt ≤ 79) → (0 ≤ l6_x23.toInt ∧ l6_x23.toInt ≤ 1000000) → (LcI fN_from fN_to fN_room fN_cost fN_flow_x23 iN_arcs.toInt.toNat p1.toInt.toNat p2.toInt.toNat (p3.toInt - l4_x23.toInt) l5_x23.toInt) → (0 ≤ l4_x23.toInt ∧ l4_x23.toInt ≤ p3.toInt ∧ l6_x23.toInt ≤ p3.toInt - l4_x23.toInt) → (1000000 - l6_x23.toInt < ((n9 : Nat) : Int)) → va_P (dC, dI) vwCl (WN hN aN kN iN_arcs fN_from fN_to fN_room fN_cost iN_reached fN_free fN_before_x23 fN_flow_x23 fN_length_x23 fN_stop iN_stops fN_price fN_rest) H → va_D A (WN hN aN kN iN_arcs fN_from fN_to fN_room fN_cost iN_reached fN_free fN_before_x23 fN_flow_x23 fN_length_x23 fN_stop iN_stops fN_price fN_rest) → va_S A s.heap H locs → lv_has ls 8 [(6, .int l6_x23), (5, .int l5_x23), (4, .int l4_x23), (0, .ref (hN 0)), (1, .int p1), (2, .int p2), (3, .int p3)] → W p l e _ s m _ below meth c H locs 0 0 _ (F0 m 23 ls [])) => loop (1000001) fN_before fY_1 fN_length 0 0 p3 _ _ _ b_fN_before (show 0 ≤ (0 : Int32).toInt ∧ (0 : Int32).toInt ≤ 1000000 from by decide) (show LcI fN_from fN_to fN_room fN_cost fY_1 iN_arcs.toInt.toNat p1.toInt.toNat p2.toInt.toNat (p3.toInt - p3.toInt) (0 : Int32).toInt from LcI.start hAr (fun a ha => hfil a (by omega)) (by omega) (by decide)) (show 0 ≤ p3.toInt ∧ p3.toInt ≤ p3.toInt ∧ (0 : Int32).toInt ≤ p3.toInt - p3.toInt from by first | omega | (have h7 : (0 : Int32).toInt = 0 := (by decide); omega)) ((by have e9 : (0 : Int32).toInt = 0 := (by decide : (0 : Int32).toInt = 0); omega)) hP hD hS hl) ?_
    intro n9
    induction n9 with
    | zero => intro fN_before_x23 fN_flow_x23 fN_length_x23 l6_x23 l5_x23 l4_x23 H locs ls b_fN_before_x23 b_l6_x23 hLc hms hf9; exact False.elim (by omega)
    | succ n9 ihx23 =>
      intro fN_before_x23 fN_flow_x23 fN_length_x23 l6_x23 l5_x23 l4_x23 H locs ls b_fN_before_x23 b_l6_x23 hLc hms hfx23 hP hD hS hl
      refine lv_iload hx hb dX2_leastCost_23 (lv_at hl 0 rfl) ?_
      refine lv_ldc (v := 1000000) hx hb hown (hts (.constant RX2 55 1000000) (by decide +kernel)) dX2_leastCost_25 ?_
      refine lv_icmp_ge (tgt := 90) hx hb dX2_leastCost_27 (by decide) (fun c_27 => ?_) (fun c_27 => ?_)
      · have t_27 : l6_x23.toInt ≥ 1000000 := toI_ge c_27 rfl (by decide : (1000000 : Int32).toInt = 1000000)
        refine lv_iload hx hb dX2_leastCost_90 (lv_at hl 1 rfl) ?_
        refine W.widen (k := 0) (n := 0) (by decide +kernel) (by decide +kernel) ?_
        exact W.iret (v := l5_x23) hx hb hr (fun t9_ ht hW => ⟨⟨l5_x23, (fN_before_x23, fN_flow_x23, fN_length_x23), rfl, ⟨b_fN_before_x23, (by (try dsimp only); rw [show iN_arcs.toInt = ((iN_arcs.toInt.toNat : Nat) : Int) from by omega]; first | (exfalso; have h9 := hLc.lim hAr (by omega) (by omega); omega) | exact hLc.some hAr (by omega) (by omega))⟩, by rw [ht]; exact hP, hD⟩, hS.F ht⟩) hS.2.2 dX2_leastCost_92
      · have t_27 : ¬ l6_x23.toInt ≥ 1000000 := toI_nge c_27 rfl (by decide : (1000000 : Int32).toInt = 1000000)
        refine lv_iload hx hb dX2_leastCost_30 (lv_at hl 2 rfl) ?_
        refine lv_if_le (tgt := 90) hx hb dX2_leastCost_32 (by decide) (fun c_32 => ?_) (fun c_32 => ?_)
        · have t_32 : l4_x23.toInt ≤ 0 := toI_le c_32 rfl (by decide : (0 : Int32).toInt = 0)
          refine lv_iload hx hb dX2_leastCost_90 (lv_at hl 1 rfl) ?_
          refine W.widen (k := 0) (n := 0) (by decide +kernel) (by decide +kernel) ?_
          exact W.iret (v := l5_x23) hx hb hr (fun t9_ ht hW => ⟨⟨l5_x23, (fN_before_x23, fN_flow_x23, fN_length_x23), rfl, ⟨b_fN_before_x23, (by (try dsimp only); rw [show iN_arcs.toInt = ((iN_arcs.toInt.toNat : Nat) : Int) from by omega]; first | (exfalso; have h9 := hLc.lim hAr (by omega) (by omega); omega) | exact hLc.some hAr (by omega) (by omega))⟩, by rw [ht]; exact hP, hD⟩, hS.F ht⟩) hS.2.2 dX2_leastCost_92
        · have t_32 : ¬ l4_x23.toInt ≤ 0 := toI_nle c_32 rfl (by decide : (0 : Int32).toInt = 0)
          have hp3m := Int32.toInt_lt p3
          have hlm := hLc.lim hAr (by omega) (by omega)
          refine lv_aload_n hx hb dX2_leastCost_35 rfl (lv_at hl 3 rfl) ?_
          refine lv_iload_n hx hb dX2_leastCost_36 rfl (lv_at hl 4 rfl) ?_
          have hFc := allFree hD hS hA
          refine va_callv (va_runV (As := [.int p1]) (rest := []) ⟨hx, hb, hml, hown, hts⟩ (m_X2_measure l dC dI hN aN kN iN_arcs fN_from fN_to fN_room fN_cost iN_reached fN_free fN_before_x23 fN_flow_x23 fN_length_x23 fN_stop iN_stops fN_price fN_rest p1 (b_iN_arcs) b_fN_from b_fN_to b_fN_before_x23 b_fN_stop (b_iN_stops) (b_p1) (hAr) (hLc.2.2.1) H.size) (cwV 1 hts gwsMX2_leastCost_1 rfl rfl rfl hd_yX2_measure_RX2 (by decide +kernel)) (fz_pre (va_recv hK hP (ci := 2) (q0 := 0) rfl rfl) hP hK hD) rfl rfl hl.1 rfl (lv_room (Nat.le_of_ble_eq_true rfl)) dX2_leastCost_37 (by decide +kernel)) hS (fun q _ h => hFc q h) hFc (fun u t9_ H locs ht hvm hw9 hB9 hz1 hk1 hS => ?_)
          revert u hw9 hB9
          refine fz_p2 ?_
          intro fN_before_16 fN_length_16 hw9 hB9
          try dsimp only at hw9 hB9
          revert hw9
          refine fz_a2 ?_
          intro b_fN_before_16 f16_0
          have hP : va_P (dC, dI) vwCl (WN hN aN kN iN_arcs fN_from fN_to fN_room fN_cost iN_reached fN_free fN_before_16 fN_flow_x23 fN_length_16 fN_stop iN_stops fN_price fN_rest) H := fz_P ht hB9.1
          have hD := fz_sd hP (hB9.2.weaken (fun _ q _ h => hFc q.1 h)) rfl
          have hMs := f16_0
          have hMk := hMs
          obtain ⟨rk, hC, hT, hs0, hbd⟩ := hMk
          refine lv_aload_n hx hb dX2_leastCost_40 rfl (lv_at hl 3 rfl) ?_
          refine va_get (D := (dC, dI)) (ci := 2) (v := .ref (aN 7)) (C := RX2) (T := TX2) (N := 14) hx hb hts iwsMX2_leastCost_in2 hown hK hP 0 rfl rfl 9 (by decide) (hts _ hm_m_X2_leastCost_0) (fun _ h9 => h9) rfl dX2_leastCost_41 ?_
          refine lv_iload_n hx hb dX2_leastCost_44 rfl (lv_at hl 5 rfl) ?_
          refine va_iald (cA := kN 7) (n := 12) (f := fN_length_16) hx hb hK hP 8 7 rfl rfl (vp_in_iff.mpr ⟨b_p2.1, (Int.lt_of_le_of_lt (b_p2.2) (by decide))⟩) dX2_leastCost_45 ?_
          refine lv_topi (fun v17 hv17 => ?_)
          have b_v17 : 0 ≤ v17.toInt ∧ v17.toInt ≤ 536870912 := by rw [hv17]; exact ⟨(hbd _ (by show p2.toInt.toNat < 12; omega)).1, (hbd _ (by show p2.toInt.toNat < 12; omega)).2.1⟩
          have b1_v17 : v17 = fN_length_16 (p2).toNatClampNeg := hv17
          clear hv17
          refine lv_ldc (v := 536870912) hx hb hown (hts (.constant RX2 60 536870912) (by decide +kernel)) dX2_leastCost_46 ?_
          refine lv_icmp_lt (tgt := 53) hx hb dX2_leastCost_48 (by decide) (fun c_48 => ?_) (fun c_48 => ?_)
          · have t_48 : v17.toInt < 536870912 := toI_lt c_48 rfl (by decide : (536870912 : Int32).toInt = 536870912)
            have htl : fN_length_16 p2.toInt.toNat ≠ 536870912 := (fun e9 => by rw [b1_v17, show fN_length_16 (p2).toNatClampNeg = 536870912 from e9] at t_48; exact absurd t_48 (by decide))
            refine lv_aload_n hx hb dX2_leastCost_53 rfl (lv_at hl 3 rfl) ?_
            refine lv_iload_n hx hb dX2_leastCost_54 rfl (lv_at hl 4 rfl) ?_
            refine lv_iload_n hx hb dX2_leastCost_55 rfl (lv_at hl 5 rfl) ?_
            refine lv_iload hx hb dX2_leastCost_56 (lv_at hl 2 rfl) ?_
            have hFc := allFree hD hS hA
            refine va_calli (va_runV (As := [.int p1, .int p2, .int l4_x23]) (rest := []) ⟨hx, hb, hml, hown, hts⟩ (m_X2_push l dC dI hN aN kN iN_arcs fN_from fN_to fN_room fN_cost iN_reached fN_free fN_before_16 fN_flow_x23 fN_length_16 fN_stop iN_stops fN_price fN_rest p1 p2 l4_x23 (b_iN_arcs) b_fN_from b_fN_to b_fN_before_16 b_fN_stop (b_iN_stops) (b_p1) (b_p2) (by first | exact b_l4_x23 | with_reducible assumption | exact ⟨by omega, by omega⟩ | assumption) (hAr) (hMs) (hLc.1) (htl) (hne) H.size) (cwV 3 hts gwsMX2_leastCost_2 rfl rfl rfl hd_yX2_push_RX2 (by decide +kernel)) (fz_pre (va_recv hK hP (ci := 2) (q0 := 0) rfl rfl) hP hK hD) rfl rfl hl.1 rfl (lv_room (Nat.le_of_ble_eq_true rfl)) dX2_leastCost_58 (by decide +kernel)) hS (fun q _ h => hFc q h) hFc (fun r18 fN_flow_18 t9_ H locs ht hvm hw9 hB9 hz1 hk1 hS => ?_)
            revert hw9
            refine fz_a5 ?_
            intro f18_0 f18_1 f18_2 f18_3 f18_4
            have hP : va_P (dC, dI) vwCl (WN hN aN kN iN_arcs fN_from fN_to fN_room fN_cost iN_reached fN_free fN_before_16 fN_flow_18 fN_length_16 fN_stop iN_stops fN_price fN_rest) H := fz_P ht hB9.1
            have hD := fz_sd hP (hB9.2.weaken (fun _ q _ h => hFc q.1 h)) rfl
            have hpu0 := f18_0
            have hpu1 := f18_1
            have hpu2 := f18_2
            have hpu3 := f18_3
            have hpu4 := f18_4
            refine lv_istore hx hb dX2_leastCost_61 hl (by decide) rfl (fun ls (hl : lv_has ls _ ([(7, .int r18), (6, .int l6_x23), (5, .int l5_x23), (4, .int l4_x23), (0, .ref (hN 0)), (1, .int p1), (2, .int p2), (3, .int p3)])) => ?_)
            refine lv_iload hx hb dX2_leastCost_63 (lv_at hl 3 rfl) ?_
            refine lv_iload hx hb dX2_leastCost_65 (lv_at hl 0 rfl) ?_
            refine lv_isub hx hb dX2_leastCost_67 ?_
            refine lv_topi (fun y19 hy19 => ?_)
            obtain rfl : (iI (l4_x23.toInt - r18.toInt)) = y19 := (hy19.trans (iI_sub2 (iI_of _) (iI_of _))).symm
            refine lv_istore hx hb dX2_leastCost_68 hl (by decide) rfl (fun ls (hl : lv_has ls _ ([(4, .int (iI (l4_x23.toInt - r18.toInt))), (7, .int r18), (6, .int l6_x23), (5, .int l5_x23), (0, .ref (hN 0)), (1, .int p1), (2, .int p2), (3, .int p3)])) => ?_)
            refine lv_iload hx hb dX2_leastCost_70 (lv_at hl 3 rfl) ?_
            refine lv_iload hx hb dX2_leastCost_72 (lv_at hl 1 rfl) ?_
            refine lv_aload_n hx hb dX2_leastCost_74 rfl (lv_at hl 4 rfl) ?_
            refine va_get (D := (dC, dI)) (ci := 2) (v := .ref (aN 7)) (C := RX2) (T := TX2) (N := 14) hx hb hts iwsMX2_leastCost_in2 hown hK hP 0 rfl rfl 9 (by decide) (hts _ hm_m_X2_leastCost_0) (fun _ h9 => h9) rfl dX2_leastCost_75 ?_
            refine lv_iload_n hx hb dX2_leastCost_78 rfl (lv_at hl 6 rfl) ?_
            refine va_iald (cA := kN 7) (n := 12) (f := fN_length_16) hx hb hK hP 8 7 rfl rfl (vp_in_iff.mpr ⟨b_p2.1, (Int.lt_of_le_of_lt (b_p2.2) (by decide))⟩) dX2_leastCost_79 ?_
            refine lv_topi (fun v20 hv20 => ?_)
            have b_v20 : 0 ≤ v20.toInt ∧ v20.toInt ≤ 536870912 := by rw [hv20]; exact ⟨(hbd _ (by show p2.toInt.toNat < 12; omega)).1, (hbd _ (by show p2.toInt.toNat < 12; omega)).2.1⟩
            have b1_v20 : v20 = fN_length_16 (p2).toNatClampNeg := hv20
            clear hv20
            refine lv_imul hx hb dX2_leastCost_80 ?_
            refine lv_topi (fun y21 hy21 => ?_)
            obtain rfl : (iI (r18.toInt * v20.toInt)) = y21 := (hy21.trans (iI_mul2 (iI_of _) (iI_of _))).symm
            refine lv_iadd hx hb dX2_leastCost_81 ?_
            refine lv_topi (fun y22 hy22 => ?_)
            obtain rfl : (iI (l5_x23.toInt + (r18.toInt * v20.toInt))) = y22 := (hy22.trans (iI_add2 (iI_of _) rfl)).symm
            refine lv_istore hx hb dX2_leastCost_82 hl (by decide) rfl (fun ls (hl : lv_has ls _ ([(5, .int (iI (l5_x23.toInt + (r18.toInt * v20.toInt)))), (4, .int (iI (l4_x23.toInt - r18.toInt))), (7, .int r18), (6, .int l6_x23), (0, .ref (hN 0)), (1, .int p1), (2, .int p2), (3, .int p3)])) => ?_)
            refine lv_iinc (v := (iI (l6_x23.toInt + 1))) hx hb dX2_leastCost_84 hl (k := 3) rfl (iI_add2 (iI_of _) (by decide : (1 : Int32) = iI 1)) (by decide) rfl (fun ls (hl : lv_has ls _ ([(6, .int (iI (l6_x23.toInt + 1))), (5, .int (iI (l5_x23.toInt + (r18.toInt * v20.toInt)))), (4, .int (iI (l4_x23.toInt - r18.toInt))), (7, .int r18), (0, .ref (hN 0)), (1, .int p1), (2, .int p2), (3, .int p3)])) => ?_)
            refine lv_goto (tgt := 23) hx hb dX2_leastCost_87 (by decide) ?_
            have hl : lv_has _ _ ([(6, .int (iI (l6_x23.toInt + 1))), (5, .int (iI (l5_x23.toInt + (r18.toInt * v20.toInt)))), (4, .int (iI (l4_x23.toInt - r18.toInt))), (0, .ref (hN 0)), (1, .int p1), (2, .int p2), (3, .int p3)]) := lv_sub hl [0, 1, 2, 4, 5, 6, 7] rfl
            exact ihx23 fN_before_16 fN_flow_18 fN_length_16 (iI (l6_x23.toInt + 1)) (iI (l5_x23.toInt + (r18.toInt * v20.toInt))) (iI (l4_x23.toInt - r18.toInt)) _ _ _ b_fN_before_16 (iI_rng (Int.le_trans (by decide) (Int.add_le_add (b_l6_x23.1) (Int.le_refl _))) (by omega) (by decide) (by decide)) (show LcI fN_from fN_to fN_room fN_cost fN_flow_18 iN_arcs.toInt.toNat p1.toInt.toNat p2.toInt.toNat (p3.toInt - (iI (l4_x23.toInt - r18.toInt)).toInt) (iI (l5_x23.toInt + (r18.toInt * v20.toInt))).toInt from by have ev : (fN_length_16 p2.toInt.toNat).toInt = v20.toInt := (by rw [b1_v20]; rfl); have hcb := csA_bd hAr hpu1 iN_arcs.toInt.toNat (Nat.le_refl _); have hc5 := hLc.2.2.2.2; have hp4 := hpu4; rw [hs0, ev, show v20.toInt - 0 = v20.toInt from by omega] at hp4; exact LcI.more hLc hAr (by omega) hC hT hs0 hbd hpu1 hpu2 hpu3 hpu4 (by rw [iI_t (by omega) (by omega)]; omega) (by rw [ev, iI_t (by omega) (by omega)])) (show 0 ≤ (iI (l4_x23.toInt - r18.toInt)).toInt ∧ (iI (l4_x23.toInt - r18.toInt)).toInt ≤ p3.toInt ∧ (iI (l6_x23.toInt + 1)).toInt ≤ p3.toInt - (iI (l4_x23.toInt - r18.toInt)).toInt from by rw [iI_t (by omega) (by omega), iI_t (by omega) (by omega)]; omega) (by have e9 : ((iI (l6_x23.toInt + 1))).toInt = (l6_x23.toInt + 1) := (iI_t (Int.le_trans (by decide) (Int.add_le_add (b_l6_x23.1) (Int.le_refl _))) (Int.le_trans (Int.add_le_add (b_l6_x23.2) (Int.le_refl _)) (by decide))); omega) hP hD hS hl
          · have t_48 : ¬ v17.toInt < 536870912 := toI_nlt c_48 rfl (by decide : (536870912 : Int32).toInt = 536870912)
            refine lv_iconst (v := (-1)) hx hb dX2_leastCost_51 (by decide) ?_
            refine W.widen (k := 0) (n := 0) (by decide +kernel) (by decide +kernel) ?_
            exact W.iret (v := (-1)) hx hb hr (fun t9_ ht hW => ⟨⟨((-1) : Int32), (fN_before_16, fN_flow_x23, fN_length_16), rfl, ⟨b_fN_before_16, (by (try dsimp only); rw [show iN_arcs.toInt = ((iN_arcs.toInt.toNat : Nat) : Int) from by omega]; exact hLc.none hAr hC hs0 hbd (by omega) (by show (fN_length_16 p2.toInt.toNat).toInt ≥ 536870912; rw [show fN_length_16 p2.toInt.toNat = v17 from b1_v17.symm]; omega) (by omega) (by omega) (by decide))⟩, by rw [ht]; exact hP, hD⟩, hS.F ht⟩) hS.2.2 dX2_leastCost_52
  · have t_1 : ¬ p3.toInt ≥ 0 := toI_nge c_1 rfl (by decide : (0 : Int32).toInt = 0)
    refine lv_iconst (v := (-1)) hx hb dX2_leastCost_4 (by decide) ?_
    refine W.widen (k := 0) (n := 0) (by decide +kernel) (by decide +kernel) ?_
    exact W.iret (v := (-1)) hx hb hr (fun t9_ ht hW => ⟨⟨((-1) : Int32), (fN_before, fN_flow, fN_length), rfl, ⟨b_fN_before, (by (try dsimp only); rw [show iN_arcs.toInt = ((iN_arcs.toInt.toNat : Nat) : Int) from by omega]; exact Or.inl ⟨by omega, by decide⟩)⟩, by rw [ht]; exact hP, hD⟩, hS.F ht⟩) hS.2.2 dX2_leastCost_5
theorem dX2_measureBack_0 : decode cX2_measureBack 0 = .ok (.aload_n 0, 1) := dk_42 (by decide +kernel)
theorem dX2_measureBack_1 : decode cX2_measureBack 1 = .ok (.getfield 33, 3) := dk_180 (by decide +kernel)
theorem dX2_measureBack_4 : decode cX2_measureBack 4 = .ok (.ldc 60, 2) := dk_18 (by decide +kernel)
theorem dX2_measureBack_6 : decode cX2_measureBack 6 = .ok (.invokestatic 49, 3) := dk_184 (by decide +kernel)
theorem dX2_measureBack_9 : decode cX2_measureBack 9 = .ok (.aload_n 0, 1) := dk_42 (by decide +kernel)
theorem dX2_measureBack_10 : decode cX2_measureBack 10 = .ok (.getfield 33, 3) := dk_180 (by decide +kernel)
theorem dX2_measureBack_13 : decode cX2_measureBack 13 = .ok (.iload_n 1, 1) := dk_27 (by decide +kernel)
theorem dX2_measureBack_14 : decode cX2_measureBack 14 = .ok (.iconst 0, 1) := dk_3 (by decide +kernel)
theorem dX2_measureBack_15 : decode cX2_measureBack 15 = .ok (.iastore, 1) := dk_79 (by decide +kernel)
theorem dX2_measureBack_16 : decode cX2_measureBack 16 = .ok (.iconst 1, 1) := dk_4 (by decide +kernel)
theorem dX2_measureBack_17 : decode cX2_measureBack 17 = .ok (.istore_n 2, 1) := dk_61 (by decide +kernel)
theorem dX2_measureBack_18 : decode cX2_measureBack 18 = .ok (.iconst 0, 1) := dk_3 (by decide +kernel)
theorem dX2_measureBack_19 : decode cX2_measureBack 19 = .ok (.istore_n 3, 1) := dk_62 (by decide +kernel)
theorem dX2_measureBack_20 : decode cX2_measureBack 20 = .ok (.iload_n 3, 1) := dk_29 (by decide +kernel)
theorem dX2_measureBack_21 : decode cX2_measureBack 21 = .ok (.bipush 12, 2) := dk_16 (by decide +kernel)
theorem dX2_measureBack_23 : decode cX2_measureBack 23 = .ok (.if_icmp .ge 110, 3) := dk_162 (by decide +kernel)
theorem dX2_measureBack_26 : decode cX2_measureBack 26 = .ok (.iload_n 2, 1) := dk_28 (by decide +kernel)
theorem dX2_measureBack_27 : decode cX2_measureBack 27 = .ok (.ifCond .eq 106, 3) := dk_153 (by decide +kernel)
theorem dX2_measureBack_30 : decode cX2_measureBack 30 = .ok (.iconst 0, 1) := dk_3 (by decide +kernel)
theorem dX2_measureBack_31 : decode cX2_measureBack 31 = .ok (.istore_n 2, 1) := dk_61 (by decide +kernel)
theorem dX2_measureBack_32 : decode cX2_measureBack 32 = .ok (.iconst 0, 1) := dk_3 (by decide +kernel)
theorem dX2_measureBack_33 : decode cX2_measureBack 33 = .ok (.istore 4, 2) := dk_54 (by decide +kernel)
theorem dX2_measureBack_35 : decode cX2_measureBack 35 = .ok (.iload 4, 2) := dk_21 (by decide +kernel)
theorem dX2_measureBack_37 : decode cX2_measureBack 37 = .ok (.aload_n 0, 1) := dk_42 (by decide +kernel)
theorem dX2_measureBack_38 : decode cX2_measureBack 38 = .ok (.getfield 45, 3) := dk_180 (by decide +kernel)
theorem dX2_measureBack_41 : decode cX2_measureBack 41 = .ok (.if_icmp .ge 86, 3) := dk_162 (by decide +kernel)
theorem dX2_measureBack_44 : decode cX2_measureBack 44 = .ok (.aload_n 0, 1) := dk_42 (by decide +kernel)
theorem dX2_measureBack_45 : decode cX2_measureBack 45 = .ok (.getfield 33, 3) := dk_180 (by decide +kernel)
theorem dX2_measureBack_48 : decode cX2_measureBack 48 = .ok (.aload_n 0, 1) := dk_42 (by decide +kernel)
theorem dX2_measureBack_49 : decode cX2_measureBack 49 = .ok (.getfield 15, 3) := dk_180 (by decide +kernel)
theorem dX2_measureBack_52 : decode cX2_measureBack 52 = .ok (.iload 4, 2) := dk_21 (by decide +kernel)
theorem dX2_measureBack_54 : decode cX2_measureBack 54 = .ok (.iaload, 1) := dk_46 (by decide +kernel)
theorem dX2_measureBack_55 : decode cX2_measureBack 55 = .ok (.iaload, 1) := dk_46 (by decide +kernel)
theorem dX2_measureBack_56 : decode cX2_measureBack 56 = .ok (.aload_n 0, 1) := dk_42 (by decide +kernel)
theorem dX2_measureBack_57 : decode cX2_measureBack 57 = .ok (.getfield 21, 3) := dk_180 (by decide +kernel)
theorem dX2_measureBack_60 : decode cX2_measureBack 60 = .ok (.iload 4, 2) := dk_21 (by decide +kernel)
theorem dX2_measureBack_62 : decode cX2_measureBack 62 = .ok (.iaload, 1) := dk_46 (by decide +kernel)
theorem dX2_measureBack_63 : decode cX2_measureBack 63 = .ok (.bipush 16, 2) := dk_16 (by decide +kernel)
theorem dX2_measureBack_65 : decode cX2_measureBack 65 = .ok (.imul, 1) := dk_104 (by decide +kernel)
theorem dX2_measureBack_66 : decode cX2_measureBack 66 = .ok (.iadd, 1) := dk_96 (by decide +kernel)
theorem dX2_measureBack_67 : decode cX2_measureBack 67 = .ok (.iconst 1, 1) := dk_4 (by decide +kernel)
theorem dX2_measureBack_68 : decode cX2_measureBack 68 = .ok (.iadd, 1) := dk_96 (by decide +kernel)
theorem dX2_measureBack_69 : decode cX2_measureBack 69 = .ok (.istore 5, 2) := dk_54 (by decide +kernel)
theorem dX2_measureBack_71 : decode cX2_measureBack 71 = .ok (.aload_n 0, 1) := dk_42 (by decide +kernel)
theorem dX2_measureBack_72 : decode cX2_measureBack 72 = .ok (.getfield 33, 3) := dk_180 (by decide +kernel)
theorem dX2_measureBack_75 : decode cX2_measureBack 75 = .ok (.aload_n 0, 1) := dk_42 (by decide +kernel)
theorem dX2_measureBack_76 : decode cX2_measureBack 76 = .ok (.getfield 15, 3) := dk_180 (by decide +kernel)
theorem dX2_measureBack_79 : decode cX2_measureBack 79 = .ok (.iload 4, 2) := dk_21 (by decide +kernel)
theorem dX2_measureBack_81 : decode cX2_measureBack 81 = .ok (.iaload, 1) := dk_46 (by decide +kernel)
theorem dX2_measureBack_82 : decode cX2_measureBack 82 = .ok (.iaload, 1) := dk_46 (by decide +kernel)
theorem dX2_measureBack_83 : decode cX2_measureBack 83 = .ok (.ldc 60, 2) := dk_18 (by decide +kernel)
theorem dX2_measureBack_85 : decode cX2_measureBack 85 = .ok (.if_icmp .ge 36, 3) := dk_162 (by decide +kernel)
theorem dX2_measureBack_88 : decode cX2_measureBack 88 = .ok (.iload 5, 2) := dk_21 (by decide +kernel)
theorem dX2_measureBack_90 : decode cX2_measureBack 90 = .ok (.aload_n 0, 1) := dk_42 (by decide +kernel)
theorem dX2_measureBack_91 : decode cX2_measureBack 91 = .ok (.getfield 33, 3) := dk_180 (by decide +kernel)
theorem dX2_measureBack_94 : decode cX2_measureBack 94 = .ok (.aload_n 0, 1) := dk_42 (by decide +kernel)
theorem dX2_measureBack_95 : decode cX2_measureBack 95 = .ok (.getfield 11, 3) := dk_180 (by decide +kernel)
theorem dX2_measureBack_98 : decode cX2_measureBack 98 = .ok (.iload 4, 2) := dk_21 (by decide +kernel)
theorem dX2_measureBack_100 : decode cX2_measureBack 100 = .ok (.iaload, 1) := dk_46 (by decide +kernel)
theorem dX2_measureBack_101 : decode cX2_measureBack 101 = .ok (.iaload, 1) := dk_46 (by decide +kernel)
theorem dX2_measureBack_102 : decode cX2_measureBack 102 = .ok (.if_icmp .ge 19, 3) := dk_162 (by decide +kernel)
theorem dX2_measureBack_105 : decode cX2_measureBack 105 = .ok (.aload_n 0, 1) := dk_42 (by decide +kernel)
theorem dX2_measureBack_106 : decode cX2_measureBack 106 = .ok (.getfield 33, 3) := dk_180 (by decide +kernel)
theorem dX2_measureBack_109 : decode cX2_measureBack 109 = .ok (.aload_n 0, 1) := dk_42 (by decide +kernel)
theorem dX2_measureBack_110 : decode cX2_measureBack 110 = .ok (.getfield 11, 3) := dk_180 (by decide +kernel)
theorem dX2_measureBack_113 : decode cX2_measureBack 113 = .ok (.iload 4, 2) := dk_21 (by decide +kernel)
theorem dX2_measureBack_115 : decode cX2_measureBack 115 = .ok (.iaload, 1) := dk_46 (by decide +kernel)
theorem dX2_measureBack_116 : decode cX2_measureBack 116 = .ok (.iload 5, 2) := dk_21 (by decide +kernel)
theorem dX2_measureBack_118 : decode cX2_measureBack 118 = .ok (.iastore, 1) := dk_79 (by decide +kernel)
theorem dX2_measureBack_119 : decode cX2_measureBack 119 = .ok (.iconst 1, 1) := dk_4 (by decide +kernel)
theorem dX2_measureBack_120 : decode cX2_measureBack 120 = .ok (.istore_n 2, 1) := dk_61 (by decide +kernel)
theorem dX2_measureBack_121 : decode cX2_measureBack 121 = .ok (.iinc 4 1, 3) := dk_132 (by decide +kernel)
theorem dX2_measureBack_124 : decode cX2_measureBack 124 = .ok (.goto (-89), 3) := dk_167 (by decide +kernel)
theorem dX2_measureBack_127 : decode cX2_measureBack 127 = .ok (.iinc 3 1, 3) := dk_132 (by decide +kernel)
theorem dX2_measureBack_130 : decode cX2_measureBack 130 = .ok (.goto (-110), 3) := dk_167 (by decide +kernel)
theorem dX2_measureBack_133 : decode cX2_measureBack 133 = .ok (.return_, 1) := dk_177 (by decide +kernel)
def wsMX2_measureBack : List Cond := .code yX2_measureBack cX2_measureBack 6 none :: ([.fieldLink RX2 33 "OptimaWorks$NetDesk" "length" "[I", .constant RX2 60 536870912, .fieldLink RX2 45 "OptimaWorks$NetDesk" "arcs" "I", .fieldLink RX2 15 "OptimaWorks$NetDesk" "to" "[I", .fieldLink RX2 21 "OptimaWorks$NetDesk" "cost" "[I", .fieldLink RX2 11 "OptimaWorks$NetDesk" "from" "[I"] ++ wsX20 ++ (va_wsS RX2 49 yJ7_fill_53178 wsMJ7_fill_53178))
theorem iwsMX2_measureBack_in2 : ∀ w ∈ wsX20, w ∈ wsMX2_measureBack := fun _ h => List.mem_cons_of_mem _ (List.mem_append_left _ (List.mem_append_right _ h))
theorem gwsMX2_measureBack_0 : GoodIn wsMX2_measureBack (va_wsS RX2 49 yJ7_fill_53178 wsMJ7_fill_53178) := goodIn_sub (fun _ h => List.mem_cons_of_mem _ (List.mem_append_right _ h)) (gdS (by decide +kernel) gdwsMJ7_fill_53178)
theorem gdwsMX2_measureBack : wsMX2_measureBack.all goodWord = true := gdC rfl (gdA (gdA (by decide +kernel : ([.fieldLink RX2 33 "OptimaWorks$NetDesk" "length" "[I", .constant RX2 60 536870912, .fieldLink RX2 45 "OptimaWorks$NetDesk" "arcs" "I", .fieldLink RX2 15 "OptimaWorks$NetDesk" "to" "[I", .fieldLink RX2 21 "OptimaWorks$NetDesk" "cost" "[I", .fieldLink RX2 11 "OptimaWorks$NetDesk" "from" "[I"] : List Cond).all goodWord = true) gdwsX20) (gdS (by decide +kernel) gdwsMJ7_fill_53178))
theorem hm_m_X2_measureBack_0 : (.fieldLink RX2 33 "OptimaWorks$NetDesk" "length" "[I" : Cond) ∈ wsMX2_measureBack := by decide +kernel
theorem hm_m_X2_measureBack_1 : (.constant RX2 60 536870912 : Cond) ∈ wsMX2_measureBack := by decide +kernel
theorem hm_m_X2_measureBack_2 : (.fieldLink RX2 15 "OptimaWorks$NetDesk" "to" "[I" : Cond) ∈ wsMX2_measureBack := by decide +kernel
theorem hm_m_X2_measureBack_3 : (.fieldLink RX2 11 "OptimaWorks$NetDesk" "from" "[I" : Cond) ∈ wsMX2_measureBack := by decide +kernel
set_option maxHeartbeats 4000000 in
set_option maxRecDepth 100000 in
/-- lengths to a node -/
theorem m_X2_measureBack (l : Launch) (dC : Nat → ClassId) (dI : Nat → Nat → Nat) (hN : Nat → Nat) (aN : Nat → Nat) (kN : Nat → ClassId) (iN_arcs : Int32) (fN_from : Nat → Int32) (fN_to : Nat → Int32) (fN_room : Nat → Int32) (fN_cost : Nat → Int32) (iN_reached : Int32) (fN_free : Nat → Int32) (fN_before : Nat → Int32) (fN_flow : Nat → Int32) (fN_length : Nat → Int32) (fN_stop : Nat → Int32) (iN_stops : Int32) (fN_price : Nat → Int32) (fN_rest : Nat → Int32) (p1 : Int32) (b_iN_arcs : 0 ≤ iN_arcs.toInt ∧ iN_arcs.toInt ≤ 40) (b_fN_from : ∀ q : Nat, 0 ≤ (fN_from q).toInt ∧ (fN_from q).toInt ≤ 11) (b_fN_to : ∀ q : Nat, 0 ≤ (fN_to q).toInt ∧ (fN_to q).toInt ≤ 11) (b_fN_before : ∀ q : Nat, 0 ≤ (fN_before q).toInt ∧ (fN_before q).toInt ≤ 79) (b_fN_stop : ∀ q : Nat, 0 ≤ (fN_stop q).toInt ∧ (fN_stop q).toInt ≤ 11) (b_iN_stops : 0 ≤ iN_stops.toInt ∧ iN_stops.toInt ≤ 8) (b_p1 : 0 ≤ p1.toInt ∧ p1.toInt ≤ 11) (hVal : tVal (iN_arcs.toInt, fN_from, fN_to, fN_room, fN_cost)) (sz : Nat) : Met l yX2_measureBack wsMX2_measureBack ({ frames := 1, cells := 0, slots := 0, locals := 23 }) (va_Pc [.ref (hN 0), .int p1] (fun U => U.heap.size = sz ∧ va_P (dC, dI) vwCl (WN hN aN kN iN_arcs fN_from fN_to fN_room fN_cost iN_reached fN_free fN_before fN_flow fN_length fN_stop iN_stops fN_price fN_rest) U.heap ∧ va_K (dC, dI) vwCl (tN kN) U ∧ va_D (fun _ => True) (WN hN aN kN iN_arcs fN_from fN_to fN_room fN_cost iN_reached fN_free fN_before fN_flow fN_length fN_stop iN_stops fN_price fN_rest))) (va_Qv (fun (u : Nat → Int32) => (pDis (iN_arcs.toInt, fN_from, fN_to, fN_room, fN_cost) (w16 (iN_arcs.toInt, fN_from, fN_to, fN_room, fN_cost)) p1.toInt.toNat (fun n => (u n).toInt))) (fun (u : Nat → Int32) t => va_P (dC, dI) vwCl (WN hN aN kN iN_arcs fN_from fN_to fN_room fN_cost iN_reached fN_free fN_before fN_flow u fN_stop iN_stops fN_price fN_rest) t.heap ∧ va_D (va_A (WN hN aN kN iN_arcs fN_from fN_to fN_room fN_cost iN_reached fN_free fN_before fN_flow fN_length fN_stop iN_stops fN_price fN_rest) sz) (WN hN aN kN iN_arcs fN_from fN_to fN_room fN_cost iN_reached fN_free fN_before fN_flow u fN_stop iN_stops fN_price fN_rest)) (va_A (WN hN aN kN iN_arcs fN_from fN_to fN_room fN_cost iN_reached fN_free fN_before fN_flow fN_length fN_stop iN_stops fN_price fN_rest) sz)) 0 0 (va_A (WN hN aN kN iN_arcs fN_from fN_to fN_room fN_cost iN_reached fN_free fN_before fN_flow fN_length fN_stop iN_stops fN_price fN_rest) sz) := by
  refine Met.ofW (cc := cX2_measureBack) (maxL := 6) (ret := none) (by decide) rfl ?_
  intro p e s m args below meth c s₁ B hml hv
  obtain ⟨rfl, hsz, hP, hK, hD0⟩ := hv
  have hx := B.exec
  have hb := B.bytes
  have hr := B.returns
  have hts := atoms_spec (ws := wsMX2_measureBack) B.pre
  have hown : s.vm.findClass RX2 = some m.cls := findClass_of_methodNamed B.named
  have hlocks := B.notSynchronized
  subst hsz
  have hD := hD0.self (sz := s.heap.size)
  generalize hAe : va_A (WN hN aN kN iN_arcs fN_from fN_to fN_room fN_cost iN_reached fN_free fN_before fN_flow fN_length fN_stop iN_stops fN_price fN_rest) s.heap.size = A at hD ⊢
  have hA : ∀ q : Nat, s.heap.size ≤ q → A q := fun q h => by rw [← hAe]; exact Or.inr h
  have hS : va_S A s.heap s.heap [] := va_S.rf
  have hl := lv_entry ([.ref (hN 0), .int p1]) (n := 6) (Nat.le_of_ble_eq_true rfl)
  rw [lg_entry_eq]
  generalize (lg_sl ([.ref (hN 0), .int p1]) ++ List.replicate (6 - (lg_sl ([.ref (hN 0), .int p1])).length) Slot.unset).toArray = ls at hl ⊢
  have hl : lv_has ls 6 [(0, .ref (hN 0)), (1, .int p1)] := hl
  refine lv_aload_n hx hb dX2_measureBack_0 rfl (lv_at hl 0 rfl) ?_
  refine va_get (D := (dC, dI)) (ci := 2) (v := .ref (aN 7)) (C := RX2) (T := TX2) (N := 14) hx hb hts iwsMX2_measureBack_in2 hown hK hP 0 rfl rfl 9 (by decide) (hts _ hm_m_X2_measureBack_0) (fun _ h9 => h9) rfl dX2_measureBack_1 ?_
  refine lv_ldc (v := 536870912) hx hb hown (hts _ hm_m_X2_measureBack_1) dX2_measureBack_4 ?_
  have hPc : va_P (dC, dI) vwCl (WY (fun _ => 0) (fun _ => aN 7) (fun _ => kN 7) 12 fN_length) _ := hP.sub [8] rfl
  have hDc : va_D _ (WY (fun _ => 0) (fun _ => aN 7) (fun _ => kN 7) 12 fN_length) := hD.sub [8] (by decide) rfl
  have hKc : va_K (dC, dI) vwCl (tY (fun _ => kN 7)) _ := hK.sub [7] rfl
  have hFc := va_free (wc := WY (fun _ => 0) (fun _ => aN 7) (fun _ => kN 7) 12 fN_length) hD hS hA [8] rfl
  refine va_callv (va_runS (As := [.ref (aN 7), .int 536870912]) (rest := []) ⟨hx, hb, hml, hown, hts⟩ (m_J7_fill_53178 l dC dI (fun _ => 0) (fun _ => aN 7) (fun _ => kN 7) 12 fN_length 536870912 (by first | assumption | exact ⟨by omega, by omega⟩) s.heap.size) (va_cwS 2 hts gwsMX2_measureBack_0 rfl rfl rfl (by decide +kernel) ⟨by decide +kernel, by decide +kernel⟩) ⟨fun a U g mk q => by obtain ⟨q0, q1, qP, qK, qD⟩ := q; exact ⟨q0, q1, qP, va_K.moved (u := U) (U := U.calling g mk a) (Vm.Alike.refl U.vm) qK, qD⟩, fun U hU9 hW => ⟨rfl, by rw [hU9], by rw [hU9]; exact hPc, va_K.moved hW.alike hKc, hDc.weaken (fun _ _ _ _ => trivial)⟩⟩ rfl rfl hl.1 rfl (lv_room (Nat.le_of_ble_eq_true rfl)) dX2_measureBack_6 (by decide +kernel)) hS (fun q _ h => hFc q h) hFc (fun fY_1 t9_ H locs ht hvm hw9 hB9 hz1 hk1 hS => ?_)
  have f1_0 := hw9
  try dsimp only at f1_0
  obtain ⟨hP, hD⟩ := va_join (wr := [(hN 0, .inr (2, [.int iN_arcs, .ref (aN 0), .ref (aN 1), .ref (aN 2), .ref (aN 3), .int iN_reached, .ref (aN 4), .ref (aN 5), .ref (aN 6), .ref (aN 7), .ref (aN 8), .int iN_stops, .ref (aN 9), .ref (aN 10)])), (aN 0, .inl (kN 0, 40, .inl fN_from)), (aN 1, .inl (kN 1, 40, .inl fN_to)), (aN 2, .inl (kN 2, 40, .inl fN_room)), (aN 3, .inl (kN 3, 40, .inl fN_cost)), (aN 4, .inl (kN 4, 144, .inl fN_free)), (aN 5, .inl (kN 5, 12, .inl fN_before)), (aN 6, .inl (kN 6, 40, .inl fN_flow)), (aN 8, .inl (kN 8, 8, .inl fN_stop)), (aN 9, .inl (kN 9, 64, .inl fN_price)), (aN 10, .inl (kN 10, 1024, .inl fN_rest))]) (w1 := WY (fun _ => 0) (fun _ => aN 7) (fun _ => kN 7) 12 fY_1) hP hD [8] [0, 1, 2, 3, 4, 5, 6, 7, 9, 10, 11] rfl rfl (by decide) (by decide) hk1 hFc (fz_P ht hB9.1) hB9.2
  have hP : va_P (dC, dI) vwCl (WN hN aN kN iN_arcs fN_from fN_to fN_room fN_cost iN_reached fN_free fN_before fN_flow fY_1 fN_stop iN_stops fN_price fN_rest) H := hP.sub [0, 1, 2, 3, 4, 5, 6, 7, 11, 8, 9, 10] rfl
  have hD : va_D A (WN hN aN kN iN_arcs fN_from fN_to fN_room fN_cost iN_reached fN_free fN_before fN_flow fY_1 fN_stop iN_stops fN_price fN_rest) := hD.sub [0, 1, 2, 3, 4, 5, 6, 7, 11, 8, 9, 10] (by decide) rfl
  have hfil := f1_0
  refine lv_aload_n hx hb dX2_measureBack_9 rfl (lv_at hl 0 rfl) ?_
  refine va_get (D := (dC, dI)) (ci := 2) (v := .ref (aN 7)) (C := RX2) (T := TX2) (N := 14) hx hb hts iwsMX2_measureBack_in2 hown hK hP 0 rfl rfl 9 (by decide) (hts _ hm_m_X2_measureBack_0) (fun _ h9 => h9) rfl dX2_measureBack_10 ?_
  refine lv_iload_n hx hb dX2_measureBack_13 rfl (lv_at hl 1 rfl) ?_
  refine lv_iconst (v := 0) hx hb dX2_measureBack_14 (by decide) ?_
  refine va_iast (cA := kN 7) (n := 12) (f := fY_1) hx hb hK hP hD hS 8 7 rfl rfl (vp_in_iff.mpr ⟨b_p1.1, (Int.lt_of_le_of_lt (b_p1.2) (by decide))⟩) dX2_measureBack_15 (fun H locs hP hD hS => ?_)
  obtain ⟨u2, hu2⟩ : ∃ f9, f9 = upd fY_1 (p1).toNatClampNeg (0 : Int32) := ⟨_, rfl⟩
  have hP : va_P (dC, dI) vwCl (WN hN aN kN iN_arcs fN_from fN_to fN_room fN_cost iN_reached fN_free fN_before fN_flow u2 fN_stop iN_stops fN_price fN_rest) H := by rw [hu2]; exact hP
  have hD : va_D A (WN hN aN kN iN_arcs fN_from fN_to fN_room fN_cost iN_reached fN_free fN_before fN_flow u2 fN_stop iN_stops fN_price fN_rest) := by rw [hu2]; exact hD
  have b_u2 : u2 = upd fY_1 (p1).toNatClampNeg (0 : Int32) := hu2
  clear hu2
  refine lv_iconst (v := 1) hx hb dX2_measureBack_16 (by decide) ?_
  refine lv_istore_n hx hb dX2_measureBack_17 rfl hl (by decide) rfl (fun ls (hl : lv_has ls _ ([(2, .int 1), (0, .ref (hN 0)), (1, .int p1)])) => ?_)
  refine lv_iconst (v := 0) hx hb dX2_measureBack_18 (by decide) ?_
  refine lv_istore_n hx hb dX2_measureBack_19 rfl hl (by decide) rfl (fun ls (hl : lv_has ls _ ([(3, .int 0), (2, .int 1), (0, .ref (hN 0)), (1, .int p1)])) => ?_)
  have hl : lv_has _ _ ([(3, .int 0), (2, .int 1), (0, .ref (hN 0)), (1, .int p1)]) := lv_sub hl [0, 1, 2, 3] rfl
  refine (fun (loop : ∀ (n9 : Nat) (fN_length_x20 : Nat → Int32) (l3_x20 : Int32) (l2_x20 : Int32) (H : Heap) (locs : List Loc) (ls : Array Slot), (0 ≤ l3_x20.toInt ∧ l3_x20.toInt ≤ 12) → (mHd (iN_arcs.toInt, fN_from, fN_to, fN_room, fN_cost) (w16 (iN_arcs.toInt, fN_from, fN_to, fN_room, fN_cost)) p1.toInt.toNat (fun n => (fN_length_x20 n).toInt) l3_x20.toInt l2_x20.toInt) → (12 - l3_x20.toInt < ((n9 : Nat) : Int)) → va_P (dC, dI) vwCl (WN hN aN kN iN_arcs fN_from fN_to fN_room fN_cost iN_reached fN_free fN_before fN_flow fN_length_x20 fN_stop iN_stops fN_price fN_rest) H → va_D A (WN hN aN kN iN_arcs fN_from fN_to fN_room fN_cost iN_reached fN_free fN_before fN_flow fN_length_x20 fN_stop iN_stops fN_price fN_rest) → va_S A s.heap H locs → lv_has ls 6 [(3, .int l3_x20), (2, .int l2_x20), (0, .ref (hN 0)), (1, .int p1)] → W p l e _ s m _ below meth c H locs 0 0 _ (F0 m 20 ls [])) => loop (13) u2 0 1 _ _ _ (show 0 ≤ (0 : Int32).toInt ∧ (0 : Int32).toInt ≤ 12 from by decide) (show mHd (iN_arcs.toInt, fN_from, fN_to, fN_room, fN_cost) (w16 (iN_arcs.toInt, fN_from, fN_to, fN_room, fN_cost)) p1.toInt.toNat (fun n => (u2 n).toInt) (0 : Int32).toInt (1 : Int32).toInt from mHd.start (mIni hfil b_u2) (by omega) (by decide) (by decide)) ((by have e9 : (0 : Int32).toInt = 0 := (by decide : (0 : Int32).toInt = 0); omega)) hP hD hS hl) ?_
  intro n9
  induction n9 with
  | zero => intro fN_length_x20 l3_x20 l2_x20 H locs ls b_l3_x20 hM hf9; exact False.elim (by omega)
  | succ n9 ihx20 =>
    intro fN_length_x20 l3_x20 l2_x20 H locs ls b_l3_x20 hM hfx20 hP hD hS hl
    refine lv_iload_n hx hb dX2_measureBack_20 rfl (lv_at hl 0 rfl) ?_
    refine lv_bipush (v := 12) hx hb dX2_measureBack_21 (by decide) ?_
    refine lv_icmp_ge (tgt := 133) hx hb dX2_measureBack_23 (by decide) (fun c_23 => ?_) (fun c_23 => ?_)
    · have t_23 : l3_x20.toInt ≥ 12 := toI_ge c_23 rfl (by decide : (12 : Int32).toInt = 12)
      refine W.widen (k := 0) (n := 0) (by decide +kernel) (by decide +kernel) ?_
      exact W.vret hx hb hr (fun t9_ ht hW => ⟨⟨fN_length_x20, rfl, (by (try dsimp only); exact (mHd.done hVal hM (by omega))), by rw [ht]; exact hP, hD⟩, hS.F ht⟩) hS.2.2 dX2_measureBack_133
    · have t_23 : ¬ l3_x20.toInt ≥ 12 := toI_nge c_23 rfl (by decide : (12 : Int32).toInt = 12)
      refine lv_iload_n hx hb dX2_measureBack_26 rfl (lv_at hl 1 rfl) ?_
      refine lv_if_eq (tgt := 133) hx hb dX2_measureBack_27 (by decide) (fun c_27 => ?_) (fun c_27 => ?_)
      · have t_27 : l2_x20.toInt = 0 := toI_eq c_27 rfl (by decide : (0 : Int32).toInt = 0)
        refine W.widen (k := 0) (n := 0) (by decide +kernel) (by decide +kernel) ?_
        exact W.vret hx hb hr (fun t9_ ht hW => ⟨⟨fN_length_x20, rfl, (by (try dsimp only); exact (mHd.done hVal hM (by omega))), by rw [ht]; exact hP, hD⟩, hS.F ht⟩) hS.2.2 dX2_measureBack_133
      · have t_27 : ¬ l2_x20.toInt = 0 := toI_neq c_27 rfl (by decide : (0 : Int32).toInt = 0)
        refine lv_iconst (v := 0) hx hb dX2_measureBack_30 (by decide) ?_
        refine lv_istore_n hx hb dX2_measureBack_31 rfl hl (by decide) rfl (fun ls (hl : lv_has ls _ ([(2, .int 0), (3, .int l3_x20), (0, .ref (hN 0)), (1, .int p1)])) => ?_)
        refine lv_iconst (v := 0) hx hb dX2_measureBack_32 (by decide) ?_
        refine lv_istore hx hb dX2_measureBack_33 hl (by decide) rfl (fun ls (hl : lv_has ls _ ([(4, .int 0), (2, .int 0), (3, .int l3_x20), (0, .ref (hN 0)), (1, .int p1)])) => ?_)
        have hl : lv_has _ _ ([(4, .int 0), (2, .int 0), (3, .int l3_x20), (0, .ref (hN 0)), (1, .int p1)]) := lv_sub hl [0, 1, 2, 3, 4] rfl
        refine (fun (loop : ∀ (n9 : Nat) (fN_length_x35 : Nat → Int32) (l4_x35 : Int32) (l2_x35 : Int32) (H : Heap) (locs : List Loc) (ls : Array Slot), (0 ≤ l4_x35.toInt ∧ l4_x35.toInt ≤ 40) → (mIn (iN_arcs.toInt, fN_from, fN_to, fN_room, fN_cost) (w16 (iN_arcs.toInt, fN_from, fN_to, fN_room, fN_cost)) p1.toInt.toNat (fun n => (fN_length_x35 n).toInt) (l3_x20.toInt + 1) l4_x35.toInt.toNat l2_x35.toInt) → (40 - l4_x35.toInt < ((n9 : Nat) : Int)) → va_P (dC, dI) vwCl (WN hN aN kN iN_arcs fN_from fN_to fN_room fN_cost iN_reached fN_free fN_before fN_flow fN_length_x35 fN_stop iN_stops fN_price fN_rest) H → va_D A (WN hN aN kN iN_arcs fN_from fN_to fN_room fN_cost iN_reached fN_free fN_before fN_flow fN_length_x35 fN_stop iN_stops fN_price fN_rest) → va_S A s.heap H locs → lv_has ls 6 [(4, .int l4_x35), (2, .int l2_x35), (3, .int l3_x20), (0, .ref (hN 0)), (1, .int p1)] → W p l e _ s m _ below meth c H locs 0 0 _ (F0 m 35 ls [])) => loop (41) fN_length_x20 0 0 _ _ _ (show 0 ≤ (0 : Int32).toInt ∧ (0 : Int32).toInt ≤ 40 from by decide) (show mIn (iN_arcs.toInt, fN_from, fN_to, fN_room, fN_cost) (w16 (iN_arcs.toInt, fN_from, fN_to, fN_room, fN_cost)) p1.toInt.toNat (fun n => (fN_length_x20 n).toInt) (l3_x20.toInt + 1) (0 : Int32).toInt.toNat (0 : Int32).toInt from mHd.go hM) ((by have e9 : (0 : Int32).toInt = 0 := (by decide : (0 : Int32).toInt = 0); omega)) hP hD hS hl) ?_
        intro n9
        induction n9 with
        | zero => intro fN_length_x35 l4_x35 l2_x35 H locs ls b_l4_x35 hI hf9; exact False.elim (by omega)
        | succ n9 ihx35 =>
          intro fN_length_x35 l4_x35 l2_x35 H locs ls b_l4_x35 hI hfx35 hP hD hS hl
          refine lv_iload hx hb dX2_measureBack_35 (lv_at hl 0 rfl) ?_
          refine lv_aload_n hx hb dX2_measureBack_37 rfl (lv_at hl 3 rfl) ?_
          refine va_get (D := (dC, dI)) (ci := 2) (v := .int iN_arcs) (C := RX2) (T := TX2) (N := 14) hx hb hts iwsMX2_measureBack_in2 hown hK hP 0 rfl rfl 0 (by decide) (hts (.fieldLink RX2 45 "OptimaWorks$NetDesk" "arcs" "I") (by decide +kernel)) (fun _ h9 => h9) rfl dX2_measureBack_38 ?_
          refine lv_icmp_ge (tgt := 127) hx hb dX2_measureBack_41 (by decide) (fun c_41 => ?_) (fun c_41 => ?_)
          · have t_41 : l4_x35.toInt ≥ iN_arcs.toInt := toI_ge c_41 rfl rfl
            refine lv_iinc (v := (iI (l3_x20.toInt + 1))) hx hb dX2_measureBack_127 hl (k := 2) rfl (iI_add2 (iI_of _) (by decide : (1 : Int32) = iI 1)) (by decide) rfl (fun ls (hl : lv_has ls _ ([(3, .int (iI (l3_x20.toInt + 1))), (4, .int l4_x35), (2, .int l2_x35), (0, .ref (hN 0)), (1, .int p1)])) => ?_)
            refine lv_goto (tgt := 20) hx hb dX2_measureBack_130 (by decide) ?_
            have hl : lv_has _ _ ([(3, .int (iI (l3_x20.toInt + 1))), (2, .int l2_x35), (0, .ref (hN 0)), (1, .int p1)]) := lv_sub hl [0, 2, 3, 4] rfl
            exact ihx20 fN_length_x35 (iI (l3_x20.toInt + 1)) l2_x35 _ _ _ (iI_rng (Int.le_trans (by decide) (Int.add_le_add (b_l3_x20.1) (Int.le_refl _))) (by omega) (by decide) (by decide)) (show mHd (iN_arcs.toInt, fN_from, fN_to, fN_room, fN_cost) (w16 (iN_arcs.toInt, fN_from, fN_to, fN_room, fN_cost)) p1.toInt.toNat (fun n => (fN_length_x35 n).toInt) (iI (l3_x20.toInt + 1)).toInt l2_x35.toInt from by rw [iI_t (by omega) (by omega)]; exact mIn.out hVal hI (by dsimp only; omega)) (by have e9 : ((iI (l3_x20.toInt + 1))).toInt = (l3_x20.toInt + 1) := (iI_t (Int.le_trans (by decide) (Int.add_le_add (b_l3_x20.1) (Int.le_refl _))) (Int.le_trans (Int.add_le_add (b_l3_x20.2) (Int.le_refl _)) (by decide))); omega) hP hD hS hl
          · have t_41 : ¬ l4_x35.toInt ≥ iN_arcs.toInt := toI_nge c_41 rfl rfl
            have hB9 := hI.2.1.2
            refine lv_aload_n hx hb dX2_measureBack_44 rfl (lv_at hl 3 rfl) ?_
            refine va_get (D := (dC, dI)) (ci := 2) (v := .ref (aN 7)) (C := RX2) (T := TX2) (N := 14) hx hb hts iwsMX2_measureBack_in2 hown hK hP 0 rfl rfl 9 (by decide) (hts _ hm_m_X2_measureBack_0) (fun _ h9 => h9) rfl dX2_measureBack_45 ?_
            refine lv_aload_n hx hb dX2_measureBack_48 rfl (lv_at hl 3 rfl) ?_
            refine va_get (D := (dC, dI)) (ci := 2) (v := .ref (aN 1)) (C := RX2) (T := TX2) (N := 14) hx hb hts iwsMX2_measureBack_in2 hown hK hP 0 rfl rfl 2 (by decide) (hts _ hm_m_X2_measureBack_2) (fun _ h9 => h9) rfl dX2_measureBack_49 ?_
            refine lv_iload hx hb dX2_measureBack_52 (lv_at hl 0 rfl) ?_
            refine va_iald (cA := kN 1) (n := 40) (f := fN_to) hx hb hK hP 2 1 rfl rfl (vp_in_iff.mpr ⟨b_l4_x35.1, (Int.lt_of_lt_of_le (Int.not_le.mp t_41) (Int.le_trans b_iN_arcs.2 (by decide)))⟩) dX2_measureBack_54 ?_
            refine lv_topi (fun v275 hv275 => ?_)
            have b_v275 : 0 ≤ v275.toInt ∧ v275.toInt ≤ 11 := by rw [hv275]; exact b_fN_to _
            have b1_v275 : v275 = fN_to (l4_x35).toNatClampNeg := hv275
            clear hv275
            refine va_iald (cA := kN 7) (n := 12) (f := fN_length_x35) hx hb hK hP 8 7 rfl rfl (vp_in_iff.mpr ⟨b_v275.1, (Int.lt_of_le_of_lt (b_v275.2) (by decide))⟩) dX2_measureBack_55 ?_
            refine lv_topi (fun v276 hv276 => ?_)
            have b_v276 : 0 ≤ v276.toInt ∧ v276.toInt ≤ 536870912 := by rw [hv276]; exact hB9 _ (show (v275).toNatClampNeg < 12 from by have h9 : (v275).toNatClampNeg = v275.toInt.toNat := rfl; omega)
            have b1_v276 : v276 = fN_length_x35 (v275).toNatClampNeg := hv276
            clear hv276
            refine lv_aload_n hx hb dX2_measureBack_56 rfl (lv_at hl 3 rfl) ?_
            refine va_get (D := (dC, dI)) (ci := 2) (v := .ref (aN 3)) (C := RX2) (T := TX2) (N := 14) hx hb hts iwsMX2_measureBack_in2 hown hK hP 0 rfl rfl 4 (by decide) (hts (.fieldLink RX2 21 "OptimaWorks$NetDesk" "cost" "[I") (by decide +kernel)) (fun _ h9 => h9) rfl dX2_measureBack_57 ?_
            refine lv_iload hx hb dX2_measureBack_60 (lv_at hl 0 rfl) ?_
            refine va_iald (cA := kN 3) (n := 40) (f := fN_cost) hx hb hK hP 4 3 rfl rfl (vp_in_iff.mpr ⟨b_l4_x35.1, (Int.lt_of_lt_of_le (Int.not_le.mp t_41) (Int.le_trans b_iN_arcs.2 (by decide)))⟩) dX2_measureBack_62 ?_
            refine lv_topi (fun v277 hv277 => ?_)
            have b_v277 : 0 ≤ v277.toInt ∧ v277.toInt ≤ 1000 := by rw [hv277]; exact (hVal l4_x35.toInt.toNat (by dsimp only; omega)).2.2
            have b1_v277 : v277 = fN_cost (l4_x35).toNatClampNeg := hv277
            clear hv277
            refine lv_bipush (v := 16) hx hb dX2_measureBack_63 (by decide) ?_
            refine lv_imul hx hb dX2_measureBack_65 ?_
            refine lv_topi (fun y278 hy278 => ?_)
            obtain rfl : (iI (v277.toInt * 16)) = y278 := (hy278.trans (iI_mul2 (iI_of _) (by decide : (16 : Int32) = iI 16))).symm
            refine lv_iadd hx hb dX2_measureBack_66 ?_
            refine lv_topi (fun y279 hy279 => ?_)
            obtain rfl : (iI (v276.toInt + (v277.toInt * 16))) = y279 := (hy279.trans (iI_add2 (iI_of _) rfl)).symm
            refine lv_iconst (v := 1) hx hb dX2_measureBack_67 (by decide) ?_
            refine lv_iadd hx hb dX2_measureBack_68 ?_
            refine lv_topi (fun y280 hy280 => ?_)
            obtain rfl : (iI ((v276.toInt + (v277.toInt * 16)) + 1)) = y280 := (hy280.trans (iI_add2 rfl (by decide : (1 : Int32) = iI 1))).symm
            refine lv_istore hx hb dX2_measureBack_69 hl (by decide) rfl (fun ls (hl : lv_has ls _ ([(5, .int (iI ((v276.toInt + (v277.toInt * 16)) + 1))), (4, .int l4_x35), (2, .int l2_x35), (3, .int l3_x20), (0, .ref (hN 0)), (1, .int p1)])) => ?_)
            refine lv_aload_n hx hb dX2_measureBack_71 rfl (lv_at hl 4 rfl) ?_
            refine va_get (D := (dC, dI)) (ci := 2) (v := .ref (aN 7)) (C := RX2) (T := TX2) (N := 14) hx hb hts iwsMX2_measureBack_in2 hown hK hP 0 rfl rfl 9 (by decide) (hts _ hm_m_X2_measureBack_0) (fun _ h9 => h9) rfl dX2_measureBack_72 ?_
            refine lv_aload_n hx hb dX2_measureBack_75 rfl (lv_at hl 4 rfl) ?_
            refine va_get (D := (dC, dI)) (ci := 2) (v := .ref (aN 1)) (C := RX2) (T := TX2) (N := 14) hx hb hts iwsMX2_measureBack_in2 hown hK hP 0 rfl rfl 2 (by decide) (hts _ hm_m_X2_measureBack_2) (fun _ h9 => h9) rfl dX2_measureBack_76 ?_
            refine lv_iload hx hb dX2_measureBack_79 (lv_at hl 1 rfl) ?_
            refine va_iald (cA := kN 1) (n := 40) (f := fN_to) hx hb hK hP 2 1 rfl rfl (vp_in_iff.mpr ⟨b_l4_x35.1, (Int.lt_of_lt_of_le (Int.not_le.mp t_41) (Int.le_trans b_iN_arcs.2 (by decide)))⟩) dX2_measureBack_81 ?_
            refine lv_topi (fun v281 hv281 => ?_)
            have b_v281 : 0 ≤ v281.toInt ∧ v281.toInt ≤ 11 := by rw [hv281]; exact b_fN_to _
            have b1_v281 : v281 = fN_to (l4_x35).toNatClampNeg := hv281
            clear hv281
            refine va_iald (cA := kN 7) (n := 12) (f := fN_length_x35) hx hb hK hP 8 7 rfl rfl (vp_in_iff.mpr ⟨b_v281.1, (Int.lt_of_le_of_lt (b_v281.2) (by decide))⟩) dX2_measureBack_82 ?_
            refine lv_topi (fun v282 hv282 => ?_)
            have b_v282 : 0 ≤ v282.toInt ∧ v282.toInt ≤ 536870912 := by rw [hv282]; exact hB9 _ (show (v281).toNatClampNeg < 12 from by have h9 : (v281).toNatClampNeg = v281.toInt.toNat := rfl; omega)
            have b1_v282 : v282 = fN_length_x35 (v281).toNatClampNeg := hv282
            clear hv282
            refine lv_ldc (v := 536870912) hx hb hown (hts _ hm_m_X2_measureBack_1) dX2_measureBack_83 ?_
            refine W.cut (pc := 121) (fun H locs ls stk => ∃ (fN_length_j36 : Nat → Int32) (l2_j36 : Int32), (mIn (iN_arcs.toInt, fN_from, fN_to, fN_room, fN_cost) (w16 (iN_arcs.toInt, fN_from, fN_to, fN_room, fN_cost)) p1.toInt.toNat (fun n => (fN_length_j36 n).toInt) (l3_x20.toInt + 1) (l4_x35.toInt.toNat + 1) l2_j36.toInt) ∧  stk = [] ∧ va_P (dC, dI) vwCl (WN hN aN kN iN_arcs fN_from fN_to fN_room fN_cost iN_reached fN_free fN_before fN_flow fN_length_j36 fN_stop iN_stops fN_price fN_rest) H ∧ va_D A (WN hN aN kN iN_arcs fN_from fN_to fN_room fN_cost iN_reached fN_free fN_before fN_flow fN_length_j36 fN_stop iN_stops fN_price fN_rest) ∧ va_S A s.heap H locs ∧ lv_has ls 6 [(5, .int (iI ((v276.toInt + (v277.toInt * 16)) + 1))), (4, .int l4_x35), (2, .int l2_j36), (3, .int l3_x20), (0, .ref (hN 0)), (1, .int p1)]) (fun join36 => ?_) ?_
            · refine lv_icmp_ge (tgt := 121) hx hb dX2_measureBack_85 (by decide) (fun c_85 => ?_) (fun c_85 => ?_)
              · have t_85 : v282.toInt ≥ 536870912 := toI_ge c_85 rfl (by decide : (536870912 : Int32).toInt = 536870912)
                have hl : lv_has _ _ ([(5, .int (iI ((v276.toInt + (v277.toInt * 16)) + 1))), (4, .int l4_x35), (2, .int l2_x35), (3, .int l3_x20), (0, .ref (hN 0)), (1, .int p1)]) := lv_sub hl [0, 1, 2, 3, 4, 5] rfl
                exact join36 _ _ _ _ ⟨fN_length_x35, l2_x35, (show mIn (iN_arcs.toInt, fN_from, fN_to, fN_room, fN_cost) (w16 (iN_arcs.toInt, fN_from, fN_to, fN_room, fN_cost)) p1.toInt.toNat (fun n => (fN_length_x35 n).toInt) (l3_x20.toInt + 1) (l4_x35.toInt.toNat + 1) l2_x35.toInt from by first | (have exT : (fN_length_x35 (tTo (iN_arcs.toInt, fN_from, fN_to, fN_room, fN_cost) l4_x35.toInt.toNat)).toInt = v282.toInt := (by rw [b1_v282, b1_v281]; rfl); exact mIn.skip hI (Or.inl (by show ¬ (fN_length_x35 (tTo (iN_arcs.toInt, fN_from, fN_to, fN_room, fN_cost) l4_x35.toInt.toNat)).toInt < 536870912; rw [exT]; omega))) | (have exT : (fN_length_x35 (tTo (iN_arcs.toInt, fN_from, fN_to, fN_room, fN_cost) l4_x35.toInt.toNat)).toInt = v282.toInt := (by rw [b1_v282, b1_v281]; rfl); have exF : (fN_length_x35 (tFr (iN_arcs.toInt, fN_from, fN_to, fN_room, fN_cost) l4_x35.toInt.toNat)).toInt = v284.toInt := (by rw [b1_v284, b1_v283]; rfl); have exT0 : (fN_length_x35 (tTo (iN_arcs.toInt, fN_from, fN_to, fN_room, fN_cost) l4_x35.toInt.toNat)).toInt = v276.toInt := (by rw [b1_v276, b1_v275]; rfl); have exT1 := exT.symm.trans exT0; have exC : tCo (iN_arcs.toInt, fN_from, fN_to, fN_room, fN_cost) l4_x35.toInt.toNat = v277.toInt := (by rw [b1_v277]; rfl); exact mIn.skip hI (Or.inr (by show (fN_length_x35 (tFr (iN_arcs.toInt, fN_from, fN_to, fN_room, fN_cost) l4_x35.toInt.toNat)).toInt ≤ (fN_length_x35 (tTo (iN_arcs.toInt, fN_from, fN_to, fN_room, fN_cost) l4_x35.toInt.toNat)).toInt + (16 * tCo (iN_arcs.toInt, fN_from, fN_to, fN_room, fN_cost) l4_x35.toInt.toNat + 1); rw [exT, exF, exC]; omega)))), rfl, hP, hD, hS, hl⟩
              · have t_85 : ¬ v282.toInt ≥ 536870912 := toI_nge c_85 rfl (by decide : (536870912 : Int32).toInt = 536870912)
                refine lv_iload hx hb dX2_measureBack_88 (lv_at hl 0 rfl) ?_
                refine lv_aload_n hx hb dX2_measureBack_90 rfl (lv_at hl 4 rfl) ?_
                refine va_get (D := (dC, dI)) (ci := 2) (v := .ref (aN 7)) (C := RX2) (T := TX2) (N := 14) hx hb hts iwsMX2_measureBack_in2 hown hK hP 0 rfl rfl 9 (by decide) (hts _ hm_m_X2_measureBack_0) (fun _ h9 => h9) rfl dX2_measureBack_91 ?_
                refine lv_aload_n hx hb dX2_measureBack_94 rfl (lv_at hl 4 rfl) ?_
                refine va_get (D := (dC, dI)) (ci := 2) (v := .ref (aN 0)) (C := RX2) (T := TX2) (N := 14) hx hb hts iwsMX2_measureBack_in2 hown hK hP 0 rfl rfl 1 (by decide) (hts _ hm_m_X2_measureBack_3) (fun _ h9 => h9) rfl dX2_measureBack_95 ?_
                refine lv_iload hx hb dX2_measureBack_98 (lv_at hl 1 rfl) ?_
                refine va_iald (cA := kN 0) (n := 40) (f := fN_from) hx hb hK hP 1 0 rfl rfl (vp_in_iff.mpr ⟨b_l4_x35.1, (by omega)⟩) dX2_measureBack_100 ?_
                refine lv_topi (fun v287 hv287 => ?_)
                have b_v287 : 0 ≤ v287.toInt ∧ v287.toInt ≤ 11 := by rw [hv287]; exact b_fN_from _
                have b1_v287 : v287 = fN_from (l4_x35).toNatClampNeg := hv287
                clear hv287
                refine va_iald (cA := kN 7) (n := 12) (f := fN_length_x35) hx hb hK hP 8 7 rfl rfl (vp_in_iff.mpr ⟨b_v287.1, (Int.lt_of_le_of_lt (b_v287.2) (by decide))⟩) dX2_measureBack_101 ?_
                refine lv_topi (fun v288 hv288 => ?_)
                have b_v288 : 0 ≤ v288.toInt ∧ v288.toInt ≤ 536870912 := by rw [hv288]; exact hB9 _ (show (v287).toNatClampNeg < 12 from by have h9 : (v287).toNatClampNeg = v287.toInt.toNat := rfl; omega)
                have b1_v288 : v288 = fN_length_x35 (v287).toNatClampNeg := hv288
                clear hv288
                refine lv_icmp_ge (tgt := 121) hx hb dX2_measureBack_102 (by decide) (fun c_102 => ?_) (fun c_102 => ?_)
                · have t_102 : ((v276.toInt + (v277.toInt * 16)) + 1) ≥ v288.toInt := toI_ge c_102 (iI_t (Int.le_trans (by decide) (Int.add_le_add (Int.add_le_add (b_v276.1) (Int.mul_le_mul_of_nonneg_right (b_v277.1) (by decide))) (Int.le_refl _))) (Int.le_trans (Int.add_le_add (Int.add_le_add (b_v276.2) (Int.mul_le_mul_of_nonneg_right (b_v277.2) (by decide))) (Int.le_refl _)) (by decide))) rfl
                  have hl : lv_has _ _ ([(5, .int (iI ((v276.toInt + (v277.toInt * 16)) + 1))), (4, .int l4_x35), (2, .int l2_x35), (3, .int l3_x20), (0, .ref (hN 0)), (1, .int p1)]) := lv_sub hl [0, 1, 2, 3, 4, 5] rfl
                  exact join36 _ _ _ _ ⟨fN_length_x35, l2_x35, (show mIn (iN_arcs.toInt, fN_from, fN_to, fN_room, fN_cost) (w16 (iN_arcs.toInt, fN_from, fN_to, fN_room, fN_cost)) p1.toInt.toNat (fun n => (fN_length_x35 n).toInt) (l3_x20.toInt + 1) (l4_x35.toInt.toNat + 1) l2_x35.toInt from by first | (have exT : (fN_length_x35 (tTo (iN_arcs.toInt, fN_from, fN_to, fN_room, fN_cost) l4_x35.toInt.toNat)).toInt = v282.toInt := (by rw [b1_v282, b1_v281]; rfl); exact mIn.skip hI (Or.inl (by show ¬ (fN_length_x35 (tTo (iN_arcs.toInt, fN_from, fN_to, fN_room, fN_cost) l4_x35.toInt.toNat)).toInt < 536870912; rw [exT]; omega))) | (have exT : (fN_length_x35 (tTo (iN_arcs.toInt, fN_from, fN_to, fN_room, fN_cost) l4_x35.toInt.toNat)).toInt = v282.toInt := (by rw [b1_v282, b1_v281]; rfl); have exF : (fN_length_x35 (tFr (iN_arcs.toInt, fN_from, fN_to, fN_room, fN_cost) l4_x35.toInt.toNat)).toInt = v288.toInt := (by rw [b1_v288, b1_v287]; rfl); have exT0 : (fN_length_x35 (tTo (iN_arcs.toInt, fN_from, fN_to, fN_room, fN_cost) l4_x35.toInt.toNat)).toInt = v276.toInt := (by rw [b1_v276, b1_v275]; rfl); have exT1 := exT.symm.trans exT0; have exC : tCo (iN_arcs.toInt, fN_from, fN_to, fN_room, fN_cost) l4_x35.toInt.toNat = v277.toInt := (by rw [b1_v277]; rfl); exact mIn.skip hI (Or.inr (by show (fN_length_x35 (tFr (iN_arcs.toInt, fN_from, fN_to, fN_room, fN_cost) l4_x35.toInt.toNat)).toInt ≤ (fN_length_x35 (tTo (iN_arcs.toInt, fN_from, fN_to, fN_room, fN_cost) l4_x35.toInt.toNat)).toInt + (16 * tCo (iN_arcs.toInt, fN_from, fN_to, fN_room, fN_cost) l4_x35.toInt.toNat + 1); rw [exT, exF, exC]; omega)))), rfl, hP, hD, hS, hl⟩
                · have t_102 : ¬ ((v276.toInt + (v277.toInt * 16)) + 1) ≥ v288.toInt := toI_nge c_102 (iI_t (Int.le_trans (by decide) (Int.add_le_add (Int.add_le_add (b_v276.1) (Int.mul_le_mul_of_nonneg_right (b_v277.1) (by decide))) (Int.le_refl _))) (Int.le_trans (Int.add_le_add (Int.add_le_add (b_v276.2) (Int.mul_le_mul_of_nonneg_right (b_v277.2) (by decide))) (Int.le_refl _)) (by decide))) rfl
                  refine lv_aload_n hx hb dX2_measureBack_105 rfl (lv_at hl 4 rfl) ?_
                  refine va_get (D := (dC, dI)) (ci := 2) (v := .ref (aN 7)) (C := RX2) (T := TX2) (N := 14) hx hb hts iwsMX2_measureBack_in2 hown hK hP 0 rfl rfl 9 (by decide) (hts _ hm_m_X2_measureBack_0) (fun _ h9 => h9) rfl dX2_measureBack_106 ?_
                  refine lv_aload_n hx hb dX2_measureBack_109 rfl (lv_at hl 4 rfl) ?_
                  refine va_get (D := (dC, dI)) (ci := 2) (v := .ref (aN 0)) (C := RX2) (T := TX2) (N := 14) hx hb hts iwsMX2_measureBack_in2 hown hK hP 0 rfl rfl 1 (by decide) (hts _ hm_m_X2_measureBack_3) (fun _ h9 => h9) rfl dX2_measureBack_110 ?_
                  refine lv_iload hx hb dX2_measureBack_113 (lv_at hl 1 rfl) ?_
                  refine va_iald (cA := kN 0) (n := 40) (f := fN_from) hx hb hK hP 1 0 rfl rfl (vp_in_iff.mpr ⟨b_l4_x35.1, (by omega)⟩) dX2_measureBack_115 ?_
                  refine lv_topi (fun v289 hv289 => ?_)
                  have b_v289 : 0 ≤ v289.toInt ∧ v289.toInt ≤ 11 := by rw [hv289]; exact b_fN_from _
                  have b1_v289 : v289 = fN_from (l4_x35).toNatClampNeg := hv289
                  clear hv289
                  refine lv_iload hx hb dX2_measureBack_116 (lv_at hl 0 rfl) ?_
                  refine va_iast (cA := kN 7) (n := 12) (f := fN_length_x35) hx hb hK hP hD hS 8 7 rfl rfl (vp_in_iff.mpr ⟨b_v289.1, (Int.lt_of_le_of_lt (b_v289.2) (by decide))⟩) dX2_measureBack_118 (fun H locs hP hD hS => ?_)
                  obtain ⟨u290, hu290⟩ : ∃ f9, f9 = upd fN_length_x35 (v289).toNatClampNeg (iI ((v276.toInt + (v277.toInt * 16)) + 1)) := ⟨_, rfl⟩
                  have hP : va_P (dC, dI) vwCl (WN hN aN kN iN_arcs fN_from fN_to fN_room fN_cost iN_reached fN_free fN_before fN_flow u290 fN_stop iN_stops fN_price fN_rest) H := by rw [hu290]; exact hP
                  have hD : va_D A (WN hN aN kN iN_arcs fN_from fN_to fN_room fN_cost iN_reached fN_free fN_before fN_flow u290 fN_stop iN_stops fN_price fN_rest) := by rw [hu290]; exact hD
                  have b_u290 : u290 = upd fN_length_x35 (v289).toNatClampNeg (iI ((v276.toInt + (v277.toInt * 16)) + 1)) := hu290
                  clear hu290
                  refine lv_iconst (v := 1) hx hb dX2_measureBack_119 (by decide) ?_
                  refine lv_istore_n hx hb dX2_measureBack_120 rfl hl (by decide) rfl (fun ls (hl : lv_has ls _ ([(2, .int 1), (5, .int (iI ((v276.toInt + (v277.toInt * 16)) + 1))), (4, .int l4_x35), (3, .int l3_x20), (0, .ref (hN 0)), (1, .int p1)])) => ?_)
                  have hl : lv_has _ _ ([(5, .int (iI ((v276.toInt + (v277.toInt * 16)) + 1))), (4, .int l4_x35), (2, .int 1), (3, .int l3_x20), (0, .ref (hN 0)), (1, .int p1)]) := lv_sub hl [1, 2, 0, 3, 4, 5] rfl
                  exact join36 _ _ _ _ ⟨u290, 1, (show mIn (iN_arcs.toInt, fN_from, fN_to, fN_room, fN_cost) (w16 (iN_arcs.toInt, fN_from, fN_to, fN_room, fN_cost)) p1.toInt.toNat (fun n => (u290 n).toInt) (l3_x20.toInt + 1) (l4_x35.toInt.toNat + 1) (1 : Int32).toInt from by have exT : (fN_length_x35 (tTo (iN_arcs.toInt, fN_from, fN_to, fN_room, fN_cost) l4_x35.toInt.toNat)).toInt = v282.toInt := (by rw [b1_v282, b1_v281]; rfl); have exF : (fN_length_x35 (tFr (iN_arcs.toInt, fN_from, fN_to, fN_room, fN_cost) l4_x35.toInt.toNat)).toInt = v288.toInt := (by rw [b1_v288, b1_v287]; rfl); have exT0 : (fN_length_x35 (tTo (iN_arcs.toInt, fN_from, fN_to, fN_room, fN_cost) l4_x35.toInt.toNat)).toInt = v276.toInt := (by rw [b1_v276, b1_v275]; rfl); have exT1 := exT.symm.trans exT0; have exC : tCo (iN_arcs.toInt, fN_from, fN_to, fN_room, fN_cost) l4_x35.toInt.toNat = v277.toInt := (by rw [b1_v277]; rfl); exact mIn.take hI (by omega) hVal (by dsimp only; omega) (w16.pos hVal _ (by dsimp only; omega)) (by show (fN_length_x35 (tTo (iN_arcs.toInt, fN_from, fN_to, fN_room, fN_cost) l4_x35.toInt.toNat)).toInt < 536870912; rw [exT]; omega) (by show (fN_length_x35 (tTo (iN_arcs.toInt, fN_from, fN_to, fN_room, fN_cost) l4_x35.toInt.toNat)).toInt + (16 * tCo (iN_arcs.toInt, fN_from, fN_to, fN_room, fN_cost) l4_x35.toInt.toNat + 1) < (fN_length_x35 (tFr (iN_arcs.toInt, fN_from, fN_to, fN_room, fN_cost) l4_x35.toInt.toNat)).toInt; rw [exT, exF, exC]; omega) (mPut b_u290 (by rw [b1_v289]; rfl) (by show (iI ((v276.toInt + (v277.toInt * 16)) + 1)).toInt = (fN_length_x35 (tTo (iN_arcs.toInt, fN_from, fN_to, fN_room, fN_cost) l4_x35.toInt.toNat)).toInt + (16 * tCo (iN_arcs.toInt, fN_from, fN_to, fN_room, fN_cost) l4_x35.toInt.toNat + 1); rw [exT, exC, iI_t (by omega) (by omega)]; omega)) (by decide)), rfl, hP, hD, hS, hl⟩
            · intro H locs ls stk
              refine fz_e2 ?_
              intro fN_length_j36 l2_j36
              refine fz_a6 ?_
              intro hI2 hst9_1 hP hD hS hl
              subst hst9_1
              refine lv_iinc (v := (iI (l4_x35.toInt + 1))) hx hb dX2_measureBack_121 hl (k := 1) rfl (iI_add2 (iI_of _) (by decide : (1 : Int32) = iI 1)) (by decide) rfl (fun ls (hl : lv_has ls _ ([(4, .int (iI (l4_x35.toInt + 1))), (5, .int (iI ((v276.toInt + (v277.toInt * 16)) + 1))), (2, .int l2_j36), (3, .int l3_x20), (0, .ref (hN 0)), (1, .int p1)])) => ?_)
              refine lv_goto (tgt := 35) hx hb dX2_measureBack_124 (by decide) ?_
              have hl : lv_has _ _ ([(4, .int (iI (l4_x35.toInt + 1))), (2, .int l2_j36), (3, .int l3_x20), (0, .ref (hN 0)), (1, .int p1)]) := lv_sub hl [0, 2, 3, 4, 5] rfl
              exact ihx35 fN_length_j36 (iI (l4_x35.toInt + 1)) l2_j36 _ _ _ (iI_rng (Int.le_trans (by decide) (Int.add_le_add (b_l4_x35.1) (Int.le_refl _))) (by omega) (by decide) (by decide)) (show mIn (iN_arcs.toInt, fN_from, fN_to, fN_room, fN_cost) (w16 (iN_arcs.toInt, fN_from, fN_to, fN_room, fN_cost)) p1.toInt.toNat (fun n => (fN_length_j36 n).toInt) (l3_x20.toInt + 1) (iI (l4_x35.toInt + 1)).toInt.toNat l2_j36.toInt from by rw [iI_t (by omega) (by omega), show (l4_x35.toInt + 1).toNat = l4_x35.toInt.toNat + 1 from by omega]; exact hI2) (by have e9 : ((iI (l4_x35.toInt + 1))).toInt = (l4_x35.toInt + 1) := (iI_t (Int.le_trans (by decide) (Int.add_le_add (b_l4_x35.1) (Int.le_refl _))) (Int.le_trans (Int.add_le_add (b_l4_x35.2) (Int.le_refl _)) (by decide))); omega) hP hD hS hl
theorem dX2_nextNode_0 : decode cX2_nextNode 0 = .ok (.iload_n 1, 1) := dk_27 (by decide +kernel)
theorem dX2_nextNode_1 : decode cX2_nextNode 1 = .ok (.istore_n 2, 1) := dk_61 (by decide +kernel)
theorem dX2_nextNode_2 : decode cX2_nextNode 2 = .ok (.iconst 0, 1) := dk_3 (by decide +kernel)
theorem dX2_nextNode_3 : decode cX2_nextNode 3 = .ok (.istore_n 3, 1) := dk_62 (by decide +kernel)
theorem dX2_nextNode_4 : decode cX2_nextNode 4 = .ok (.iload_n 3, 1) := dk_29 (by decide +kernel)
theorem dX2_nextNode_5 : decode cX2_nextNode 5 = .ok (.aload_n 0, 1) := dk_42 (by decide +kernel)
theorem dX2_nextNode_6 : decode cX2_nextNode 6 = .ok (.getfield 45, 3) := dk_180 (by decide +kernel)
theorem dX2_nextNode_9 : decode cX2_nextNode 9 = .ok (.if_icmp .ge 85, 3) := dk_162 (by decide +kernel)
theorem dX2_nextNode_12 : decode cX2_nextNode 12 = .ok (.aload_n 0, 1) := dk_42 (by decide +kernel)
theorem dX2_nextNode_13 : decode cX2_nextNode 13 = .ok (.getfield 11, 3) := dk_180 (by decide +kernel)
theorem dX2_nextNode_16 : decode cX2_nextNode 16 = .ok (.iload_n 3, 1) := dk_29 (by decide +kernel)
theorem dX2_nextNode_17 : decode cX2_nextNode 17 = .ok (.iaload, 1) := dk_46 (by decide +kernel)
theorem dX2_nextNode_18 : decode cX2_nextNode 18 = .ok (.iload_n 1, 1) := dk_27 (by decide +kernel)
theorem dX2_nextNode_19 : decode cX2_nextNode 19 = .ok (.if_icmp .ne 39, 3) := dk_160 (by decide +kernel)
theorem dX2_nextNode_22 : decode cX2_nextNode 22 = .ok (.aload_n 0, 1) := dk_42 (by decide +kernel)
theorem dX2_nextNode_23 : decode cX2_nextNode 23 = .ok (.getfield 33, 3) := dk_180 (by decide +kernel)
theorem dX2_nextNode_26 : decode cX2_nextNode 26 = .ok (.aload_n 0, 1) := dk_42 (by decide +kernel)
theorem dX2_nextNode_27 : decode cX2_nextNode 27 = .ok (.getfield 15, 3) := dk_180 (by decide +kernel)
theorem dX2_nextNode_30 : decode cX2_nextNode 30 = .ok (.iload_n 3, 1) := dk_29 (by decide +kernel)
theorem dX2_nextNode_31 : decode cX2_nextNode 31 = .ok (.iaload, 1) := dk_46 (by decide +kernel)
theorem dX2_nextNode_32 : decode cX2_nextNode 32 = .ok (.iaload, 1) := dk_46 (by decide +kernel)
theorem dX2_nextNode_33 : decode cX2_nextNode 33 = .ok (.aload_n 0, 1) := dk_42 (by decide +kernel)
theorem dX2_nextNode_34 : decode cX2_nextNode 34 = .ok (.getfield 21, 3) := dk_180 (by decide +kernel)
theorem dX2_nextNode_37 : decode cX2_nextNode 37 = .ok (.iload_n 3, 1) := dk_29 (by decide +kernel)
theorem dX2_nextNode_38 : decode cX2_nextNode 38 = .ok (.iaload, 1) := dk_46 (by decide +kernel)
theorem dX2_nextNode_39 : decode cX2_nextNode 39 = .ok (.bipush 16, 2) := dk_16 (by decide +kernel)
theorem dX2_nextNode_41 : decode cX2_nextNode 41 = .ok (.imul, 1) := dk_104 (by decide +kernel)
theorem dX2_nextNode_42 : decode cX2_nextNode 42 = .ok (.iadd, 1) := dk_96 (by decide +kernel)
theorem dX2_nextNode_43 : decode cX2_nextNode 43 = .ok (.iconst 1, 1) := dk_4 (by decide +kernel)
theorem dX2_nextNode_44 : decode cX2_nextNode 44 = .ok (.iadd, 1) := dk_96 (by decide +kernel)
theorem dX2_nextNode_45 : decode cX2_nextNode 45 = .ok (.aload_n 0, 1) := dk_42 (by decide +kernel)
theorem dX2_nextNode_46 : decode cX2_nextNode 46 = .ok (.getfield 33, 3) := dk_180 (by decide +kernel)
theorem dX2_nextNode_49 : decode cX2_nextNode 49 = .ok (.iload_n 1, 1) := dk_27 (by decide +kernel)
theorem dX2_nextNode_50 : decode cX2_nextNode 50 = .ok (.iaload, 1) := dk_46 (by decide +kernel)
theorem dX2_nextNode_51 : decode cX2_nextNode 51 = .ok (.if_icmp .ne 7, 3) := dk_160 (by decide +kernel)
theorem dX2_nextNode_54 : decode cX2_nextNode 54 = .ok (.iconst 1, 1) := dk_4 (by decide +kernel)
theorem dX2_nextNode_55 : decode cX2_nextNode 55 = .ok (.goto 4, 3) := dk_167 (by decide +kernel)
theorem dX2_nextNode_58 : decode cX2_nextNode 58 = .ok (.iconst 0, 1) := dk_3 (by decide +kernel)
theorem dX2_nextNode_59 : decode cX2_nextNode 59 = .ok (.istore 4, 2) := dk_54 (by decide +kernel)
theorem dX2_nextNode_61 : decode cX2_nextNode 61 = .ok (.iload 4, 2) := dk_21 (by decide +kernel)
theorem dX2_nextNode_63 : decode cX2_nextNode 63 = .ok (.ifCond .eq 25, 3) := dk_153 (by decide +kernel)
theorem dX2_nextNode_66 : decode cX2_nextNode 66 = .ok (.iload_n 2, 1) := dk_28 (by decide +kernel)
theorem dX2_nextNode_67 : decode cX2_nextNode 67 = .ok (.iload_n 1, 1) := dk_27 (by decide +kernel)
theorem dX2_nextNode_68 : decode cX2_nextNode 68 = .ok (.if_icmp .eq 13, 3) := dk_159 (by decide +kernel)
theorem dX2_nextNode_71 : decode cX2_nextNode 71 = .ok (.aload_n 0, 1) := dk_42 (by decide +kernel)
theorem dX2_nextNode_72 : decode cX2_nextNode 72 = .ok (.getfield 15, 3) := dk_180 (by decide +kernel)
theorem dX2_nextNode_75 : decode cX2_nextNode 75 = .ok (.iload_n 3, 1) := dk_29 (by decide +kernel)
theorem dX2_nextNode_76 : decode cX2_nextNode 76 = .ok (.iaload, 1) := dk_46 (by decide +kernel)
theorem dX2_nextNode_77 : decode cX2_nextNode 77 = .ok (.iload_n 2, 1) := dk_28 (by decide +kernel)
theorem dX2_nextNode_78 : decode cX2_nextNode 78 = .ok (.if_icmp .ge 10, 3) := dk_162 (by decide +kernel)
theorem dX2_nextNode_81 : decode cX2_nextNode 81 = .ok (.aload_n 0, 1) := dk_42 (by decide +kernel)
theorem dX2_nextNode_82 : decode cX2_nextNode 82 = .ok (.getfield 15, 3) := dk_180 (by decide +kernel)
theorem dX2_nextNode_85 : decode cX2_nextNode 85 = .ok (.iload_n 3, 1) := dk_29 (by decide +kernel)
theorem dX2_nextNode_86 : decode cX2_nextNode 86 = .ok (.iaload, 1) := dk_46 (by decide +kernel)
theorem dX2_nextNode_87 : decode cX2_nextNode 87 = .ok (.istore_n 2, 1) := dk_61 (by decide +kernel)
theorem dX2_nextNode_88 : decode cX2_nextNode 88 = .ok (.iinc 3 1, 3) := dk_132 (by decide +kernel)
theorem dX2_nextNode_91 : decode cX2_nextNode 91 = .ok (.goto (-87), 3) := dk_167 (by decide +kernel)
theorem dX2_nextNode_94 : decode cX2_nextNode 94 = .ok (.iload_n 2, 1) := dk_28 (by decide +kernel)
theorem dX2_nextNode_95 : decode cX2_nextNode 95 = .ok (.ireturn, 1) := dk_172 (by decide +kernel)
def wsMX2_nextNode : List Cond := .code yX2_nextNode cX2_nextNode 5 (some .int) :: ([.fieldLink RX2 45 "OptimaWorks$NetDesk" "arcs" "I", .fieldLink RX2 11 "OptimaWorks$NetDesk" "from" "[I", .fieldLink RX2 33 "OptimaWorks$NetDesk" "length" "[I", .fieldLink RX2 15 "OptimaWorks$NetDesk" "to" "[I", .fieldLink RX2 21 "OptimaWorks$NetDesk" "cost" "[I"] ++ wsX20)
theorem iwsMX2_nextNode_in2 : ∀ w ∈ wsX20, w ∈ wsMX2_nextNode := fun _ h => List.mem_cons_of_mem _ (List.mem_append_right _ h)
theorem gdwsMX2_nextNode : wsMX2_nextNode.all goodWord = true := gdC rfl (gdA (by decide +kernel : ([.fieldLink RX2 45 "OptimaWorks$NetDesk" "arcs" "I", .fieldLink RX2 11 "OptimaWorks$NetDesk" "from" "[I", .fieldLink RX2 33 "OptimaWorks$NetDesk" "length" "[I", .fieldLink RX2 15 "OptimaWorks$NetDesk" "to" "[I", .fieldLink RX2 21 "OptimaWorks$NetDesk" "cost" "[I"] : List Cond).all goodWord = true) gdwsX20)
theorem hm_m_X2_nextNode_0 : (.fieldLink RX2 33 "OptimaWorks$NetDesk" "length" "[I" : Cond) ∈ wsMX2_nextNode := by decide +kernel
theorem hm_m_X2_nextNode_1 : (.fieldLink RX2 15 "OptimaWorks$NetDesk" "to" "[I" : Cond) ∈ wsMX2_nextNode := by decide +kernel
set_option maxHeartbeats 4000000 in
set_option maxRecDepth 100000 in
/-- the next node -/
theorem m_X2_nextNode (l : Launch) (dC : Nat → ClassId) (dI : Nat → Nat → Nat) (hN : Nat → Nat) (aN : Nat → Nat) (kN : Nat → ClassId) (iN_arcs : Int32) (fN_from : Nat → Int32) (fN_to : Nat → Int32) (fN_room : Nat → Int32) (fN_cost : Nat → Int32) (iN_reached : Int32) (fN_free : Nat → Int32) (fN_before : Nat → Int32) (fN_flow : Nat → Int32) (fN_length : Nat → Int32) (fN_stop : Nat → Int32) (iN_stops : Int32) (fN_price : Nat → Int32) (fN_rest : Nat → Int32) (p1 : Int32) (b_iN_arcs : 0 ≤ iN_arcs.toInt ∧ iN_arcs.toInt ≤ 40) (b_fN_from : ∀ q : Nat, 0 ≤ (fN_from q).toInt ∧ (fN_from q).toInt ≤ 11) (b_fN_to : ∀ q : Nat, 0 ≤ (fN_to q).toInt ∧ (fN_to q).toInt ≤ 11) (b_fN_before : ∀ q : Nat, 0 ≤ (fN_before q).toInt ∧ (fN_before q).toInt ≤ 79) (b_fN_stop : ∀ q : Nat, 0 ≤ (fN_stop q).toInt ∧ (fN_stop q).toInt ≤ 11) (b_iN_stops : 0 ≤ iN_stops.toInt ∧ iN_stops.toInt ≤ 8) (b_p1 : 0 ≤ p1.toInt ∧ p1.toInt ≤ 11) (hVal : tVal (iN_arcs.toInt, fN_from, fN_to, fN_room, fN_cost)) (hB9 : ∀ n, n < 12 → 0 ≤ (fN_length n).toInt ∧ (fN_length n).toInt ≤ 536870912) (sz : Nat) : Met l yX2_nextNode wsMX2_nextNode ({ frames := 0, cells := 0, slots := 0, locals := 0 }) (va_Pc [.ref (hN 0), .int p1] (fun U => U.heap.size = sz ∧ va_P (dC, dI) vwCl (WN hN aN kN iN_arcs fN_from fN_to fN_room fN_cost iN_reached fN_free fN_before fN_flow fN_length fN_stop iN_stops fN_price fN_rest) U.heap ∧ va_K (dC, dI) vwCl (tN kN) U ∧ va_D (fun _ => True) (WN hN aN kN iN_arcs fN_from fN_to fN_room fN_cost iN_reached fN_free fN_before fN_flow fN_length fN_stop iN_stops fN_price fN_rest))) (va_Qi (fun (r : Int32) (u : Unit) => (0 ≤ r.toInt ∧ r.toInt ≤ 11) ∧ ((∃ b, pOn (iN_arcs.toInt, fN_from, fN_to, fN_room, fN_cost) (w16 (iN_arcs.toInt, fN_from, fN_to, fN_room, fN_cost)) (fun n => (fN_length n).toInt) p1.toInt.toNat b) → pNx (iN_arcs.toInt, fN_from, fN_to, fN_room, fN_cost) (w16 (iN_arcs.toInt, fN_from, fN_to, fN_room, fN_cost)) (fun n => (fN_length n).toInt) p1.toInt.toNat r.toInt.toNat)) (fun (u : Unit) t => va_P (dC, dI) vwCl (WN hN aN kN iN_arcs fN_from fN_to fN_room fN_cost iN_reached fN_free fN_before fN_flow fN_length fN_stop iN_stops fN_price fN_rest) t.heap ∧ va_D (va_A (WN hN aN kN iN_arcs fN_from fN_to fN_room fN_cost iN_reached fN_free fN_before fN_flow fN_length fN_stop iN_stops fN_price fN_rest) sz) (WN hN aN kN iN_arcs fN_from fN_to fN_room fN_cost iN_reached fN_free fN_before fN_flow fN_length fN_stop iN_stops fN_price fN_rest)) (va_A (WN hN aN kN iN_arcs fN_from fN_to fN_room fN_cost iN_reached fN_free fN_before fN_flow fN_length fN_stop iN_stops fN_price fN_rest) sz)) 0 0 (va_A (WN hN aN kN iN_arcs fN_from fN_to fN_room fN_cost iN_reached fN_free fN_before fN_flow fN_length fN_stop iN_stops fN_price fN_rest) sz) := by
  refine Met.ofW (cc := cX2_nextNode) (maxL := 5) (ret := (some .int)) (by decide) rfl ?_
  intro p e s m args below meth c s₁ B hml hv
  obtain ⟨rfl, hsz, hP, hK, hD0⟩ := hv
  have hx := B.exec
  have hb := B.bytes
  have hr := B.returns
  have hts := atoms_spec (ws := wsMX2_nextNode) B.pre
  have hown : s.vm.findClass RX2 = some m.cls := findClass_of_methodNamed B.named
  have hlocks := B.notSynchronized
  subst hsz
  have hD := hD0.self (sz := s.heap.size)
  generalize hAe : va_A (WN hN aN kN iN_arcs fN_from fN_to fN_room fN_cost iN_reached fN_free fN_before fN_flow fN_length fN_stop iN_stops fN_price fN_rest) s.heap.size = A at hD ⊢
  have hA : ∀ q : Nat, s.heap.size ≤ q → A q := fun q h => by rw [← hAe]; exact Or.inr h
  have hS : va_S A s.heap s.heap [] := va_S.rf
  have hl := lv_entry ([.ref (hN 0), .int p1]) (n := 5) (Nat.le_of_ble_eq_true rfl)
  rw [lg_entry_eq]
  generalize (lg_sl ([.ref (hN 0), .int p1]) ++ List.replicate (5 - (lg_sl ([.ref (hN 0), .int p1])).length) Slot.unset).toArray = ls at hl ⊢
  have hl : lv_has ls 5 [(0, .ref (hN 0)), (1, .int p1)] := hl
  refine lv_iload_n hx hb dX2_nextNode_0 rfl (lv_at hl 1 rfl) ?_
  refine lv_istore_n hx hb dX2_nextNode_1 rfl hl (by decide) rfl (fun ls (hl : lv_has ls _ ([(2, .int p1), (0, .ref (hN 0)), (1, .int p1)])) => ?_)
  refine lv_iconst (v := 0) hx hb dX2_nextNode_2 (by decide) ?_
  refine lv_istore_n hx hb dX2_nextNode_3 rfl hl (by decide) rfl (fun ls (hl : lv_has ls _ ([(3, .int 0), (2, .int p1), (0, .ref (hN 0)), (1, .int p1)])) => ?_)
  have hl : lv_has _ _ ([(3, .int 0), (2, .int p1), (0, .ref (hN 0)), (1, .int p1)]) := lv_sub hl [0, 1, 2, 3] rfl
  refine (fun (loop : ∀ (n9 : Nat) (l3_x4 : Int32) (l2_x4 : Int32) (H : Heap) (locs : List Loc) (ls : Array Slot), (0 ≤ l3_x4.toInt ∧ l3_x4.toInt ≤ 40) → (0 ≤ l2_x4.toInt ∧ l2_x4.toInt ≤ 11) → (pFo (iN_arcs.toInt, fN_from, fN_to, fN_room, fN_cost) (w16 (iN_arcs.toInt, fN_from, fN_to, fN_room, fN_cost)) (fun n => (fN_length n).toInt) p1.toInt.toNat p1.toInt l3_x4.toInt.toNat l2_x4.toInt) → (40 - l3_x4.toInt < ((n9 : Nat) : Int)) → va_P (dC, dI) vwCl (WN hN aN kN iN_arcs fN_from fN_to fN_room fN_cost iN_reached fN_free fN_before fN_flow fN_length fN_stop iN_stops fN_price fN_rest) H → va_D A (WN hN aN kN iN_arcs fN_from fN_to fN_room fN_cost iN_reached fN_free fN_before fN_flow fN_length fN_stop iN_stops fN_price fN_rest) → va_S A s.heap H locs → lv_has ls 5 [(3, .int l3_x4), (2, .int l2_x4), (0, .ref (hN 0)), (1, .int p1)] → W p l e _ s m _ below meth c H locs 0 0 _ (F0 m 4 ls [])) => loop (41) 0 p1 _ _ _ (show 0 ≤ (0 : Int32).toInt ∧ (0 : Int32).toInt ≤ 40 from by decide) (b_p1) (show pFo (iN_arcs.toInt, fN_from, fN_to, fN_room, fN_cost) (w16 (iN_arcs.toInt, fN_from, fN_to, fN_room, fN_cost)) (fun n => (fN_length n).toInt) p1.toInt.toNat p1.toInt (0 : Int32).toInt.toNat p1.toInt from pFo.start) ((by have e9 : (0 : Int32).toInt = 0 := (by decide : (0 : Int32).toInt = 0); omega)) hP hD hS hl) ?_
  intro n9
  induction n9 with
  | zero => intro l3_x4 l2_x4 H locs ls b_l3_x4 b_l2_x4 hFo hf9; exact False.elim (by omega)
  | succ n9 ihx4 =>
    intro l3_x4 l2_x4 H locs ls b_l3_x4 b_l2_x4 hFo hfx4 hP hD hS hl
    refine lv_iload_n hx hb dX2_nextNode_4 rfl (lv_at hl 0 rfl) ?_
    refine lv_aload_n hx hb dX2_nextNode_5 rfl (lv_at hl 2 rfl) ?_
    refine va_get (D := (dC, dI)) (ci := 2) (v := .int iN_arcs) (C := RX2) (T := TX2) (N := 14) hx hb hts iwsMX2_nextNode_in2 hown hK hP 0 rfl rfl 0 (by decide) (hts (.fieldLink RX2 45 "OptimaWorks$NetDesk" "arcs" "I") (by decide +kernel)) (fun _ h9 => h9) rfl dX2_nextNode_6 ?_
    refine lv_icmp_ge (tgt := 94) hx hb dX2_nextNode_9 (by decide) (fun c_9 => ?_) (fun c_9 => ?_)
    · have t_9 : l3_x4.toInt ≥ iN_arcs.toInt := toI_ge c_9 rfl rfl
      refine lv_iload_n hx hb dX2_nextNode_94 rfl (lv_at hl 1 rfl) ?_
      refine W.widen (k := 0) (n := 0) (by decide +kernel) (by decide +kernel) ?_
      exact W.iret (v := l2_x4) hx hb hr (fun t9_ ht hW => ⟨⟨l2_x4, (), rfl, ⟨(b_l2_x4), (by (try dsimp only); exact (fun hs9 => (pFo.done hFo (by dsimp only; omega) hs9).1))⟩, by rw [ht]; exact hP, hD⟩, hS.F ht⟩) hS.2.2 dX2_nextNode_95
    · have t_9 : ¬ l3_x4.toInt ≥ iN_arcs.toInt := toI_nge c_9 rfl rfl
      refine lv_aload_n hx hb dX2_nextNode_12 rfl (lv_at hl 2 rfl) ?_
      refine va_get (D := (dC, dI)) (ci := 2) (v := .ref (aN 0)) (C := RX2) (T := TX2) (N := 14) hx hb hts iwsMX2_nextNode_in2 hown hK hP 0 rfl rfl 1 (by decide) (hts (.fieldLink RX2 11 "OptimaWorks$NetDesk" "from" "[I") (by decide +kernel)) (fun _ h9 => h9) rfl dX2_nextNode_13 ?_
      refine lv_iload_n hx hb dX2_nextNode_16 rfl (lv_at hl 0 rfl) ?_
      refine va_iald (cA := kN 0) (n := 40) (f := fN_from) hx hb hK hP 1 0 rfl rfl (vp_in_iff.mpr ⟨b_l3_x4.1, (Int.lt_of_lt_of_le (Int.not_le.mp t_9) (Int.le_trans b_iN_arcs.2 (by decide)))⟩) dX2_nextNode_17 ?_
      refine lv_topi (fun v106 hv106 => ?_)
      have b_v106 : 0 ≤ v106.toInt ∧ v106.toInt ≤ 11 := by rw [hv106]; exact b_fN_from _
      have b1_v106 : v106 = fN_from (l3_x4).toNatClampNeg := hv106
      clear hv106
      refine lv_iload_n hx hb dX2_nextNode_18 rfl (lv_at hl 3 rfl) ?_
      refine W.cut (pc := 59) (fun H locs ls stk => ∃ (k0_j23 : Int32), (0 ≤ k0_j23.toInt ∧ k0_j23.toInt ≤ 1) ∧ ((k0_j23.toInt = 1 ∧ (pOn (iN_arcs.toInt, fN_from, fN_to, fN_room, fN_cost) (w16 (iN_arcs.toInt, fN_from, fN_to, fN_room, fN_cost)) (fun n => (fN_length n).toInt) p1.toInt.toNat l3_x4.toInt.toNat)) ∨ (k0_j23.toInt = 0 ∧ ¬ (pOn (iN_arcs.toInt, fN_from, fN_to, fN_room, fN_cost) (w16 (iN_arcs.toInt, fN_from, fN_to, fN_room, fN_cost)) (fun n => (fN_length n).toInt) p1.toInt.toNat l3_x4.toInt.toNat))) ∧  stk = [.int k0_j23] ∧ va_P (dC, dI) vwCl (WN hN aN kN iN_arcs fN_from fN_to fN_room fN_cost iN_reached fN_free fN_before fN_flow fN_length fN_stop iN_stops fN_price fN_rest) H ∧ va_D A (WN hN aN kN iN_arcs fN_from fN_to fN_room fN_cost iN_reached fN_free fN_before fN_flow fN_length fN_stop iN_stops fN_price fN_rest) ∧ va_S A s.heap H locs ∧ lv_has ls 5 [(3, .int l3_x4), (2, .int l2_x4), (0, .ref (hN 0)), (1, .int p1)]) (fun join23 => ?_) ?_
      · refine lv_icmp_ne (tgt := 58) hx hb dX2_nextNode_19 (by decide) (fun c_19 => ?_) (fun c_19 => ?_)
        · have t_19 : v106.toInt ≠ p1.toInt := toI_ne c_19 rfl rfl
          refine lv_iconst (v := 0) hx hb dX2_nextNode_58 (by decide) ?_
          have hl : lv_has _ _ ([(3, .int l3_x4), (2, .int l2_x4), (0, .ref (hN 0)), (1, .int p1)]) := lv_sub hl [0, 1, 2, 3] rfl
          exact join23 _ _ _ _ ⟨0, (show 0 ≤ (0 : Int32).toInt ∧ (0 : Int32).toInt ≤ 1 from by decide), (show ((0 : Int32).toInt = 1 ∧ (pOn (iN_arcs.toInt, fN_from, fN_to, fN_room, fN_cost) (w16 (iN_arcs.toInt, fN_from, fN_to, fN_room, fN_cost)) (fun n => (fN_length n).toInt) p1.toInt.toNat l3_x4.toInt.toNat)) ∨ ((0 : Int32).toInt = 0 ∧ ¬ (pOn (iN_arcs.toInt, fN_from, fN_to, fN_room, fN_cost) (w16 (iN_arcs.toInt, fN_from, fN_to, fN_room, fN_cost)) (fun n => (fN_length n).toInt) p1.toInt.toNat l3_x4.toInt.toNat)) from by first | (have exF : tFr (iN_arcs.toInt, fN_from, fN_to, fN_room, fN_cost) l3_x4.toInt.toNat = v106.toInt.toNat := (by rw [b1_v106]; rfl); have exT : (fN_length (tTo (iN_arcs.toInt, fN_from, fN_to, fN_room, fN_cost) l3_x4.toInt.toNat)).toInt = v108.toInt := (by rw [b1_v108, b1_v107]; rfl); have exC : tCo (iN_arcs.toInt, fN_from, fN_to, fN_room, fN_cost) l3_x4.toInt.toNat = v109.toInt := (by rw [b1_v109]; rfl); have exN : (fN_length p1.toInt.toNat).toInt = v113.toInt := (by rw [b1_v113]; rfl); exact Or.inl ⟨by decide, by dsimp only; omega, by rw [exF]; omega, by show (fN_length (tTo (iN_arcs.toInt, fN_from, fN_to, fN_room, fN_cost) l3_x4.toInt.toNat)).toInt < 536870912; rw [exT]; omega, by show (fN_length (tTo (iN_arcs.toInt, fN_from, fN_to, fN_room, fN_cost) l3_x4.toInt.toNat)).toInt + (16 * tCo (iN_arcs.toInt, fN_from, fN_to, fN_room, fN_cost) l3_x4.toInt.toNat + 1) = (fN_length p1.toInt.toNat).toInt; rw [exT, exC, exN]; omega⟩) | (have exF : tFr (iN_arcs.toInt, fN_from, fN_to, fN_room, fN_cost) l3_x4.toInt.toNat = v106.toInt.toNat := (by rw [b1_v106]; rfl); exact Or.inr ⟨by decide, fun h9 => by have h8 := h9.2.1; rw [exF] at h8; omega⟩) | (have exF : tFr (iN_arcs.toInt, fN_from, fN_to, fN_room, fN_cost) l3_x4.toInt.toNat = v106.toInt.toNat := (by rw [b1_v106]; rfl); have exT : (fN_length (tTo (iN_arcs.toInt, fN_from, fN_to, fN_room, fN_cost) l3_x4.toInt.toNat)).toInt = v108.toInt := (by rw [b1_v108, b1_v107]; rfl); have exC : tCo (iN_arcs.toInt, fN_from, fN_to, fN_room, fN_cost) l3_x4.toInt.toNat = v109.toInt := (by rw [b1_v109]; rfl); have exN : (fN_length p1.toInt.toNat).toInt = v113.toInt := (by rw [b1_v113]; rfl); exact Or.inr ⟨by decide, fun h9 => by have h8 : (fN_length (tTo (iN_arcs.toInt, fN_from, fN_to, fN_room, fN_cost) l3_x4.toInt.toNat)).toInt + (16 * tCo (iN_arcs.toInt, fN_from, fN_to, fN_room, fN_cost) l3_x4.toInt.toNat + 1) = (fN_length p1.toInt.toNat).toInt := h9.2.2.2; rw [exT, exC, exN] at h8; omega⟩)), rfl, hP, hD, hS, hl⟩
        · have t_19 : v106.toInt = p1.toInt := toI_nne c_19 rfl rfl
          refine lv_aload_n hx hb dX2_nextNode_22 rfl (lv_at hl 2 rfl) ?_
          refine va_get (D := (dC, dI)) (ci := 2) (v := .ref (aN 7)) (C := RX2) (T := TX2) (N := 14) hx hb hts iwsMX2_nextNode_in2 hown hK hP 0 rfl rfl 9 (by decide) (hts _ hm_m_X2_nextNode_0) (fun _ h9 => h9) rfl dX2_nextNode_23 ?_
          refine lv_aload_n hx hb dX2_nextNode_26 rfl (lv_at hl 2 rfl) ?_
          refine va_get (D := (dC, dI)) (ci := 2) (v := .ref (aN 1)) (C := RX2) (T := TX2) (N := 14) hx hb hts iwsMX2_nextNode_in2 hown hK hP 0 rfl rfl 2 (by decide) (hts _ hm_m_X2_nextNode_1) (fun _ h9 => h9) rfl dX2_nextNode_27 ?_
          refine lv_iload_n hx hb dX2_nextNode_30 rfl (lv_at hl 0 rfl) ?_
          refine va_iald (cA := kN 1) (n := 40) (f := fN_to) hx hb hK hP 2 1 rfl rfl (vp_in_iff.mpr ⟨b_l3_x4.1, (by omega)⟩) dX2_nextNode_31 ?_
          refine lv_topi (fun v114 hv114 => ?_)
          have b_v114 : 0 ≤ v114.toInt ∧ v114.toInt ≤ 11 := by rw [hv114]; exact b_fN_to _
          have b1_v114 : v114 = fN_to (l3_x4).toNatClampNeg := hv114
          clear hv114
          refine va_iald (cA := kN 7) (n := 12) (f := fN_length) hx hb hK hP 8 7 rfl rfl (vp_in_iff.mpr ⟨b_v114.1, (Int.lt_of_le_of_lt (b_v114.2) (by decide))⟩) dX2_nextNode_32 ?_
          refine lv_topi (fun v115 hv115 => ?_)
          have b_v115 : 0 ≤ v115.toInt ∧ v115.toInt ≤ 536870912 := by rw [hv115]; exact hB9 _ (show (v114).toNatClampNeg < 12 from by have h9 : (v114).toNatClampNeg = v114.toInt.toNat := rfl; omega)
          have b1_v115 : v115 = fN_length (v114).toNatClampNeg := hv115
          clear hv115
          refine lv_aload_n hx hb dX2_nextNode_33 rfl (lv_at hl 2 rfl) ?_
          refine va_get (D := (dC, dI)) (ci := 2) (v := .ref (aN 3)) (C := RX2) (T := TX2) (N := 14) hx hb hts iwsMX2_nextNode_in2 hown hK hP 0 rfl rfl 4 (by decide) (hts (.fieldLink RX2 21 "OptimaWorks$NetDesk" "cost" "[I") (by decide +kernel)) (fun _ h9 => h9) rfl dX2_nextNode_34 ?_
          refine lv_iload_n hx hb dX2_nextNode_37 rfl (lv_at hl 0 rfl) ?_
          refine va_iald (cA := kN 3) (n := 40) (f := fN_cost) hx hb hK hP 4 3 rfl rfl (vp_in_iff.mpr ⟨b_l3_x4.1, (by omega)⟩) dX2_nextNode_38 ?_
          refine lv_topi (fun v116 hv116 => ?_)
          have b_v116 : 0 ≤ v116.toInt ∧ v116.toInt ≤ 1000 := by rw [hv116]; exact (hVal l3_x4.toInt.toNat (by dsimp only; omega)).2.2
          have b1_v116 : v116 = fN_cost (l3_x4).toNatClampNeg := hv116
          clear hv116
          refine lv_bipush (v := 16) hx hb dX2_nextNode_39 (by decide) ?_
          refine lv_imul hx hb dX2_nextNode_41 ?_
          refine lv_topi (fun y117 hy117 => ?_)
          obtain rfl : (iI (v116.toInt * 16)) = y117 := (hy117.trans (iI_mul2 (iI_of _) (by decide : (16 : Int32) = iI 16))).symm
          refine lv_iadd hx hb dX2_nextNode_42 ?_
          refine lv_topi (fun y118 hy118 => ?_)
          obtain rfl : (iI (v115.toInt + (v116.toInt * 16))) = y118 := (hy118.trans (iI_add2 (iI_of _) rfl)).symm
          refine lv_iconst (v := 1) hx hb dX2_nextNode_43 (by decide) ?_
          refine lv_iadd hx hb dX2_nextNode_44 ?_
          refine lv_topi (fun y119 hy119 => ?_)
          obtain rfl : (iI ((v115.toInt + (v116.toInt * 16)) + 1)) = y119 := (hy119.trans (iI_add2 rfl (by decide : (1 : Int32) = iI 1))).symm
          refine lv_aload_n hx hb dX2_nextNode_45 rfl (lv_at hl 2 rfl) ?_
          refine va_get (D := (dC, dI)) (ci := 2) (v := .ref (aN 7)) (C := RX2) (T := TX2) (N := 14) hx hb hts iwsMX2_nextNode_in2 hown hK hP 0 rfl rfl 9 (by decide) (hts _ hm_m_X2_nextNode_0) (fun _ h9 => h9) rfl dX2_nextNode_46 ?_
          refine lv_iload_n hx hb dX2_nextNode_49 rfl (lv_at hl 3 rfl) ?_
          refine va_iald (cA := kN 7) (n := 12) (f := fN_length) hx hb hK hP 8 7 rfl rfl (vp_in_iff.mpr ⟨b_p1.1, (Int.lt_of_le_of_lt (b_p1.2) (by decide))⟩) dX2_nextNode_50 ?_
          refine lv_topi (fun v120 hv120 => ?_)
          have b_v120 : 0 ≤ v120.toInt ∧ v120.toInt ≤ 536870912 := by rw [hv120]; exact hB9 _ (show (p1).toNatClampNeg < 12 from by have h9 : (p1).toNatClampNeg = p1.toInt.toNat := rfl; omega)
          have b1_v120 : v120 = fN_length (p1).toNatClampNeg := hv120
          clear hv120
          refine lv_icmp_ne (tgt := 58) hx hb dX2_nextNode_51 (by decide) (fun c_51 => ?_) (fun c_51 => ?_)
          · have t_51 : ((v115.toInt + (v116.toInt * 16)) + 1) ≠ v120.toInt := toI_ne c_51 (iI_t (Int.le_trans (by decide) (Int.add_le_add (Int.add_le_add (b_v115.1) (Int.mul_le_mul_of_nonneg_right (b_v116.1) (by decide))) (Int.le_refl _))) (Int.le_trans (Int.add_le_add (Int.add_le_add (b_v115.2) (Int.mul_le_mul_of_nonneg_right (b_v116.2) (by decide))) (Int.le_refl _)) (by decide))) rfl
            refine lv_iconst (v := 0) hx hb dX2_nextNode_58 (by decide) ?_
            have hl : lv_has _ _ ([(3, .int l3_x4), (2, .int l2_x4), (0, .ref (hN 0)), (1, .int p1)]) := lv_sub hl [0, 1, 2, 3] rfl
            exact join23 _ _ _ _ ⟨0, (show 0 ≤ (0 : Int32).toInt ∧ (0 : Int32).toInt ≤ 1 from by decide), (show ((0 : Int32).toInt = 1 ∧ (pOn (iN_arcs.toInt, fN_from, fN_to, fN_room, fN_cost) (w16 (iN_arcs.toInt, fN_from, fN_to, fN_room, fN_cost)) (fun n => (fN_length n).toInt) p1.toInt.toNat l3_x4.toInt.toNat)) ∨ ((0 : Int32).toInt = 0 ∧ ¬ (pOn (iN_arcs.toInt, fN_from, fN_to, fN_room, fN_cost) (w16 (iN_arcs.toInt, fN_from, fN_to, fN_room, fN_cost)) (fun n => (fN_length n).toInt) p1.toInt.toNat l3_x4.toInt.toNat)) from by first | (have exF : tFr (iN_arcs.toInt, fN_from, fN_to, fN_room, fN_cost) l3_x4.toInt.toNat = v106.toInt.toNat := (by rw [b1_v106]; rfl); have exT : (fN_length (tTo (iN_arcs.toInt, fN_from, fN_to, fN_room, fN_cost) l3_x4.toInt.toNat)).toInt = v115.toInt := (by rw [b1_v115, b1_v114]; rfl); have exC : tCo (iN_arcs.toInt, fN_from, fN_to, fN_room, fN_cost) l3_x4.toInt.toNat = v116.toInt := (by rw [b1_v116]; rfl); have exN : (fN_length p1.toInt.toNat).toInt = v120.toInt := (by rw [b1_v120]; rfl); exact Or.inl ⟨by decide, by dsimp only; omega, by rw [exF]; omega, by show (fN_length (tTo (iN_arcs.toInt, fN_from, fN_to, fN_room, fN_cost) l3_x4.toInt.toNat)).toInt < 536870912; rw [exT]; omega, by show (fN_length (tTo (iN_arcs.toInt, fN_from, fN_to, fN_room, fN_cost) l3_x4.toInt.toNat)).toInt + (16 * tCo (iN_arcs.toInt, fN_from, fN_to, fN_room, fN_cost) l3_x4.toInt.toNat + 1) = (fN_length p1.toInt.toNat).toInt; rw [exT, exC, exN]; omega⟩) | (have exF : tFr (iN_arcs.toInt, fN_from, fN_to, fN_room, fN_cost) l3_x4.toInt.toNat = v106.toInt.toNat := (by rw [b1_v106]; rfl); exact Or.inr ⟨by decide, fun h9 => by have h8 := h9.2.1; rw [exF] at h8; omega⟩) | (have exF : tFr (iN_arcs.toInt, fN_from, fN_to, fN_room, fN_cost) l3_x4.toInt.toNat = v106.toInt.toNat := (by rw [b1_v106]; rfl); have exT : (fN_length (tTo (iN_arcs.toInt, fN_from, fN_to, fN_room, fN_cost) l3_x4.toInt.toNat)).toInt = v115.toInt := (by rw [b1_v115, b1_v114]; rfl); have exC : tCo (iN_arcs.toInt, fN_from, fN_to, fN_room, fN_cost) l3_x4.toInt.toNat = v116.toInt := (by rw [b1_v116]; rfl); have exN : (fN_length p1.toInt.toNat).toInt = v120.toInt := (by rw [b1_v120]; rfl); exact Or.inr ⟨by decide, fun h9 => by have h8 : (fN_length (tTo (iN_arcs.toInt, fN_from, fN_to, fN_room, fN_cost) l3_x4.toInt.toNat)).toInt + (16 * tCo (iN_arcs.toInt, fN_from, fN_to, fN_room, fN_cost) l3_x4.toInt.toNat + 1) = (fN_length p1.toInt.toNat).toInt := h9.2.2.2; rw [exT, exC, exN] at h8; omega⟩)), rfl, hP, hD, hS, hl⟩
          · have t_51 : ((v115.toInt + (v116.toInt * 16)) + 1) = v120.toInt := toI_nne c_51 (iI_t (Int.le_trans (by decide) (Int.add_le_add (Int.add_le_add (b_v115.1) (Int.mul_le_mul_of_nonneg_right (b_v116.1) (by decide))) (Int.le_refl _))) (Int.le_trans (Int.add_le_add (Int.add_le_add (b_v115.2) (Int.mul_le_mul_of_nonneg_right (b_v116.2) (by decide))) (Int.le_refl _)) (by decide))) rfl
            refine lv_iconst (v := 1) hx hb dX2_nextNode_54 (by decide) ?_
            refine lv_goto (tgt := 59) hx hb dX2_nextNode_55 (by decide) ?_
            have hl : lv_has _ _ ([(3, .int l3_x4), (2, .int l2_x4), (0, .ref (hN 0)), (1, .int p1)]) := lv_sub hl [0, 1, 2, 3] rfl
            exact join23 _ _ _ _ ⟨1, (show 0 ≤ (1 : Int32).toInt ∧ (1 : Int32).toInt ≤ 1 from by decide), (show ((1 : Int32).toInt = 1 ∧ (pOn (iN_arcs.toInt, fN_from, fN_to, fN_room, fN_cost) (w16 (iN_arcs.toInt, fN_from, fN_to, fN_room, fN_cost)) (fun n => (fN_length n).toInt) p1.toInt.toNat l3_x4.toInt.toNat)) ∨ ((1 : Int32).toInt = 0 ∧ ¬ (pOn (iN_arcs.toInt, fN_from, fN_to, fN_room, fN_cost) (w16 (iN_arcs.toInt, fN_from, fN_to, fN_room, fN_cost)) (fun n => (fN_length n).toInt) p1.toInt.toNat l3_x4.toInt.toNat)) from by first | (have exF : tFr (iN_arcs.toInt, fN_from, fN_to, fN_room, fN_cost) l3_x4.toInt.toNat = v106.toInt.toNat := (by rw [b1_v106]; rfl); have exT : (fN_length (tTo (iN_arcs.toInt, fN_from, fN_to, fN_room, fN_cost) l3_x4.toInt.toNat)).toInt = v115.toInt := (by rw [b1_v115, b1_v114]; rfl); have exC : tCo (iN_arcs.toInt, fN_from, fN_to, fN_room, fN_cost) l3_x4.toInt.toNat = v116.toInt := (by rw [b1_v116]; rfl); have exN : (fN_length p1.toInt.toNat).toInt = v120.toInt := (by rw [b1_v120]; rfl); exact Or.inl ⟨by decide, by dsimp only; omega, by rw [exF]; omega, by show (fN_length (tTo (iN_arcs.toInt, fN_from, fN_to, fN_room, fN_cost) l3_x4.toInt.toNat)).toInt < 536870912; rw [exT]; omega, by show (fN_length (tTo (iN_arcs.toInt, fN_from, fN_to, fN_room, fN_cost) l3_x4.toInt.toNat)).toInt + (16 * tCo (iN_arcs.toInt, fN_from, fN_to, fN_room, fN_cost) l3_x4.toInt.toNat + 1) = (fN_length p1.toInt.toNat).toInt; rw [exT, exC, exN]; omega⟩) | (have exF : tFr (iN_arcs.toInt, fN_from, fN_to, fN_room, fN_cost) l3_x4.toInt.toNat = v106.toInt.toNat := (by rw [b1_v106]; rfl); exact Or.inr ⟨by decide, fun h9 => by have h8 := h9.2.1; rw [exF] at h8; omega⟩) | (have exF : tFr (iN_arcs.toInt, fN_from, fN_to, fN_room, fN_cost) l3_x4.toInt.toNat = v106.toInt.toNat := (by rw [b1_v106]; rfl); have exT : (fN_length (tTo (iN_arcs.toInt, fN_from, fN_to, fN_room, fN_cost) l3_x4.toInt.toNat)).toInt = v115.toInt := (by rw [b1_v115, b1_v114]; rfl); have exC : tCo (iN_arcs.toInt, fN_from, fN_to, fN_room, fN_cost) l3_x4.toInt.toNat = v116.toInt := (by rw [b1_v116]; rfl); have exN : (fN_length p1.toInt.toNat).toInt = v120.toInt := (by rw [b1_v120]; rfl); exact Or.inr ⟨by decide, fun h9 => by have h8 : (fN_length (tTo (iN_arcs.toInt, fN_from, fN_to, fN_room, fN_cost) l3_x4.toInt.toNat)).toInt + (16 * tCo (iN_arcs.toInt, fN_from, fN_to, fN_room, fN_cost) l3_x4.toInt.toNat + 1) = (fN_length p1.toInt.toNat).toInt := h9.2.2.2; rw [exT, exC, exN] at h8; omega⟩)), rfl, hP, hD, hS, hl⟩
      · intro H locs ls stk
        refine fz_e1 ?_
        intro k0_j23
        refine fz_a7 ?_
        intro b_k0_j23 hon hst9_2 hP hD hS hl
        subst hst9_2
        refine lv_istore hx hb dX2_nextNode_59 hl (by decide) rfl (fun ls (hl : lv_has ls _ ([(4, .int k0_j23), (3, .int l3_x4), (2, .int l2_x4), (0, .ref (hN 0)), (1, .int p1)])) => ?_)
        refine lv_iload hx hb dX2_nextNode_61 (lv_at hl 0 rfl) ?_
        refine W.cut (pc := 88) (fun H locs ls stk => ∃ (l2_j24 : Int32), (0 ≤ l2_j24.toInt ∧ l2_j24.toInt ≤ 11) ∧ (pFo (iN_arcs.toInt, fN_from, fN_to, fN_room, fN_cost) (w16 (iN_arcs.toInt, fN_from, fN_to, fN_room, fN_cost)) (fun n => (fN_length n).toInt) p1.toInt.toNat p1.toInt (l3_x4.toInt.toNat + 1) l2_j24.toInt) ∧  stk = [] ∧ va_P (dC, dI) vwCl (WN hN aN kN iN_arcs fN_from fN_to fN_room fN_cost iN_reached fN_free fN_before fN_flow fN_length fN_stop iN_stops fN_price fN_rest) H ∧ va_D A (WN hN aN kN iN_arcs fN_from fN_to fN_room fN_cost iN_reached fN_free fN_before fN_flow fN_length fN_stop iN_stops fN_price fN_rest) ∧ va_S A s.heap H locs ∧ lv_has ls 5 [(4, .int k0_j23), (3, .int l3_x4), (2, .int l2_j24), (0, .ref (hN 0)), (1, .int p1)]) (fun join24 => ?_) ?_
        · refine lv_if_eq (tgt := 88) hx hb dX2_nextNode_63 (by decide) (fun c_63 => ?_) (fun c_63 => ?_)
          · have t_63 : k0_j23.toInt = 0 := toI_eq c_63 rfl (by decide : (0 : Int32).toInt = 0)
            have hl : lv_has _ _ ([(4, .int k0_j23), (3, .int l3_x4), (2, .int l2_x4), (0, .ref (hN 0)), (1, .int p1)]) := lv_sub hl [0, 1, 2, 3, 4] rfl
            exact join24 _ _ _ _ ⟨l2_x4, (b_l2_x4), (show pFo (iN_arcs.toInt, fN_from, fN_to, fN_room, fN_cost) (w16 (iN_arcs.toInt, fN_from, fN_to, fN_room, fN_cost)) (fun n => (fN_length n).toInt) p1.toInt.toNat p1.toInt (l3_x4.toInt.toNat + 1) l2_x4.toInt from by first | exact pFo.no hFo (hon.elim (fun h9 => absurd h9.1 (by omega)) (fun h9 => h9.2)) | (have exT : ((tTo (iN_arcs.toInt, fN_from, fN_to, fN_room, fN_cost) l3_x4.toInt.toNat : Nat) : Int) = v123.toInt := (by rw [b1_v123]; show (((fN_to l3_x4.toInt.toNat).toInt.toNat : Nat) : Int) = _; have h9 := b_fN_to l3_x4.toInt.toNat; show (((fN_to l3_x4.toInt.toNat).toInt.toNat : Nat) : Int) = (fN_to l3_x4.toInt.toNat).toInt; omega); exact pFo.take hFo (hon.elim (fun h9 => h9.2) (fun h9 => absurd h9.1 t_63)) exT.symm (Or.inl t_68) (fun e9 => by have h9 := (hon.elim (fun h9 => h9.2) (fun h9 => absurd h9.1 t_63)); have h8 : (fN_length (tTo (iN_arcs.toInt, fN_from, fN_to, fN_room, fN_cost) l3_x4.toInt.toNat)).toInt + (16 * tCo (iN_arcs.toInt, fN_from, fN_to, fN_room, fN_cost) l3_x4.toInt.toNat + 1) = (fN_length p1.toInt.toNat).toInt := h9.2.2.2; have h7 := (hVal l3_x4.toInt.toNat h9.1).2.2; have h6 : tTo (iN_arcs.toInt, fN_from, fN_to, fN_room, fN_cost) l3_x4.toInt.toNat = p1.toInt.toNat := (by omega); rw [h6] at h8; omega)) | (have exT : ((tTo (iN_arcs.toInt, fN_from, fN_to, fN_room, fN_cost) l3_x4.toInt.toNat : Nat) : Int) = v123.toInt := (by rw [b1_v123]; show (((fN_to l3_x4.toInt.toNat).toInt.toNat : Nat) : Int) = _; have h9 := b_fN_to l3_x4.toInt.toNat; show (((fN_to l3_x4.toInt.toNat).toInt.toNat : Nat) : Int) = (fN_to l3_x4.toInt.toNat).toInt; omega); have exU : ((tTo (iN_arcs.toInt, fN_from, fN_to, fN_room, fN_cost) l3_x4.toInt.toNat : Nat) : Int) = v122.toInt := (by rw [b1_v122]; show (((fN_to l3_x4.toInt.toNat).toInt.toNat : Nat) : Int) = _; have h9 := b_fN_to l3_x4.toInt.toNat; show (((fN_to l3_x4.toInt.toNat).toInt.toNat : Nat) : Int) = (fN_to l3_x4.toInt.toNat).toInt; omega); exact pFo.take hFo (hon.elim (fun h9 => h9.2) (fun h9 => absurd h9.1 t_63)) exT.symm (Or.inr (by omega)) (fun e9 => by have h9 := (hon.elim (fun h9 => h9.2) (fun h9 => absurd h9.1 t_63)); have h8 : (fN_length (tTo (iN_arcs.toInt, fN_from, fN_to, fN_room, fN_cost) l3_x4.toInt.toNat)).toInt + (16 * tCo (iN_arcs.toInt, fN_from, fN_to, fN_room, fN_cost) l3_x4.toInt.toNat + 1) = (fN_length p1.toInt.toNat).toInt := h9.2.2.2; have h7 := (hVal l3_x4.toInt.toNat h9.1).2.2; have h6 : tTo (iN_arcs.toInt, fN_from, fN_to, fN_room, fN_cost) l3_x4.toInt.toNat = p1.toInt.toNat := (by omega); rw [h6] at h8; omega)) | (have exT : ((tTo (iN_arcs.toInt, fN_from, fN_to, fN_room, fN_cost) l3_x4.toInt.toNat : Nat) : Int) = v122.toInt := (by rw [b1_v122]; show (((fN_to l3_x4.toInt.toNat).toInt.toNat : Nat) : Int) = _; have h9 := b_fN_to l3_x4.toInt.toNat; show (((fN_to l3_x4.toInt.toNat).toInt.toNat : Nat) : Int) = (fN_to l3_x4.toInt.toNat).toInt; omega); exact pFo.keep hFo t_68 (by rw [exT]; omega))), rfl, hP, hD, hS, hl⟩
          · have t_63 : ¬ k0_j23.toInt = 0 := toI_neq c_63 rfl (by decide : (0 : Int32).toInt = 0)
            refine lv_iload_n hx hb dX2_nextNode_66 rfl (lv_at hl 2 rfl) ?_
            refine lv_iload_n hx hb dX2_nextNode_67 rfl (lv_at hl 4 rfl) ?_
            refine lv_icmp_eq (tgt := 81) hx hb dX2_nextNode_68 (by decide) (fun c_68 => ?_) (fun c_68 => ?_)
            · have t_68 : l2_x4.toInt = p1.toInt := toI_eq c_68 rfl rfl
              refine lv_aload_n hx hb dX2_nextNode_81 rfl (lv_at hl 3 rfl) ?_
              refine va_get (D := (dC, dI)) (ci := 2) (v := .ref (aN 1)) (C := RX2) (T := TX2) (N := 14) hx hb hts iwsMX2_nextNode_in2 hown hK hP 0 rfl rfl 2 (by decide) (hts _ hm_m_X2_nextNode_1) (fun _ h9 => h9) rfl dX2_nextNode_82 ?_
              refine lv_iload_n hx hb dX2_nextNode_85 rfl (lv_at hl 1 rfl) ?_
              refine va_iald (cA := kN 1) (n := 40) (f := fN_to) hx hb hK hP 2 1 rfl rfl (vp_in_iff.mpr ⟨b_l3_x4.1, (by omega)⟩) dX2_nextNode_86 ?_
              refine lv_topi (fun v124 hv124 => ?_)
              have b_v124 : 0 ≤ v124.toInt ∧ v124.toInt ≤ 11 := by rw [hv124]; exact b_fN_to _
              have b1_v124 : v124 = fN_to (l3_x4).toNatClampNeg := hv124
              clear hv124
              refine lv_istore_n hx hb dX2_nextNode_87 rfl hl (by decide) rfl (fun ls (hl : lv_has ls _ ([(2, .int v124), (4, .int k0_j23), (3, .int l3_x4), (0, .ref (hN 0)), (1, .int p1)])) => ?_)
              have hl : lv_has _ _ ([(4, .int k0_j23), (3, .int l3_x4), (2, .int v124), (0, .ref (hN 0)), (1, .int p1)]) := lv_sub hl [1, 2, 0, 3, 4] rfl
              exact join24 _ _ _ _ ⟨v124, (b_v124), (show pFo (iN_arcs.toInt, fN_from, fN_to, fN_room, fN_cost) (w16 (iN_arcs.toInt, fN_from, fN_to, fN_room, fN_cost)) (fun n => (fN_length n).toInt) p1.toInt.toNat p1.toInt (l3_x4.toInt.toNat + 1) v124.toInt from by first | exact pFo.no hFo (hon.elim (fun h9 => absurd h9.1 (by omega)) (fun h9 => h9.2)) | (have exT : ((tTo (iN_arcs.toInt, fN_from, fN_to, fN_room, fN_cost) l3_x4.toInt.toNat : Nat) : Int) = v124.toInt := (by rw [b1_v124]; show (((fN_to l3_x4.toInt.toNat).toInt.toNat : Nat) : Int) = _; have h9 := b_fN_to l3_x4.toInt.toNat; show (((fN_to l3_x4.toInt.toNat).toInt.toNat : Nat) : Int) = (fN_to l3_x4.toInt.toNat).toInt; omega); exact pFo.take hFo (hon.elim (fun h9 => h9.2) (fun h9 => absurd h9.1 t_63)) exT.symm (Or.inl t_68) (fun e9 => by have h9 := (hon.elim (fun h9 => h9.2) (fun h9 => absurd h9.1 t_63)); have h8 : (fN_length (tTo (iN_arcs.toInt, fN_from, fN_to, fN_room, fN_cost) l3_x4.toInt.toNat)).toInt + (16 * tCo (iN_arcs.toInt, fN_from, fN_to, fN_room, fN_cost) l3_x4.toInt.toNat + 1) = (fN_length p1.toInt.toNat).toInt := h9.2.2.2; have h7 := (hVal l3_x4.toInt.toNat h9.1).2.2; have h6 : tTo (iN_arcs.toInt, fN_from, fN_to, fN_room, fN_cost) l3_x4.toInt.toNat = p1.toInt.toNat := (by omega); rw [h6] at h8; omega)) | (have exT : ((tTo (iN_arcs.toInt, fN_from, fN_to, fN_room, fN_cost) l3_x4.toInt.toNat : Nat) : Int) = v124.toInt := (by rw [b1_v124]; show (((fN_to l3_x4.toInt.toNat).toInt.toNat : Nat) : Int) = _; have h9 := b_fN_to l3_x4.toInt.toNat; show (((fN_to l3_x4.toInt.toNat).toInt.toNat : Nat) : Int) = (fN_to l3_x4.toInt.toNat).toInt; omega); have exU : ((tTo (iN_arcs.toInt, fN_from, fN_to, fN_room, fN_cost) l3_x4.toInt.toNat : Nat) : Int) = v122.toInt := (by rw [b1_v122]; show (((fN_to l3_x4.toInt.toNat).toInt.toNat : Nat) : Int) = _; have h9 := b_fN_to l3_x4.toInt.toNat; show (((fN_to l3_x4.toInt.toNat).toInt.toNat : Nat) : Int) = (fN_to l3_x4.toInt.toNat).toInt; omega); exact pFo.take hFo (hon.elim (fun h9 => h9.2) (fun h9 => absurd h9.1 t_63)) exT.symm (Or.inr (by omega)) (fun e9 => by have h9 := (hon.elim (fun h9 => h9.2) (fun h9 => absurd h9.1 t_63)); have h8 : (fN_length (tTo (iN_arcs.toInt, fN_from, fN_to, fN_room, fN_cost) l3_x4.toInt.toNat)).toInt + (16 * tCo (iN_arcs.toInt, fN_from, fN_to, fN_room, fN_cost) l3_x4.toInt.toNat + 1) = (fN_length p1.toInt.toNat).toInt := h9.2.2.2; have h7 := (hVal l3_x4.toInt.toNat h9.1).2.2; have h6 : tTo (iN_arcs.toInt, fN_from, fN_to, fN_room, fN_cost) l3_x4.toInt.toNat = p1.toInt.toNat := (by omega); rw [h6] at h8; omega)) | (have exT : ((tTo (iN_arcs.toInt, fN_from, fN_to, fN_room, fN_cost) l3_x4.toInt.toNat : Nat) : Int) = v122.toInt := (by rw [b1_v122]; show (((fN_to l3_x4.toInt.toNat).toInt.toNat : Nat) : Int) = _; have h9 := b_fN_to l3_x4.toInt.toNat; show (((fN_to l3_x4.toInt.toNat).toInt.toNat : Nat) : Int) = (fN_to l3_x4.toInt.toNat).toInt; omega); exact pFo.keep hFo t_68 (by rw [exT]; omega))), rfl, hP, hD, hS, hl⟩
            · have t_68 : ¬ l2_x4.toInt = p1.toInt := toI_neq c_68 rfl rfl
              refine lv_aload_n hx hb dX2_nextNode_71 rfl (lv_at hl 3 rfl) ?_
              refine va_get (D := (dC, dI)) (ci := 2) (v := .ref (aN 1)) (C := RX2) (T := TX2) (N := 14) hx hb hts iwsMX2_nextNode_in2 hown hK hP 0 rfl rfl 2 (by decide) (hts _ hm_m_X2_nextNode_1) (fun _ h9 => h9) rfl dX2_nextNode_72 ?_
              refine lv_iload_n hx hb dX2_nextNode_75 rfl (lv_at hl 1 rfl) ?_
              refine va_iald (cA := kN 1) (n := 40) (f := fN_to) hx hb hK hP 2 1 rfl rfl (vp_in_iff.mpr ⟨b_l3_x4.1, (by omega)⟩) dX2_nextNode_76 ?_
              refine lv_topi (fun v125 hv125 => ?_)
              have b_v125 : 0 ≤ v125.toInt ∧ v125.toInt ≤ 11 := by rw [hv125]; exact b_fN_to _
              have b1_v125 : v125 = fN_to (l3_x4).toNatClampNeg := hv125
              clear hv125
              refine lv_iload_n hx hb dX2_nextNode_77 rfl (lv_at hl 2 rfl) ?_
              refine lv_icmp_ge (tgt := 88) hx hb dX2_nextNode_78 (by decide) (fun c_78 => ?_) (fun c_78 => ?_)
              · have t_78 : v125.toInt ≥ l2_x4.toInt := toI_ge c_78 rfl rfl
                have hl : lv_has _ _ ([(4, .int k0_j23), (3, .int l3_x4), (2, .int l2_x4), (0, .ref (hN 0)), (1, .int p1)]) := lv_sub hl [0, 1, 2, 3, 4] rfl
                exact join24 _ _ _ _ ⟨l2_x4, (b_l2_x4), (show pFo (iN_arcs.toInt, fN_from, fN_to, fN_room, fN_cost) (w16 (iN_arcs.toInt, fN_from, fN_to, fN_room, fN_cost)) (fun n => (fN_length n).toInt) p1.toInt.toNat p1.toInt (l3_x4.toInt.toNat + 1) l2_x4.toInt from by first | exact pFo.no hFo (hon.elim (fun h9 => absurd h9.1 (by omega)) (fun h9 => h9.2)) | (have exT : ((tTo (iN_arcs.toInt, fN_from, fN_to, fN_room, fN_cost) l3_x4.toInt.toNat : Nat) : Int) = v124.toInt := (by rw [b1_v124]; show (((fN_to l3_x4.toInt.toNat).toInt.toNat : Nat) : Int) = _; have h9 := b_fN_to l3_x4.toInt.toNat; show (((fN_to l3_x4.toInt.toNat).toInt.toNat : Nat) : Int) = (fN_to l3_x4.toInt.toNat).toInt; omega); exact pFo.take hFo (hon.elim (fun h9 => h9.2) (fun h9 => absurd h9.1 t_63)) exT.symm (Or.inl t_68) (fun e9 => by have h9 := (hon.elim (fun h9 => h9.2) (fun h9 => absurd h9.1 t_63)); have h8 : (fN_length (tTo (iN_arcs.toInt, fN_from, fN_to, fN_room, fN_cost) l3_x4.toInt.toNat)).toInt + (16 * tCo (iN_arcs.toInt, fN_from, fN_to, fN_room, fN_cost) l3_x4.toInt.toNat + 1) = (fN_length p1.toInt.toNat).toInt := h9.2.2.2; have h7 := (hVal l3_x4.toInt.toNat h9.1).2.2; have h6 : tTo (iN_arcs.toInt, fN_from, fN_to, fN_room, fN_cost) l3_x4.toInt.toNat = p1.toInt.toNat := (by omega); rw [h6] at h8; omega)) | (have exT : ((tTo (iN_arcs.toInt, fN_from, fN_to, fN_room, fN_cost) l3_x4.toInt.toNat : Nat) : Int) = v124.toInt := (by rw [b1_v124]; show (((fN_to l3_x4.toInt.toNat).toInt.toNat : Nat) : Int) = _; have h9 := b_fN_to l3_x4.toInt.toNat; show (((fN_to l3_x4.toInt.toNat).toInt.toNat : Nat) : Int) = (fN_to l3_x4.toInt.toNat).toInt; omega); have exU : ((tTo (iN_arcs.toInt, fN_from, fN_to, fN_room, fN_cost) l3_x4.toInt.toNat : Nat) : Int) = v125.toInt := (by rw [b1_v125]; show (((fN_to l3_x4.toInt.toNat).toInt.toNat : Nat) : Int) = _; have h9 := b_fN_to l3_x4.toInt.toNat; show (((fN_to l3_x4.toInt.toNat).toInt.toNat : Nat) : Int) = (fN_to l3_x4.toInt.toNat).toInt; omega); exact pFo.take hFo (hon.elim (fun h9 => h9.2) (fun h9 => absurd h9.1 t_63)) exT.symm (Or.inr (by omega)) (fun e9 => by have h9 := (hon.elim (fun h9 => h9.2) (fun h9 => absurd h9.1 t_63)); have h8 : (fN_length (tTo (iN_arcs.toInt, fN_from, fN_to, fN_room, fN_cost) l3_x4.toInt.toNat)).toInt + (16 * tCo (iN_arcs.toInt, fN_from, fN_to, fN_room, fN_cost) l3_x4.toInt.toNat + 1) = (fN_length p1.toInt.toNat).toInt := h9.2.2.2; have h7 := (hVal l3_x4.toInt.toNat h9.1).2.2; have h6 : tTo (iN_arcs.toInt, fN_from, fN_to, fN_room, fN_cost) l3_x4.toInt.toNat = p1.toInt.toNat := (by omega); rw [h6] at h8; omega)) | (have exT : ((tTo (iN_arcs.toInt, fN_from, fN_to, fN_room, fN_cost) l3_x4.toInt.toNat : Nat) : Int) = v125.toInt := (by rw [b1_v125]; show (((fN_to l3_x4.toInt.toNat).toInt.toNat : Nat) : Int) = _; have h9 := b_fN_to l3_x4.toInt.toNat; show (((fN_to l3_x4.toInt.toNat).toInt.toNat : Nat) : Int) = (fN_to l3_x4.toInt.toNat).toInt; omega); exact pFo.keep hFo t_68 (by rw [exT]; omega))), rfl, hP, hD, hS, hl⟩
              · have t_78 : ¬ v125.toInt ≥ l2_x4.toInt := toI_nge c_78 rfl rfl
                refine lv_aload_n hx hb dX2_nextNode_81 rfl (lv_at hl 3 rfl) ?_
                refine va_get (D := (dC, dI)) (ci := 2) (v := .ref (aN 1)) (C := RX2) (T := TX2) (N := 14) hx hb hts iwsMX2_nextNode_in2 hown hK hP 0 rfl rfl 2 (by decide) (hts _ hm_m_X2_nextNode_1) (fun _ h9 => h9) rfl dX2_nextNode_82 ?_
                refine lv_iload_n hx hb dX2_nextNode_85 rfl (lv_at hl 1 rfl) ?_
                refine va_iald (cA := kN 1) (n := 40) (f := fN_to) hx hb hK hP 2 1 rfl rfl (vp_in_iff.mpr ⟨b_l3_x4.1, (by omega)⟩) dX2_nextNode_86 ?_
                refine lv_topi (fun v126 hv126 => ?_)
                have b_v126 : 0 ≤ v126.toInt ∧ v126.toInt ≤ 11 := by rw [hv126]; exact b_fN_to _
                have b1_v126 : v126 = fN_to (l3_x4).toNatClampNeg := hv126
                clear hv126
                refine lv_istore_n hx hb dX2_nextNode_87 rfl hl (by decide) rfl (fun ls (hl : lv_has ls _ ([(2, .int v126), (4, .int k0_j23), (3, .int l3_x4), (0, .ref (hN 0)), (1, .int p1)])) => ?_)
                have hl : lv_has _ _ ([(4, .int k0_j23), (3, .int l3_x4), (2, .int v126), (0, .ref (hN 0)), (1, .int p1)]) := lv_sub hl [1, 2, 0, 3, 4] rfl
                exact join24 _ _ _ _ ⟨v126, (b_v126), (show pFo (iN_arcs.toInt, fN_from, fN_to, fN_room, fN_cost) (w16 (iN_arcs.toInt, fN_from, fN_to, fN_room, fN_cost)) (fun n => (fN_length n).toInt) p1.toInt.toNat p1.toInt (l3_x4.toInt.toNat + 1) v126.toInt from by first | exact pFo.no hFo (hon.elim (fun h9 => absurd h9.1 (by omega)) (fun h9 => h9.2)) | (have exT : ((tTo (iN_arcs.toInt, fN_from, fN_to, fN_room, fN_cost) l3_x4.toInt.toNat : Nat) : Int) = v126.toInt := (by rw [b1_v126]; show (((fN_to l3_x4.toInt.toNat).toInt.toNat : Nat) : Int) = _; have h9 := b_fN_to l3_x4.toInt.toNat; show (((fN_to l3_x4.toInt.toNat).toInt.toNat : Nat) : Int) = (fN_to l3_x4.toInt.toNat).toInt; omega); exact pFo.take hFo (hon.elim (fun h9 => h9.2) (fun h9 => absurd h9.1 t_63)) exT.symm (Or.inl t_68) (fun e9 => by have h9 := (hon.elim (fun h9 => h9.2) (fun h9 => absurd h9.1 t_63)); have h8 : (fN_length (tTo (iN_arcs.toInt, fN_from, fN_to, fN_room, fN_cost) l3_x4.toInt.toNat)).toInt + (16 * tCo (iN_arcs.toInt, fN_from, fN_to, fN_room, fN_cost) l3_x4.toInt.toNat + 1) = (fN_length p1.toInt.toNat).toInt := h9.2.2.2; have h7 := (hVal l3_x4.toInt.toNat h9.1).2.2; have h6 : tTo (iN_arcs.toInt, fN_from, fN_to, fN_room, fN_cost) l3_x4.toInt.toNat = p1.toInt.toNat := (by omega); rw [h6] at h8; omega)) | (have exT : ((tTo (iN_arcs.toInt, fN_from, fN_to, fN_room, fN_cost) l3_x4.toInt.toNat : Nat) : Int) = v126.toInt := (by rw [b1_v126]; show (((fN_to l3_x4.toInt.toNat).toInt.toNat : Nat) : Int) = _; have h9 := b_fN_to l3_x4.toInt.toNat; show (((fN_to l3_x4.toInt.toNat).toInt.toNat : Nat) : Int) = (fN_to l3_x4.toInt.toNat).toInt; omega); have exU : ((tTo (iN_arcs.toInt, fN_from, fN_to, fN_room, fN_cost) l3_x4.toInt.toNat : Nat) : Int) = v125.toInt := (by rw [b1_v125]; show (((fN_to l3_x4.toInt.toNat).toInt.toNat : Nat) : Int) = _; have h9 := b_fN_to l3_x4.toInt.toNat; show (((fN_to l3_x4.toInt.toNat).toInt.toNat : Nat) : Int) = (fN_to l3_x4.toInt.toNat).toInt; omega); exact pFo.take hFo (hon.elim (fun h9 => h9.2) (fun h9 => absurd h9.1 t_63)) exT.symm (Or.inr (by omega)) (fun e9 => by have h9 := (hon.elim (fun h9 => h9.2) (fun h9 => absurd h9.1 t_63)); have h8 : (fN_length (tTo (iN_arcs.toInt, fN_from, fN_to, fN_room, fN_cost) l3_x4.toInt.toNat)).toInt + (16 * tCo (iN_arcs.toInt, fN_from, fN_to, fN_room, fN_cost) l3_x4.toInt.toNat + 1) = (fN_length p1.toInt.toNat).toInt := h9.2.2.2; have h7 := (hVal l3_x4.toInt.toNat h9.1).2.2; have h6 : tTo (iN_arcs.toInt, fN_from, fN_to, fN_room, fN_cost) l3_x4.toInt.toNat = p1.toInt.toNat := (by omega); rw [h6] at h8; omega)) | (have exT : ((tTo (iN_arcs.toInt, fN_from, fN_to, fN_room, fN_cost) l3_x4.toInt.toNat : Nat) : Int) = v125.toInt := (by rw [b1_v125]; show (((fN_to l3_x4.toInt.toNat).toInt.toNat : Nat) : Int) = _; have h9 := b_fN_to l3_x4.toInt.toNat; show (((fN_to l3_x4.toInt.toNat).toInt.toNat : Nat) : Int) = (fN_to l3_x4.toInt.toNat).toInt; omega); exact pFo.keep hFo t_68 (by rw [exT]; omega))), rfl, hP, hD, hS, hl⟩
        · intro H locs ls stk
          refine fz_e1 ?_
          intro l2_j24
          refine fz_a7 ?_
          intro b_l2_j24 hF8 hst9_2 hP hD hS hl
          subst hst9_2
          refine lv_iinc (v := (iI (l3_x4.toInt + 1))) hx hb dX2_nextNode_88 hl (k := 1) rfl (iI_add2 (iI_of _) (by decide : (1 : Int32) = iI 1)) (by decide) rfl (fun ls (hl : lv_has ls _ ([(3, .int (iI (l3_x4.toInt + 1))), (4, .int k0_j23), (2, .int l2_j24), (0, .ref (hN 0)), (1, .int p1)])) => ?_)
          refine lv_goto (tgt := 4) hx hb dX2_nextNode_91 (by decide) ?_
          have hl : lv_has _ _ ([(3, .int (iI (l3_x4.toInt + 1))), (2, .int l2_j24), (0, .ref (hN 0)), (1, .int p1)]) := lv_sub hl [0, 2, 3, 4] rfl
          exact ihx4 (iI (l3_x4.toInt + 1)) l2_j24 _ _ _ (iI_rng (Int.le_trans (by decide) (Int.add_le_add (b_l3_x4.1) (Int.le_refl _))) (by omega) (by decide) (by decide)) (b_l2_j24) (show pFo (iN_arcs.toInt, fN_from, fN_to, fN_room, fN_cost) (w16 (iN_arcs.toInt, fN_from, fN_to, fN_room, fN_cost)) (fun n => (fN_length n).toInt) p1.toInt.toNat p1.toInt (iI (l3_x4.toInt + 1)).toInt.toNat l2_j24.toInt from by rw [iI_t (by omega) (by omega), show (l3_x4.toInt + 1).toNat = l3_x4.toInt.toNat + 1 from by omega]; exact hF8) (by have e9 : ((iI (l3_x4.toInt + 1))).toInt = (l3_x4.toInt + 1) := (iI_t (Int.le_trans (by decide) (Int.add_le_add (b_l3_x4.1) (Int.le_refl _))) (Int.le_trans (Int.add_le_add (b_l3_x4.2) (Int.le_refl _)) (by decide))); omega) hP hD hS hl
theorem dX2_shortest_0 : decode cX2_shortest 0 = .ok (.aload_n 0, 1) := dk_42 (by decide +kernel)
theorem dX2_shortest_1 : decode cX2_shortest 1 = .ok (.iload_n 2, 1) := dk_28 (by decide +kernel)
theorem dX2_shortest_2 : decode cX2_shortest 2 = .ok (.invokevirtual 78, 3) := dk_182 (by decide +kernel)
theorem dX2_shortest_5 : decode cX2_shortest 5 = .ok (.aload_n 0, 1) := dk_42 (by decide +kernel)
theorem dX2_shortest_6 : decode cX2_shortest 6 = .ok (.getfield 33, 3) := dk_180 (by decide +kernel)
theorem dX2_shortest_9 : decode cX2_shortest 9 = .ok (.iload_n 1, 1) := dk_27 (by decide +kernel)
theorem dX2_shortest_10 : decode cX2_shortest 10 = .ok (.iaload, 1) := dk_46 (by decide +kernel)
theorem dX2_shortest_11 : decode cX2_shortest 11 = .ok (.ldc 60, 2) := dk_18 (by decide +kernel)
theorem dX2_shortest_13 : decode cX2_shortest 13 = .ok (.if_icmp .lt 7, 3) := dk_161 (by decide +kernel)
theorem dX2_shortest_16 : decode cX2_shortest 16 = .ok (.iconst 1, 1) := dk_4 (by decide +kernel)
theorem dX2_shortest_17 : decode cX2_shortest 17 = .ok (.goto 4, 3) := dk_167 (by decide +kernel)
theorem dX2_shortest_20 : decode cX2_shortest 20 = .ok (.iconst 0, 1) := dk_3 (by decide +kernel)
theorem dX2_shortest_21 : decode cX2_shortest 21 = .ok (.istore 4, 2) := dk_54 (by decide +kernel)
theorem dX2_shortest_23 : decode cX2_shortest 23 = .ok (.iload_n 3, 1) := dk_29 (by decide +kernel)
theorem dX2_shortest_24 : decode cX2_shortest 24 = .ok (.bipush (-2), 2) := dk_16 (by decide +kernel)
theorem dX2_shortest_26 : decode cX2_shortest 26 = .ok (.if_icmp .ne 22, 3) := dk_160 (by decide +kernel)
theorem dX2_shortest_29 : decode cX2_shortest 29 = .ok (.iload 4, 2) := dk_21 (by decide +kernel)
theorem dX2_shortest_31 : decode cX2_shortest 31 = .ok (.ifCond .eq 7, 3) := dk_153 (by decide +kernel)
theorem dX2_shortest_34 : decode cX2_shortest 34 = .ok (.iconst (-1), 1) := dk_2 (by decide +kernel)
theorem dX2_shortest_35 : decode cX2_shortest 35 = .ok (.goto 12, 3) := dk_167 (by decide +kernel)
theorem dX2_shortest_38 : decode cX2_shortest 38 = .ok (.aload_n 0, 1) := dk_42 (by decide +kernel)
theorem dX2_shortest_39 : decode cX2_shortest 39 = .ok (.getfield 33, 3) := dk_180 (by decide +kernel)
theorem dX2_shortest_42 : decode cX2_shortest 42 = .ok (.iload_n 1, 1) := dk_27 (by decide +kernel)
theorem dX2_shortest_43 : decode cX2_shortest 43 = .ok (.iaload, 1) := dk_46 (by decide +kernel)
theorem dX2_shortest_44 : decode cX2_shortest 44 = .ok (.bipush 16, 2) := dk_16 (by decide +kernel)
theorem dX2_shortest_46 : decode cX2_shortest 46 = .ok (.idiv, 1) := dk_108 (by decide +kernel)
theorem dX2_shortest_47 : decode cX2_shortest 47 = .ok (.ireturn, 1) := dk_172 (by decide +kernel)
theorem dX2_shortest_48 : decode cX2_shortest 48 = .ok (.iload 4, 2) := dk_21 (by decide +kernel)
theorem dX2_shortest_50 : decode cX2_shortest 50 = .ok (.ifCond .eq 7, 3) := dk_153 (by decide +kernel)
theorem dX2_shortest_53 : decode cX2_shortest 53 = .ok (.iconst 0, 1) := dk_3 (by decide +kernel)
theorem dX2_shortest_54 : decode cX2_shortest 54 = .ok (.goto 14, 3) := dk_167 (by decide +kernel)
theorem dX2_shortest_57 : decode cX2_shortest 57 = .ok (.aload_n 0, 1) := dk_42 (by decide +kernel)
theorem dX2_shortest_58 : decode cX2_shortest 58 = .ok (.getfield 33, 3) := dk_180 (by decide +kernel)
theorem dX2_shortest_61 : decode cX2_shortest 61 = .ok (.iload_n 1, 1) := dk_27 (by decide +kernel)
theorem dX2_shortest_62 : decode cX2_shortest 62 = .ok (.iaload, 1) := dk_46 (by decide +kernel)
theorem dX2_shortest_63 : decode cX2_shortest 63 = .ok (.bipush 16, 2) := dk_16 (by decide +kernel)
theorem dX2_shortest_65 : decode cX2_shortest 65 = .ok (.irem, 1) := dk_112 (by decide +kernel)
theorem dX2_shortest_66 : decode cX2_shortest 66 = .ok (.iconst 1, 1) := dk_4 (by decide +kernel)
theorem dX2_shortest_67 : decode cX2_shortest 67 = .ok (.iadd, 1) := dk_96 (by decide +kernel)
theorem dX2_shortest_68 : decode cX2_shortest 68 = .ok (.istore 5, 2) := dk_54 (by decide +kernel)
theorem dX2_shortest_70 : decode cX2_shortest 70 = .ok (.iload_n 3, 1) := dk_29 (by decide +kernel)
theorem dX2_shortest_71 : decode cX2_shortest 71 = .ok (.bipush (-3), 2) := dk_16 (by decide +kernel)
theorem dX2_shortest_73 : decode cX2_shortest 73 = .ok (.if_icmp .ne 6, 3) := dk_160 (by decide +kernel)
theorem dX2_shortest_76 : decode cX2_shortest 76 = .ok (.iload 5, 2) := dk_21 (by decide +kernel)
theorem dX2_shortest_78 : decode cX2_shortest 78 = .ok (.ireturn, 1) := dk_172 (by decide +kernel)
theorem dX2_shortest_79 : decode cX2_shortest 79 = .ok (.iload_n 3, 1) := dk_29 (by decide +kernel)
theorem dX2_shortest_80 : decode cX2_shortest 80 = .ok (.ifCond .lt 9, 3) := dk_155 (by decide +kernel)
theorem dX2_shortest_83 : decode cX2_shortest 83 = .ok (.iload_n 3, 1) := dk_29 (by decide +kernel)
theorem dX2_shortest_84 : decode cX2_shortest 84 = .ok (.iload 5, 2) := dk_21 (by decide +kernel)
theorem dX2_shortest_86 : decode cX2_shortest 86 = .ok (.if_icmp .lt 5, 3) := dk_161 (by decide +kernel)
theorem dX2_shortest_89 : decode cX2_shortest 89 = .ok (.iconst (-1), 1) := dk_2 (by decide +kernel)
theorem dX2_shortest_90 : decode cX2_shortest 90 = .ok (.ireturn, 1) := dk_172 (by decide +kernel)
theorem dX2_shortest_91 : decode cX2_shortest 91 = .ok (.iload_n 1, 1) := dk_27 (by decide +kernel)
theorem dX2_shortest_92 : decode cX2_shortest 92 = .ok (.istore 6, 2) := dk_54 (by decide +kernel)
theorem dX2_shortest_94 : decode cX2_shortest 94 = .ok (.iconst 0, 1) := dk_3 (by decide +kernel)
theorem dX2_shortest_95 : decode cX2_shortest 95 = .ok (.istore 7, 2) := dk_54 (by decide +kernel)
theorem dX2_shortest_97 : decode cX2_shortest 97 = .ok (.iload 7, 2) := dk_21 (by decide +kernel)
theorem dX2_shortest_99 : decode cX2_shortest 99 = .ok (.iload_n 3, 1) := dk_29 (by decide +kernel)
theorem dX2_shortest_100 : decode cX2_shortest 100 = .ok (.if_icmp .ge 17, 3) := dk_162 (by decide +kernel)
theorem dX2_shortest_103 : decode cX2_shortest 103 = .ok (.aload_n 0, 1) := dk_42 (by decide +kernel)
theorem dX2_shortest_104 : decode cX2_shortest 104 = .ok (.iload 6, 2) := dk_21 (by decide +kernel)
theorem dX2_shortest_106 : decode cX2_shortest 106 = .ok (.invokevirtual 81, 3) := dk_182 (by decide +kernel)
theorem dX2_shortest_109 : decode cX2_shortest 109 = .ok (.istore 6, 2) := dk_54 (by decide +kernel)
theorem dX2_shortest_111 : decode cX2_shortest 111 = .ok (.iinc 7 1, 3) := dk_132 (by decide +kernel)
theorem dX2_shortest_114 : decode cX2_shortest 114 = .ok (.goto (-17), 3) := dk_167 (by decide +kernel)
theorem dX2_shortest_117 : decode cX2_shortest 117 = .ok (.iload 6, 2) := dk_21 (by decide +kernel)
theorem dX2_shortest_119 : decode cX2_shortest 119 = .ok (.ireturn, 1) := dk_172 (by decide +kernel)
def wsMX2_shortest : List Cond := .code yX2_shortest cX2_shortest 8 (some .int) :: ([.fieldLink RX2 33 "OptimaWorks$NetDesk" "length" "[I", .constant RX2 60 536870912] ++ wsX20 ++ (wsV RX2 78 RX2 yX2_measureBack wsMX2_measureBack) ++ (wsV RX2 81 RX2 yX2_nextNode wsMX2_nextNode))
theorem iwsMX2_shortest_in2 : ∀ w ∈ wsX20, w ∈ wsMX2_shortest := fun _ h => List.mem_cons_of_mem _ (List.mem_append_left _ (List.mem_append_left _ (List.mem_append_right _ h)))
theorem gwsMX2_shortest_0 : GoodIn wsMX2_shortest (wsV RX2 78 RX2 yX2_measureBack wsMX2_measureBack) := goodIn_sub (fun _ h => List.mem_cons_of_mem _ (List.mem_append_left _ (List.mem_append_right _ h))) (gdV (by decide +kernel) gdwsMX2_measureBack)
theorem gwsMX2_shortest_1 : GoodIn wsMX2_shortest (wsV RX2 81 RX2 yX2_nextNode wsMX2_nextNode) := goodIn_sub (fun _ h => List.mem_cons_of_mem _ (List.mem_append_right _ h)) (gdV (by decide +kernel) gdwsMX2_nextNode)
theorem gdwsMX2_shortest : wsMX2_shortest.all goodWord = true := gdC rfl (gdA (gdA (gdA (by decide +kernel : ([.fieldLink RX2 33 "OptimaWorks$NetDesk" "length" "[I", .constant RX2 60 536870912] : List Cond).all goodWord = true) gdwsX20) (gdV (by decide +kernel) gdwsMX2_measureBack)) (gdV (by decide +kernel) gdwsMX2_nextNode))
theorem hm_m_X2_shortest_0 : (.fieldLink RX2 33 "OptimaWorks$NetDesk" "length" "[I" : Cond) ∈ wsMX2_shortest := by decide +kernel
set_option maxHeartbeats 4000000 in
set_option maxRecDepth 100000 in
/-- a shortest way -/
theorem m_X2_shortest (l : Launch) (dC : Nat → ClassId) (dI : Nat → Nat → Nat) (hN : Nat → Nat) (aN : Nat → Nat) (kN : Nat → ClassId) (iN_arcs : Int32) (fN_from : Nat → Int32) (fN_to : Nat → Int32) (fN_room : Nat → Int32) (fN_cost : Nat → Int32) (iN_reached : Int32) (fN_free : Nat → Int32) (fN_before : Nat → Int32) (fN_flow : Nat → Int32) (fN_length : Nat → Int32) (fN_stop : Nat → Int32) (iN_stops : Int32) (fN_price : Nat → Int32) (fN_rest : Nat → Int32) (p1 : Int32) (p2 : Int32) (p3 : Int32) (b_iN_arcs : 0 ≤ iN_arcs.toInt ∧ iN_arcs.toInt ≤ 40) (b_fN_from : ∀ q : Nat, 0 ≤ (fN_from q).toInt ∧ (fN_from q).toInt ≤ 11) (b_fN_to : ∀ q : Nat, 0 ≤ (fN_to q).toInt ∧ (fN_to q).toInt ≤ 11) (b_fN_before : ∀ q : Nat, 0 ≤ (fN_before q).toInt ∧ (fN_before q).toInt ≤ 79) (b_fN_stop : ∀ q : Nat, 0 ≤ (fN_stop q).toInt ∧ (fN_stop q).toInt ≤ 11) (b_iN_stops : 0 ≤ iN_stops.toInt ∧ iN_stops.toInt ≤ 8) (b_p1 : 0 ≤ p1.toInt ∧ p1.toInt ≤ 11) (b_p2 : 0 ≤ p2.toInt ∧ p2.toInt ≤ 11) (hVal : tVal (iN_arcs.toInt, fN_from, fN_to, fN_room, fN_cost)) (sz : Nat) : Met l yX2_shortest wsMX2_shortest ({ frames := 2, cells := 0, slots := 0, locals := 48 }) (va_Pc [.ref (hN 0), .int p1, .int p2, .int p3] (fun U => U.heap.size = sz ∧ va_P (dC, dI) vwCl (WN hN aN kN iN_arcs fN_from fN_to fN_room fN_cost iN_reached fN_free fN_before fN_flow fN_length fN_stop iN_stops fN_price fN_rest) U.heap ∧ va_K (dC, dI) vwCl (tN kN) U ∧ va_D (fun _ => True) (WN hN aN kN iN_arcs fN_from fN_to fN_room fN_cost iN_reached fN_free fN_before fN_flow fN_length fN_stop iN_stops fN_price fN_rest))) (va_Qi (fun (r : Int32) (u : Nat → Int32) => (pAns (iN_arcs.toInt, fN_from, fN_to, fN_room, fN_cost) p1.toInt.toNat p2.toInt.toNat p3.toInt r.toInt)) (fun (u : Nat → Int32) t => va_P (dC, dI) vwCl (WN hN aN kN iN_arcs fN_from fN_to fN_room fN_cost iN_reached fN_free fN_before fN_flow u fN_stop iN_stops fN_price fN_rest) t.heap ∧ va_D (va_A (WN hN aN kN iN_arcs fN_from fN_to fN_room fN_cost iN_reached fN_free fN_before fN_flow fN_length fN_stop iN_stops fN_price fN_rest) sz) (WN hN aN kN iN_arcs fN_from fN_to fN_room fN_cost iN_reached fN_free fN_before fN_flow u fN_stop iN_stops fN_price fN_rest)) (va_A (WN hN aN kN iN_arcs fN_from fN_to fN_room fN_cost iN_reached fN_free fN_before fN_flow fN_length fN_stop iN_stops fN_price fN_rest) sz)) 0 0 (va_A (WN hN aN kN iN_arcs fN_from fN_to fN_room fN_cost iN_reached fN_free fN_before fN_flow fN_length fN_stop iN_stops fN_price fN_rest) sz) := by
  refine Met.ofW (cc := cX2_shortest) (maxL := 8) (ret := (some .int)) (by decide) rfl ?_
  intro p e s m args below meth c s₁ B hml hv
  obtain ⟨rfl, hsz, hP, hK, hD0⟩ := hv
  have hx := B.exec
  have hb := B.bytes
  have hr := B.returns
  have hts := atoms_spec (ws := wsMX2_shortest) B.pre
  have hown : s.vm.findClass RX2 = some m.cls := findClass_of_methodNamed B.named
  have hlocks := B.notSynchronized
  subst hsz
  have hD := hD0.self (sz := s.heap.size)
  generalize hAe : va_A (WN hN aN kN iN_arcs fN_from fN_to fN_room fN_cost iN_reached fN_free fN_before fN_flow fN_length fN_stop iN_stops fN_price fN_rest) s.heap.size = A at hD ⊢
  have hA : ∀ q : Nat, s.heap.size ≤ q → A q := fun q h => by rw [← hAe]; exact Or.inr h
  have hS : va_S A s.heap s.heap [] := va_S.rf
  have hl := lv_entry ([.ref (hN 0), .int p1, .int p2, .int p3]) (n := 8) (Nat.le_of_ble_eq_true rfl)
  rw [lg_entry_eq]
  generalize (lg_sl ([.ref (hN 0), .int p1, .int p2, .int p3]) ++ List.replicate (8 - (lg_sl ([.ref (hN 0), .int p1, .int p2, .int p3])).length) Slot.unset).toArray = ls at hl ⊢
  have hl : lv_has ls 8 [(0, .ref (hN 0)), (1, .int p1), (2, .int p2), (3, .int p3)] := hl
  have w_p3 := i32_r p3
  refine lv_aload_n hx hb dX2_shortest_0 rfl (lv_at hl 0 rfl) ?_
  refine lv_iload_n hx hb dX2_shortest_1 rfl (lv_at hl 2 rfl) ?_
  have hFc := allFree hD hS hA
  refine va_callv (va_runV (As := [.int p2]) (rest := []) ⟨hx, hb, hml, hown, hts⟩ (m_X2_measureBack l dC dI hN aN kN iN_arcs fN_from fN_to fN_room fN_cost iN_reached fN_free fN_before fN_flow fN_length fN_stop iN_stops fN_price fN_rest p2 (b_iN_arcs) b_fN_from b_fN_to b_fN_before b_fN_stop (b_iN_stops) (b_p2) (hVal) s.heap.size) (cwV 1 hts gwsMX2_shortest_0 rfl rfl rfl hd_yX2_measureBack_RX2 (by decide +kernel)) (fz_pre (va_recv hK hP (ci := 2) (q0 := 0) rfl rfl) hP hK hD) rfl rfl hl.1 rfl (lv_room (Nat.le_of_ble_eq_true rfl)) dX2_shortest_2 (by decide +kernel)) hS (fun q _ h => hFc q h) hFc (fun fN_length_1 t9_ H locs ht hvm hw9 hB9 hz1 hk1 hS => ?_)
  have f1_0 := hw9
  try dsimp only at f1_0
  have hP : va_P (dC, dI) vwCl (WN hN aN kN iN_arcs fN_from fN_to fN_room fN_cost iN_reached fN_free fN_before fN_flow fN_length_1 fN_stop iN_stops fN_price fN_rest) H := fz_P ht hB9.1
  have hD := fz_sd hP (hB9.2.weaken (fun _ q _ h => hFc q.1 h)) rfl
  have hDis := f1_0
  have hB9 := hDis.1.2
  refine lv_aload_n hx hb dX2_shortest_5 rfl (lv_at hl 0 rfl) ?_
  refine va_get (D := (dC, dI)) (ci := 2) (v := .ref (aN 7)) (C := RX2) (T := TX2) (N := 14) hx hb hts iwsMX2_shortest_in2 hown hK hP 0 rfl rfl 9 (by decide) (hts _ hm_m_X2_shortest_0) (fun _ h9 => h9) rfl dX2_shortest_6 ?_
  refine lv_iload_n hx hb dX2_shortest_9 rfl (lv_at hl 1 rfl) ?_
  refine va_iald (cA := kN 7) (n := 12) (f := fN_length_1) hx hb hK hP 8 7 rfl rfl (vp_in_iff.mpr ⟨b_p1.1, (Int.lt_of_le_of_lt (b_p1.2) (by decide))⟩) dX2_shortest_10 ?_
  refine lv_topi (fun v2 hv2 => ?_)
  have b_v2 : 0 ≤ v2.toInt ∧ v2.toInt ≤ 536870912 := by rw [hv2]; exact hB9 _ (show (p1).toNatClampNeg < 12 from by have h9 : (p1).toNatClampNeg = p1.toInt.toNat := rfl; omega)
  have b1_v2 : v2 = fN_length_1 (p1).toNatClampNeg := hv2
  clear hv2
  refine lv_ldc (v := 536870912) hx hb hown (hts (.constant RX2 60 536870912) (by decide +kernel)) dX2_shortest_11 ?_
  refine W.cut (pc := 21) (fun H locs ls stk => ∃ (k0_j3 : Int32), (0 ≤ k0_j3.toInt ∧ k0_j3.toInt ≤ 1) ∧ ((k0_j3.toInt = 1 ∧ (¬ (fN_length_1 p1.toInt.toNat).toInt < 536870912)) ∨ (k0_j3.toInt = 0 ∧ ¬ (¬ (fN_length_1 p1.toInt.toNat).toInt < 536870912))) ∧  stk = [.int k0_j3] ∧ va_P (dC, dI) vwCl (WN hN aN kN iN_arcs fN_from fN_to fN_room fN_cost iN_reached fN_free fN_before fN_flow fN_length_1 fN_stop iN_stops fN_price fN_rest) H ∧ va_D A (WN hN aN kN iN_arcs fN_from fN_to fN_room fN_cost iN_reached fN_free fN_before fN_flow fN_length_1 fN_stop iN_stops fN_price fN_rest) ∧ va_S A s.heap H locs ∧ lv_has ls 8 [(0, .ref (hN 0)), (1, .int p1), (2, .int p2), (3, .int p3)]) (fun join3 => ?_) ?_
  · refine lv_icmp_lt (tgt := 20) hx hb dX2_shortest_13 (by decide) (fun c_13 => ?_) (fun c_13 => ?_)
    · have t_13 : v2.toInt < 536870912 := toI_lt c_13 rfl (by decide : (536870912 : Int32).toInt = 536870912)
      refine lv_iconst (v := 0) hx hb dX2_shortest_20 (by decide) ?_
      have hl : lv_has _ _ ([(0, .ref (hN 0)), (1, .int p1), (2, .int p2), (3, .int p3)]) := lv_sub hl [0, 1, 2, 3] rfl
      exact join3 _ _ _ _ ⟨0, (show 0 ≤ (0 : Int32).toInt ∧ (0 : Int32).toInt ≤ 1 from by decide), (show ((0 : Int32).toInt = 1 ∧ (¬ (fN_length_1 p1.toInt.toNat).toInt < 536870912)) ∨ ((0 : Int32).toInt = 0 ∧ ¬ (¬ (fN_length_1 p1.toInt.toNat).toInt < 536870912)) from by have exS : (fN_length_1 p1.toInt.toNat).toInt = v2.toInt := (by rw [b1_v2]; rfl); first | exact Or.inl ⟨by decide, by rw [exS]; omega⟩ | exact Or.inr ⟨by decide, by rw [exS]; omega⟩), rfl, hP, hD, hS, hl⟩
    · have t_13 : ¬ v2.toInt < 536870912 := toI_nlt c_13 rfl (by decide : (536870912 : Int32).toInt = 536870912)
      refine lv_iconst (v := 1) hx hb dX2_shortest_16 (by decide) ?_
      refine lv_goto (tgt := 21) hx hb dX2_shortest_17 (by decide) ?_
      have hl : lv_has _ _ ([(0, .ref (hN 0)), (1, .int p1), (2, .int p2), (3, .int p3)]) := lv_sub hl [0, 1, 2, 3] rfl
      exact join3 _ _ _ _ ⟨1, (show 0 ≤ (1 : Int32).toInt ∧ (1 : Int32).toInt ≤ 1 from by decide), (show ((1 : Int32).toInt = 1 ∧ (¬ (fN_length_1 p1.toInt.toNat).toInt < 536870912)) ∨ ((1 : Int32).toInt = 0 ∧ ¬ (¬ (fN_length_1 p1.toInt.toNat).toInt < 536870912)) from by have exS : (fN_length_1 p1.toInt.toNat).toInt = v2.toInt := (by rw [b1_v2]; rfl); first | exact Or.inl ⟨by decide, by rw [exS]; omega⟩ | exact Or.inr ⟨by decide, by rw [exS]; omega⟩), rfl, hP, hD, hS, hl⟩
  · intro H locs ls stk
    refine fz_e1 ?_
    intro k0_j3
    refine fz_a7 ?_
    intro b_k0_j3 hnone hst9_2 hP hD hS hl
    subst hst9_2
    refine lv_istore hx hb dX2_shortest_21 hl (by decide) rfl (fun ls (hl : lv_has ls _ ([(4, .int k0_j3), (0, .ref (hN 0)), (1, .int p1), (2, .int p2), (3, .int p3)])) => ?_)
    refine lv_iload_n hx hb dX2_shortest_23 rfl (lv_at hl 4 rfl) ?_
    refine lv_bipush (v := (-2)) hx hb dX2_shortest_24 (by decide) ?_
    refine lv_icmp_ne (tgt := 48) hx hb dX2_shortest_26 (by decide) (fun c_26 => ?_) (fun c_26 => ?_)
    · have t_26 : p3.toInt ≠ (-2) := toI_ne c_26 rfl (by decide : ((-2) : Int32).toInt = (-2))
      refine lv_iload hx hb dX2_shortest_48 (lv_at hl 0 rfl) ?_
      refine W.cut (pc := 68) (fun H locs ls stk => ∃ (k0_j4 : Int32), ((¬ (fN_length_1 p1.toInt.toNat).toInt < 536870912 ∧ k0_j4.toInt = 0) ∨ ((fN_length_1 p1.toInt.toNat).toInt < 536870912 ∧ k0_j4.toInt = (fN_length_1 p1.toInt.toNat).toInt % 16 + 1)) ∧  stk = [.int k0_j4] ∧ va_P (dC, dI) vwCl (WN hN aN kN iN_arcs fN_from fN_to fN_room fN_cost iN_reached fN_free fN_before fN_flow fN_length_1 fN_stop iN_stops fN_price fN_rest) H ∧ va_D A (WN hN aN kN iN_arcs fN_from fN_to fN_room fN_cost iN_reached fN_free fN_before fN_flow fN_length_1 fN_stop iN_stops fN_price fN_rest) ∧ va_S A s.heap H locs ∧ lv_has ls 8 [(4, .int k0_j3), (0, .ref (hN 0)), (1, .int p1), (2, .int p2), (3, .int p3)]) (fun join4 => ?_) ?_
      · refine lv_if_eq (tgt := 57) hx hb dX2_shortest_50 (by decide) (fun c_50 => ?_) (fun c_50 => ?_)
        · have t_50 : k0_j3.toInt = 0 := toI_eq c_50 rfl (by decide : (0 : Int32).toInt = 0)
          refine lv_aload_n hx hb dX2_shortest_57 rfl (lv_at hl 1 rfl) ?_
          refine va_get (D := (dC, dI)) (ci := 2) (v := .ref (aN 7)) (C := RX2) (T := TX2) (N := 14) hx hb hts iwsMX2_shortest_in2 hown hK hP 0 rfl rfl 9 (by decide) (hts _ hm_m_X2_shortest_0) (fun _ h9 => h9) rfl dX2_shortest_58 ?_
          refine lv_iload_n hx hb dX2_shortest_61 rfl (lv_at hl 2 rfl) ?_
          refine va_iald (cA := kN 7) (n := 12) (f := fN_length_1) hx hb hK hP 8 7 rfl rfl (vp_in_iff.mpr ⟨b_p1.1, (Int.lt_of_le_of_lt (b_p1.2) (by decide))⟩) dX2_shortest_62 ?_
          refine lv_topi (fun v6 hv6 => ?_)
          have b_v6 : 0 ≤ v6.toInt ∧ v6.toInt ≤ 536870912 := by rw [hv6]; exact hB9 _ (show (p1).toNatClampNeg < 12 from by have h9 : (p1).toNatClampNeg = p1.toInt.toNat := rfl; omega)
          have b1_v6 : v6 = fN_length_1 (p1).toNatClampNeg := hv6
          clear hv6
          refine lv_bipush (v := 16) hx hb dX2_shortest_63 (by decide) ?_
          refine lv_irem hx hb dX2_shortest_65 (by decide) ?_
          refine lv_topi (fun v7 hv7 => ?_)
          have b_v7 : 0 ≤ v7.toInt ∧ v7.toInt < 16 := by rw [hv7]; exact irem_r rfl (by decide : (16 : Int32).toInt = 16) (by omega) (by omega)
          have b1_v7 : v7.toInt = (fN_length_1 p1.toInt.toNat).toInt % 16 := by rw [hv7]; exact (by rw [rm16 (by omega), b1_v6]; rfl)
          clear hv7
          refine lv_iconst (v := 1) hx hb dX2_shortest_66 (by decide) ?_
          refine lv_iadd hx hb dX2_shortest_67 ?_
          refine lv_topi (fun y8 hy8 => ?_)
          obtain rfl : (iI (v7.toInt + 1)) = y8 := (hy8.trans (iI_add2 (iI_of _) (by decide : (1 : Int32) = iI 1))).symm
          have hl : lv_has _ _ ([(4, .int k0_j3), (0, .ref (hN 0)), (1, .int p1), (2, .int p2), (3, .int p3)]) := lv_sub hl [0, 1, 2, 3, 4] rfl
          exact join4 _ _ _ _ ⟨(iI (v7.toInt + 1)), (show (¬ (fN_length_1 p1.toInt.toNat).toInt < 536870912 ∧ (iI (v7.toInt + 1)).toInt = 0) ∨ ((fN_length_1 p1.toInt.toNat).toInt < 536870912 ∧ (iI (v7.toInt + 1)).toInt = (fN_length_1 p1.toInt.toNat).toInt % 16 + 1) from by first | exact Or.inl ⟨hnone.elim (fun h9 => h9.2) (fun h9 => absurd h9.1 (by omega)), by decide⟩ | (have h9 : (fN_length_1 p1.toInt.toNat).toInt < 536870912 := Decidable.not_not.mp (hnone.elim (fun h9 => absurd h9.1 (by omega)) (fun h9 => h9.2)); exact Or.inr ⟨h9, by rw [iI_t (by omega) (by omega), b1_v7]⟩)), rfl, hP, hD, hS, hl⟩
        · have t_50 : ¬ k0_j3.toInt = 0 := toI_neq c_50 rfl (by decide : (0 : Int32).toInt = 0)
          refine lv_iconst (v := 0) hx hb dX2_shortest_53 (by decide) ?_
          refine lv_goto (tgt := 68) hx hb dX2_shortest_54 (by decide) ?_
          have hl : lv_has _ _ ([(4, .int k0_j3), (0, .ref (hN 0)), (1, .int p1), (2, .int p2), (3, .int p3)]) := lv_sub hl [0, 1, 2, 3, 4] rfl
          exact join4 _ _ _ _ ⟨0, (show (¬ (fN_length_1 p1.toInt.toNat).toInt < 536870912 ∧ (0 : Int32).toInt = 0) ∨ ((fN_length_1 p1.toInt.toNat).toInt < 536870912 ∧ (0 : Int32).toInt = (fN_length_1 p1.toInt.toNat).toInt % 16 + 1) from by first | exact Or.inl ⟨hnone.elim (fun h9 => h9.2) (fun h9 => absurd h9.1 (by omega)), by decide⟩ | (have h9 : (fN_length_1 p1.toInt.toNat).toInt < 536870912 := Decidable.not_not.mp (hnone.elim (fun h9 => absurd h9.1 (by omega)) (fun h9 => h9.2)); exact Or.inr ⟨h9, by rw [iI_t (by omega) (by omega), b1_v7]⟩)), rfl, hP, hD, hS, hl⟩
      · rintro H locs ls stk ⟨k0_j4, hnod, rfl, hP, hD, hS, hl⟩
        refine lv_istore hx hb dX2_shortest_68 hl (by decide) rfl (fun ls (hl : lv_has ls _ ([(5, .int k0_j4), (4, .int k0_j3), (0, .ref (hN 0)), (1, .int p1), (2, .int p2), (3, .int p3)])) => ?_)
        refine lv_iload_n hx hb dX2_shortest_70 rfl (lv_at hl 5 rfl) ?_
        refine lv_bipush (v := (-3)) hx hb dX2_shortest_71 (by decide) ?_
        refine lv_icmp_ne (tgt := 79) hx hb dX2_shortest_73 (by decide) (fun c_73 => ?_) (fun c_73 => ?_)
        · have t_73 : p3.toInt ≠ (-3) := toI_ne c_73 rfl (by decide : ((-3) : Int32).toInt = (-3))
          refine lv_iload_n hx hb dX2_shortest_79 rfl (lv_at hl 5 rfl) ?_
          refine lv_if_lt (tgt := 89) hx hb dX2_shortest_80 (by decide) (fun c_80 => ?_) (fun c_80 => ?_)
          · have t_80 : p3.toInt < 0 := toI_lt c_80 rfl (by decide : (0 : Int32).toInt = 0)
            refine lv_iconst (v := (-1)) hx hb dX2_shortest_89 (by decide) ?_
            refine W.widen (k := 0) (n := 0) (by decide +kernel) (by decide +kernel) ?_
            exact W.iret (v := (-1)) hx hb hr (fun t9_ ht hW => ⟨⟨((-1) : Int32), fN_length_1, rfl, (by (try dsimp only); exact (⟨(fun n => (fN_length_1 n).toInt), hDis, (hnod.elim (fun h9 => Or.inl ⟨h9.1, Or.inr ⟨by omega, by decide⟩⟩) (fun h9 => Or.inr ⟨h9.1, by first | exact Or.inr (Or.inr (Or.inl ⟨by omega, by omega, by omega, by decide⟩)) | exact Or.inr (Or.inr (Or.inr (Or.inl ⟨by omega, (show (fN_length_1 p1.toInt.toNat).toInt % 16 < p3.toInt from by omega), by decide⟩)))⟩))⟩)), by rw [ht]; exact hP, hD⟩, hS.F ht⟩) hS.2.2 dX2_shortest_90
          · have t_80 : ¬ p3.toInt < 0 := toI_nlt c_80 rfl (by decide : (0 : Int32).toInt = 0)
            refine lv_iload_n hx hb dX2_shortest_83 rfl (lv_at hl 5 rfl) ?_
            refine lv_iload hx hb dX2_shortest_84 (lv_at hl 0 rfl) ?_
            refine lv_icmp_lt (tgt := 91) hx hb dX2_shortest_86 (by decide) (fun c_86 => ?_) (fun c_86 => ?_)
            · have t_86 : p3.toInt < k0_j4.toInt := toI_lt c_86 rfl rfl
              refine lv_iload_n hx hb dX2_shortest_91 rfl (lv_at hl 3 rfl) ?_
              refine lv_istore hx hb dX2_shortest_92 hl (by decide) rfl (fun ls (hl : lv_has ls _ ([(6, .int p1), (5, .int k0_j4), (4, .int k0_j3), (0, .ref (hN 0)), (1, .int p1), (2, .int p2), (3, .int p3)])) => ?_)
              refine lv_iconst (v := 0) hx hb dX2_shortest_94 (by decide) ?_
              refine lv_istore hx hb dX2_shortest_95 hl (by decide) rfl (fun ls (hl : lv_has ls _ ([(7, .int 0), (6, .int p1), (5, .int k0_j4), (4, .int k0_j3), (0, .ref (hN 0)), (1, .int p1), (2, .int p2), (3, .int p3)])) => ?_)
              have hl : lv_has _ _ ([(7, .int 0), (6, .int p1), (5, .int k0_j4), (4, .int k0_j3), (0, .ref (hN 0)), (1, .int p1), (2, .int p2), (3, .int p3)]) := lv_sub hl [0, 1, 2, 3, 4, 5, 6, 7] rfl
              refine (fun (loop : ∀ (n9 : Nat) (l7_x97 : Int32) (l6_x97 : Int32) (H : Heap) (locs : List Loc) (ls : Array Slot), (0 ≤ l7_x97.toInt ∧ l7_x97.toInt ≤ 2147483647) → (0 ≤ l6_x97.toInt ∧ l6_x97.toInt ≤ 11) → (pWay (iN_arcs.toInt, fN_from, fN_to, fN_room, fN_cost) (w16 (iN_arcs.toInt, fN_from, fN_to, fN_room, fN_cost)) p2.toInt.toNat (fun n => (fN_length_1 n).toInt) p1.toInt.toNat l7_x97.toInt.toNat l6_x97.toInt.toNat ∧ l6_x97.toInt ≤ 11 ∧ (fN_length_1 l6_x97.toInt.toNat).toInt < 536870912 ∧ (fN_length_1 l6_x97.toInt.toNat).toInt % 16 = (fN_length_1 p1.toInt.toNat).toInt % 16 - l7_x97.toInt ∧ (fN_length_1 p1.toInt.toNat).toInt < 536870912) → (l7_x97.toInt ≤ p3.toInt) → (2147483647 - l7_x97.toInt < ((n9 : Nat) : Int)) → va_P (dC, dI) vwCl (WN hN aN kN iN_arcs fN_from fN_to fN_room fN_cost iN_reached fN_free fN_before fN_flow fN_length_1 fN_stop iN_stops fN_price fN_rest) H → va_D A (WN hN aN kN iN_arcs fN_from fN_to fN_room fN_cost iN_reached fN_free fN_before fN_flow fN_length_1 fN_stop iN_stops fN_price fN_rest) → va_S A s.heap H locs → lv_has ls 8 [(7, .int l7_x97), (6, .int l6_x97), (5, .int k0_j4), (4, .int k0_j3), (0, .ref (hN 0)), (1, .int p1), (2, .int p2), (3, .int p3)] → W p l e _ s m _ below meth c H locs 0 0 _ (F0 m 97 ls [])) => loop (2147483648) 0 p1 _ _ _ (show 0 ≤ (0 : Int32).toInt ∧ (0 : Int32).toInt ≤ 2147483647 from by decide) (b_p1) (show pWay (iN_arcs.toInt, fN_from, fN_to, fN_room, fN_cost) (w16 (iN_arcs.toInt, fN_from, fN_to, fN_room, fN_cost)) p2.toInt.toNat (fun n => (fN_length_1 n).toInt) p1.toInt.toNat (0 : Int32).toInt.toNat p1.toInt.toNat ∧ p1.toInt ≤ 11 ∧ (fN_length_1 p1.toInt.toNat).toInt < 536870912 ∧ (fN_length_1 p1.toInt.toNat).toInt % 16 = (fN_length_1 p1.toInt.toNat).toInt % 16 - (0 : Int32).toInt ∧ (fN_length_1 p1.toInt.toNat).toInt < 536870912 from (hnod.elim (fun h9 => by omega) (fun h9 => ⟨rfl, by omega, h9.1, by have h7 : (0 : Int32).toInt = 0 := (by decide); omega, h9.1⟩))) (show (0 : Int32).toInt ≤ p3.toInt from by have h7 : (0 : Int32).toInt = 0 := (by decide); omega) ((by have e9 : (0 : Int32).toInt = 0 := (by decide : (0 : Int32).toInt = 0); omega)) hP hD hS hl) ?_
              intro n9
              induction n9 with
              | zero => intro l7_x97 l6_x97 H locs ls b_l7_x97 b_l6_x97 hWs hir hf9; exact False.elim (by omega)
              | succ n9 ihx97 =>
                intro l7_x97 l6_x97 H locs ls b_l7_x97 b_l6_x97 hWs hir hfx97 hP hD hS hl
                refine lv_iload hx hb dX2_shortest_97 (lv_at hl 0 rfl) ?_
                refine lv_iload_n hx hb dX2_shortest_99 rfl (lv_at hl 7 rfl) ?_
                refine lv_icmp_ge (tgt := 117) hx hb dX2_shortest_100 (by decide) (fun c_100 => ?_) (fun c_100 => ?_)
                · have t_100 : l7_x97.toInt ≥ p3.toInt := toI_ge c_100 rfl rfl
                  refine lv_iload hx hb dX2_shortest_117 (lv_at hl 1 rfl) ?_
                  refine W.widen (k := 0) (n := 0) (by decide +kernel) (by decide +kernel) ?_
                  exact W.iret (v := l6_x97) hx hb hr (fun t9_ ht hW => ⟨⟨l6_x97, fN_length_1, rfl, (by (try dsimp only); exact (⟨(fun n => (fN_length_1 n).toInt), hDis, Or.inr ⟨hWs.2.2.2.2, Or.inr (Or.inr (Or.inr (Or.inr ⟨by omega, (show p3.toInt ≤ (fN_length_1 p1.toInt.toNat).toInt % 16 from by omega), by omega, by rw [show p3.toInt.toNat = l7_x97.toInt.toNat from by omega]; exact hWs.1⟩)))⟩⟩)), by rw [ht]; exact hP, hD⟩, hS.F ht⟩) hS.2.2 dX2_shortest_119
                · have t_100 : ¬ l7_x97.toInt ≥ p3.toInt := toI_nge c_100 rfl rfl
                  have hnt9 : l6_x97.toInt.toNat ≠ p2.toInt.toNat := fun e9 => by have h8 := hWs.2.2.2.1; have h7 : (fN_length_1 l6_x97.toInt.toNat).toInt = 0 := (by rw [e9]; exact hDis.1.1); rw [h7] at h8; omega
                  refine lv_aload_n hx hb dX2_shortest_103 rfl (lv_at hl 4 rfl) ?_
                  refine lv_iload hx hb dX2_shortest_104 (lv_at hl 1 rfl) ?_
                  have hFc := allFree hD hS hA
                  refine va_calli (va_runV (As := [.int l6_x97]) (rest := []) ⟨hx, hb, hml, hown, hts⟩ (m_X2_nextNode l dC dI hN aN kN iN_arcs fN_from fN_to fN_room fN_cost iN_reached fN_free fN_before fN_flow fN_length_1 fN_stop iN_stops fN_price fN_rest l6_x97 (b_iN_arcs) b_fN_from b_fN_to b_fN_before b_fN_stop (b_iN_stops) (b_l6_x97) (hVal) (hB9) H.size) (cwV 1 hts gwsMX2_shortest_1 rfl rfl rfl hd_yX2_nextNode_RX2 (by decide +kernel)) (fz_pre (va_recv hK hP (ci := 2) (q0 := 0) rfl rfl) hP hK hD) rfl rfl hl.1 rfl (lv_room (Nat.le_of_ble_eq_true rfl)) dX2_shortest_106 (by decide +kernel)) hS (fun q _ h => hFc q h) hFc (fun r14 u t9_ H locs ht hvm hw9 hB9 hz1 hk1 hS => ?_)
                  revert hw9
                  refine fz_a2 ?_
                  intro b_r14 f14_0
                  have hP : va_P (dC, dI) vwCl (WN hN aN kN iN_arcs fN_from fN_to fN_room fN_cost iN_reached fN_free fN_before fN_flow fN_length_1 fN_stop iN_stops fN_price fN_rest) H := fz_P ht hB9.1
                  have hD := fz_sd hP (hB9.2.weaken (fun _ q _ h => hFc q.1 h)) rfl
                  have hnx9 := f14_0 (hDis.some (show l6_x97.toInt.toNat < 12 from by omega) hnt9 hWs.2.2.1)
                  have hst9 := pNx.s16 hVal hDis (show l6_x97.toInt.toNat < 12 from by omega) hWs.2.2.1 hnx9
                  refine lv_istore hx hb dX2_shortest_109 hl (by decide) rfl (fun ls (hl : lv_has ls _ ([(6, .int r14), (7, .int l7_x97), (5, .int k0_j4), (4, .int k0_j3), (0, .ref (hN 0)), (1, .int p1), (2, .int p2), (3, .int p3)])) => ?_)
                  refine lv_iinc (v := (iI (l7_x97.toInt + 1))) hx hb dX2_shortest_111 hl (k := 1) rfl (iI_add2 (iI_of _) (by decide : (1 : Int32) = iI 1)) (by decide) rfl (fun ls (hl : lv_has ls _ ([(7, .int (iI (l7_x97.toInt + 1))), (6, .int r14), (5, .int k0_j4), (4, .int k0_j3), (0, .ref (hN 0)), (1, .int p1), (2, .int p2), (3, .int p3)])) => ?_)
                  refine lv_goto (tgt := 97) hx hb dX2_shortest_114 (by decide) ?_
                  have hl : lv_has _ _ ([(7, .int (iI (l7_x97.toInt + 1))), (6, .int r14), (5, .int k0_j4), (4, .int k0_j3), (0, .ref (hN 0)), (1, .int p1), (2, .int p2), (3, .int p3)]) := lv_sub hl [0, 1, 2, 3, 4, 5, 6, 7] rfl
                  exact ihx97 (iI (l7_x97.toInt + 1)) r14 _ _ _ (iI_rng (Int.le_trans (by decide) (Int.add_le_add (b_l7_x97.1) (Int.le_refl _))) (by omega) (by decide) (by decide)) (by first | exact b_r14 | with_reducible assumption | exact ⟨by omega, by omega⟩ | assumption) (show pWay (iN_arcs.toInt, fN_from, fN_to, fN_room, fN_cost) (w16 (iN_arcs.toInt, fN_from, fN_to, fN_room, fN_cost)) p2.toInt.toNat (fun n => (fN_length_1 n).toInt) p1.toInt.toNat (iI (l7_x97.toInt + 1)).toInt.toNat r14.toInt.toNat ∧ r14.toInt ≤ 11 ∧ (fN_length_1 r14.toInt.toNat).toInt < 536870912 ∧ (fN_length_1 r14.toInt.toNat).toInt % 16 = (fN_length_1 p1.toInt.toNat).toInt % 16 - (iI (l7_x97.toInt + 1)).toInt ∧ (fN_length_1 p1.toInt.toNat).toInt < 536870912 from by rw [iI_t (by omega) (by omega), show (l7_x97.toInt + 1).toNat = l7_x97.toInt.toNat + 1 from by omega]; exact ⟨⟨l6_x97.toInt.toNat, hWs.1, hnt9, hnx9⟩, by omega, hst9.2.1, by have h8 := hst9.2.2; have h7 := hWs.2.2.2.1; omega, hWs.2.2.2.2⟩) (show (iI (l7_x97.toInt + 1)).toInt ≤ p3.toInt from by rw [iI_t (by omega) (by omega)]; omega) (by have e9 : ((iI (l7_x97.toInt + 1))).toInt = (l7_x97.toInt + 1) := (iI_t (Int.le_trans (by decide) (Int.add_le_add (b_l7_x97.1) (Int.le_refl _))) (by omega)); omega) hP hD hS hl
            · have t_86 : ¬ p3.toInt < k0_j4.toInt := toI_nlt c_86 rfl rfl
              refine lv_iconst (v := (-1)) hx hb dX2_shortest_89 (by decide) ?_
              refine W.widen (k := 0) (n := 0) (by decide +kernel) (by decide +kernel) ?_
              exact W.iret (v := (-1)) hx hb hr (fun t9_ ht hW => ⟨⟨((-1) : Int32), fN_length_1, rfl, (by (try dsimp only); exact (⟨(fun n => (fN_length_1 n).toInt), hDis, (hnod.elim (fun h9 => Or.inl ⟨h9.1, Or.inr ⟨by omega, by decide⟩⟩) (fun h9 => Or.inr ⟨h9.1, by first | exact Or.inr (Or.inr (Or.inl ⟨by omega, by omega, by omega, by decide⟩)) | exact Or.inr (Or.inr (Or.inr (Or.inl ⟨by omega, (show (fN_length_1 p1.toInt.toNat).toInt % 16 < p3.toInt from by omega), by decide⟩)))⟩))⟩)), by rw [ht]; exact hP, hD⟩, hS.F ht⟩) hS.2.2 dX2_shortest_90
        · have t_73 : p3.toInt = (-3) := toI_nne c_73 rfl (by decide : ((-3) : Int32).toInt = (-3))
          refine lv_iload hx hb dX2_shortest_76 (lv_at hl 0 rfl) ?_
          refine W.widen (k := 0) (n := 0) (by decide +kernel) (by decide +kernel) ?_
          exact W.iret (v := k0_j4) hx hb hr (fun t9_ ht hW => ⟨⟨k0_j4, fN_length_1, rfl, (by (try dsimp only); exact (⟨(fun n => (fN_length_1 n).toInt), hDis, (hnod.elim (fun h9 => Or.inl ⟨h9.1, Or.inl ⟨by omega, h9.2⟩⟩) (fun h9 => Or.inr ⟨h9.1, Or.inr (Or.inl ⟨by omega, h9.2⟩)⟩))⟩)), by rw [ht]; exact hP, hD⟩, hS.F ht⟩) hS.2.2 dX2_shortest_78
    · have t_26 : p3.toInt = (-2) := toI_nne c_26 rfl (by decide : ((-2) : Int32).toInt = (-2))
      refine lv_iload hx hb dX2_shortest_29 (lv_at hl 0 rfl) ?_
      refine lv_if_eq (tgt := 38) hx hb dX2_shortest_31 (by decide) (fun c_31 => ?_) (fun c_31 => ?_)
      · have t_31 : k0_j3.toInt = 0 := toI_eq c_31 rfl (by decide : (0 : Int32).toInt = 0)
        refine lv_aload_n hx hb dX2_shortest_38 rfl (lv_at hl 1 rfl) ?_
        refine va_get (D := (dC, dI)) (ci := 2) (v := .ref (aN 7)) (C := RX2) (T := TX2) (N := 14) hx hb hts iwsMX2_shortest_in2 hown hK hP 0 rfl rfl 9 (by decide) (hts _ hm_m_X2_shortest_0) (fun _ h9 => h9) rfl dX2_shortest_39 ?_
        refine lv_iload_n hx hb dX2_shortest_42 rfl (lv_at hl 2 rfl) ?_
        refine va_iald (cA := kN 7) (n := 12) (f := fN_length_1) hx hb hK hP 8 7 rfl rfl (vp_in_iff.mpr ⟨b_p1.1, (Int.lt_of_le_of_lt (b_p1.2) (by decide))⟩) dX2_shortest_43 ?_
        refine lv_topi (fun v15 hv15 => ?_)
        have b_v15 : 0 ≤ v15.toInt ∧ v15.toInt ≤ 536870912 := by rw [hv15]; exact hB9 _ (show (p1).toNatClampNeg < 12 from by have h9 : (p1).toNatClampNeg = p1.toInt.toNat := rfl; omega)
        have b1_v15 : v15 = fN_length_1 (p1).toNatClampNeg := hv15
        clear hv15
        refine lv_bipush (v := 16) hx hb dX2_shortest_44 (by decide) ?_
        refine lv_idiv hx hb dX2_shortest_46 (by decide) ?_
        refine lv_topi (fun v16 hv16 => ?_)
        have b_v16 : 0 ≤ v16.toInt ∧ v16.toInt ≤ v15.toInt := by rw [hv16]; exact idiv_r rfl (by decide : (16 : Int32).toInt = 16) (by omega) (by omega)
        have b1_v16 : v16.toInt = (fN_length_1 p1.toInt.toNat).toInt / 16 := by rw [hv16]; exact (by rw [dv16 (by omega), b1_v15]; rfl)
        clear hv16
        refine W.widen (k := 0) (n := 0) (by decide +kernel) (by decide +kernel) ?_
        exact W.iret (v := v16) hx hb hr (fun t9_ ht hW => ⟨⟨v16, fN_length_1, rfl, (by (try dsimp only); exact (⟨(fun n => (fN_length_1 n).toInt), hDis, Or.inr ⟨(hnone.elim (fun h9 => absurd h9.1 (by omega)) (fun h9 => Decidable.not_not.mp h9.2)), Or.inl ⟨by omega, b1_v16⟩⟩⟩)), by rw [ht]; exact hP, hD⟩, hS.F ht⟩) hS.2.2 dX2_shortest_47
      · have t_31 : ¬ k0_j3.toInt = 0 := toI_neq c_31 rfl (by decide : (0 : Int32).toInt = 0)
        refine lv_iconst (v := (-1)) hx hb dX2_shortest_34 (by decide) ?_
        refine lv_goto (tgt := 47) hx hb dX2_shortest_35 (by decide) ?_
        refine W.widen (k := 0) (n := 0) (by decide +kernel) (by decide +kernel) ?_
        exact W.iret (v := (-1)) hx hb hr (fun t9_ ht hW => ⟨⟨((-1) : Int32), fN_length_1, rfl, (by (try dsimp only); exact (⟨(fun n => (fN_length_1 n).toInt), hDis, Or.inl ⟨(hnone.elim (fun h9 => h9.2) (fun h9 => absurd h9.1 (by omega))), Or.inr ⟨by omega, by decide⟩⟩⟩)), by rw [ht]; exact hP, hD⟩, hS.F ht⟩) hS.2.2 dX2_shortest_47
theorem dX2_cheapestUnseen_0 : decode cX2_cheapestUnseen 0 = .ok (.iconst (-1), 1) := dk_2 (by decide +kernel)
theorem dX2_cheapestUnseen_1 : decode cX2_cheapestUnseen 1 = .ok (.istore_n 3, 1) := dk_62 (by decide +kernel)
theorem dX2_cheapestUnseen_2 : decode cX2_cheapestUnseen 2 = .ok (.iconst 0, 1) := dk_3 (by decide +kernel)
theorem dX2_cheapestUnseen_3 : decode cX2_cheapestUnseen 3 = .ok (.istore 4, 2) := dk_54 (by decide +kernel)
theorem dX2_cheapestUnseen_5 : decode cX2_cheapestUnseen 5 = .ok (.iload 4, 2) := dk_21 (by decide +kernel)
theorem dX2_cheapestUnseen_7 : decode cX2_cheapestUnseen 7 = .ok (.aload_n 0, 1) := dk_42 (by decide +kernel)
theorem dX2_cheapestUnseen_8 : decode cX2_cheapestUnseen 8 = .ok (.getfield 45, 3) := dk_180 (by decide +kernel)
theorem dX2_cheapestUnseen_11 : decode cX2_cheapestUnseen 11 = .ok (.if_icmp .ge 44, 3) := dk_162 (by decide +kernel)
theorem dX2_cheapestUnseen_14 : decode cX2_cheapestUnseen 14 = .ok (.lload_n 1, 1) := dk_31 (by decide +kernel)
theorem dX2_cheapestUnseen_15 : decode cX2_cheapestUnseen 15 = .ok (.iload 4, 2) := dk_21 (by decide +kernel)
theorem dX2_cheapestUnseen_17 : decode cX2_cheapestUnseen 17 = .ok (.lshr, 1) := dk_123 (by decide +kernel)
theorem dX2_cheapestUnseen_18 : decode cX2_cheapestUnseen 18 = .ok (.lconst 1, 1) := dk_10 (by decide +kernel)
theorem dX2_cheapestUnseen_19 : decode cX2_cheapestUnseen 19 = .ok (.land, 1) := dk_127 (by decide +kernel)
theorem dX2_cheapestUnseen_20 : decode cX2_cheapestUnseen 20 = .ok (.lconst 0, 1) := dk_9 (by decide +kernel)
theorem dX2_cheapestUnseen_21 : decode cX2_cheapestUnseen 21 = .ok (.lcmp, 1) := dk_148 (by decide +kernel)
theorem dX2_cheapestUnseen_22 : decode cX2_cheapestUnseen 22 = .ok (.ifCond .ne 27, 3) := dk_154 (by decide +kernel)
theorem dX2_cheapestUnseen_25 : decode cX2_cheapestUnseen 25 = .ok (.iload_n 3, 1) := dk_29 (by decide +kernel)
theorem dX2_cheapestUnseen_26 : decode cX2_cheapestUnseen 26 = .ok (.iconst (-1), 1) := dk_2 (by decide +kernel)
theorem dX2_cheapestUnseen_27 : decode cX2_cheapestUnseen 27 = .ok (.if_icmp .eq 19, 3) := dk_159 (by decide +kernel)
theorem dX2_cheapestUnseen_30 : decode cX2_cheapestUnseen 30 = .ok (.aload_n 0, 1) := dk_42 (by decide +kernel)
theorem dX2_cheapestUnseen_31 : decode cX2_cheapestUnseen 31 = .ok (.getfield 21, 3) := dk_180 (by decide +kernel)
theorem dX2_cheapestUnseen_34 : decode cX2_cheapestUnseen 34 = .ok (.iload 4, 2) := dk_21 (by decide +kernel)
theorem dX2_cheapestUnseen_36 : decode cX2_cheapestUnseen 36 = .ok (.iaload, 1) := dk_46 (by decide +kernel)
theorem dX2_cheapestUnseen_37 : decode cX2_cheapestUnseen 37 = .ok (.aload_n 0, 1) := dk_42 (by decide +kernel)
theorem dX2_cheapestUnseen_38 : decode cX2_cheapestUnseen 38 = .ok (.getfield 21, 3) := dk_180 (by decide +kernel)
theorem dX2_cheapestUnseen_41 : decode cX2_cheapestUnseen 41 = .ok (.iload_n 3, 1) := dk_29 (by decide +kernel)
theorem dX2_cheapestUnseen_42 : decode cX2_cheapestUnseen 42 = .ok (.iaload, 1) := dk_46 (by decide +kernel)
theorem dX2_cheapestUnseen_43 : decode cX2_cheapestUnseen 43 = .ok (.if_icmp .ge 6, 3) := dk_162 (by decide +kernel)
theorem dX2_cheapestUnseen_46 : decode cX2_cheapestUnseen 46 = .ok (.iload 4, 2) := dk_21 (by decide +kernel)
theorem dX2_cheapestUnseen_48 : decode cX2_cheapestUnseen 48 = .ok (.istore_n 3, 1) := dk_62 (by decide +kernel)
theorem dX2_cheapestUnseen_49 : decode cX2_cheapestUnseen 49 = .ok (.iinc 4 1, 3) := dk_132 (by decide +kernel)
theorem dX2_cheapestUnseen_52 : decode cX2_cheapestUnseen 52 = .ok (.goto (-47), 3) := dk_167 (by decide +kernel)
theorem dX2_cheapestUnseen_55 : decode cX2_cheapestUnseen 55 = .ok (.iconst 0, 1) := dk_3 (by decide +kernel)
theorem dX2_cheapestUnseen_56 : decode cX2_cheapestUnseen 56 = .ok (.iload_n 3, 1) := dk_29 (by decide +kernel)
theorem dX2_cheapestUnseen_57 : decode cX2_cheapestUnseen 57 = .ok (.invokestatic 89, 3) := dk_184 (by decide +kernel)
theorem dX2_cheapestUnseen_60 : decode cX2_cheapestUnseen 60 = .ok (.ireturn, 1) := dk_172 (by decide +kernel)
def wsMX2_cheapestUnseen : List Cond := .code yX2_cheapestUnseen cX2_cheapestUnseen 5 (some .int) :: ([.fieldLink RX2 45 "OptimaWorks$NetDesk" "arcs" "I", .methodLink RX2 89 Lib.Math.max.name, .static Lib.Math.max.name, .initialized "java/lang/Math", .code Lib.Math.max.name Lib.Math.max.code 2 (some .int), .fieldLink RX2 21 "OptimaWorks$NetDesk" "cost" "[I"] ++ wsX20)
theorem iwsMX2_cheapestUnseen_in2 : ∀ w ∈ wsX20, w ∈ wsMX2_cheapestUnseen := fun _ h => List.mem_cons_of_mem _ (List.mem_append_right _ h)
theorem gdwsMX2_cheapestUnseen : wsMX2_cheapestUnseen.all goodWord = true := gdC rfl (gdA (by decide +kernel : ([.fieldLink RX2 45 "OptimaWorks$NetDesk" "arcs" "I", .methodLink RX2 89 Lib.Math.max.name, .static Lib.Math.max.name, .initialized "java/lang/Math", .code Lib.Math.max.name Lib.Math.max.code 2 (some .int), .fieldLink RX2 21 "OptimaWorks$NetDesk" "cost" "[I"] : List Cond).all goodWord = true) gdwsX20)
theorem hm_m_X2_cheapestUnseen_0 : (.fieldLink RX2 21 "OptimaWorks$NetDesk" "cost" "[I" : Cond) ∈ wsMX2_cheapestUnseen := by decide +kernel
set_option maxHeartbeats 4000000 in
set_option maxRecDepth 100000 in
/-- the cheapest arc -/
theorem m_X2_cheapestUnseen (l : Launch) (dC : Nat → ClassId) (dI : Nat → Nat → Nat) (hN : Nat → Nat) (aN : Nat → Nat) (kN : Nat → ClassId) (iN_arcs : Int32) (fN_from : Nat → Int32) (fN_to : Nat → Int32) (fN_room : Nat → Int32) (fN_cost : Nat → Int32) (iN_reached : Int32) (fN_free : Nat → Int32) (fN_before : Nat → Int32) (fN_flow : Nat → Int32) (fN_length : Nat → Int32) (fN_stop : Nat → Int32) (iN_stops : Int32) (fN_price : Nat → Int32) (fN_rest : Nat → Int32) (p1 : Int64) (b_iN_arcs : 0 ≤ iN_arcs.toInt ∧ iN_arcs.toInt ≤ 40) (b_fN_from : ∀ q : Nat, 0 ≤ (fN_from q).toInt ∧ (fN_from q).toInt ≤ 11) (b_fN_to : ∀ q : Nat, 0 ≤ (fN_to q).toInt ∧ (fN_to q).toInt ≤ 11) (b_fN_before : ∀ q : Nat, 0 ≤ (fN_before q).toInt ∧ (fN_before q).toInt ≤ 79) (b_fN_stop : ∀ q : Nat, 0 ≤ (fN_stop q).toInt ∧ (fN_stop q).toInt ≤ 11) (b_iN_stops : 0 ≤ iN_stops.toInt ∧ iN_stops.toInt ≤ 8) (sz : Nat) : Met l yX2_cheapestUnseen wsMX2_cheapestUnseen ({ frames := 1, cells := 0, slots := 0, locals := 13 }) (va_Pc [.ref (hN 0), .long p1] (fun U => U.heap.size = sz ∧ va_P (dC, dI) vwCl (WN hN aN kN iN_arcs fN_from fN_to fN_room fN_cost iN_reached fN_free fN_before fN_flow fN_length fN_stop iN_stops fN_price fN_rest) U.heap ∧ va_K (dC, dI) vwCl (tN kN) U ∧ va_D (fun _ => True) (WN hN aN kN iN_arcs fN_from fN_to fN_room fN_cost iN_reached fN_free fN_before fN_flow fN_length fN_stop iN_stops fN_price fN_rest))) (va_Qi (fun (r : Int32) (u : Unit) => (0 ≤ r.toInt ∧ r.toInt ≤ 39) ∧ ((∃ b : Nat, (b : Int) < iN_arcs.toInt ∧ btL p1 b = false) → tLea (iN_arcs.toInt, fN_from, fN_to, fN_room, fN_cost) p1 r.toInt.toNat)) (fun (u : Unit) t => va_P (dC, dI) vwCl (WN hN aN kN iN_arcs fN_from fN_to fN_room fN_cost iN_reached fN_free fN_before fN_flow fN_length fN_stop iN_stops fN_price fN_rest) t.heap ∧ va_D (va_A (WN hN aN kN iN_arcs fN_from fN_to fN_room fN_cost iN_reached fN_free fN_before fN_flow fN_length fN_stop iN_stops fN_price fN_rest) sz) (WN hN aN kN iN_arcs fN_from fN_to fN_room fN_cost iN_reached fN_free fN_before fN_flow fN_length fN_stop iN_stops fN_price fN_rest)) (va_A (WN hN aN kN iN_arcs fN_from fN_to fN_room fN_cost iN_reached fN_free fN_before fN_flow fN_length fN_stop iN_stops fN_price fN_rest) sz)) 0 0 (va_A (WN hN aN kN iN_arcs fN_from fN_to fN_room fN_cost iN_reached fN_free fN_before fN_flow fN_length fN_stop iN_stops fN_price fN_rest) sz) := by
  refine Met.ofW (cc := cX2_cheapestUnseen) (maxL := 5) (ret := (some .int)) (by decide) rfl ?_
  intro p e s m args below meth c s₁ B hml hv
  obtain ⟨rfl, hsz, hP, hK, hD0⟩ := hv
  have hx := B.exec
  have hb := B.bytes
  have hr := B.returns
  have hts := atoms_spec (ws := wsMX2_cheapestUnseen) B.pre
  have hown : s.vm.findClass RX2 = some m.cls := findClass_of_methodNamed B.named
  have hlocks := B.notSynchronized
  subst hsz
  have hD := hD0.self (sz := s.heap.size)
  generalize hAe : va_A (WN hN aN kN iN_arcs fN_from fN_to fN_room fN_cost iN_reached fN_free fN_before fN_flow fN_length fN_stop iN_stops fN_price fN_rest) s.heap.size = A at hD ⊢
  have hA : ∀ q : Nat, s.heap.size ≤ q → A q := fun q h => by rw [← hAe]; exact Or.inr h
  have hS : va_S A s.heap s.heap [] := va_S.rf
  have hl := lv_entry ([.ref (hN 0), .long p1]) (n := 5) (Nat.le_of_ble_eq_true rfl)
  rw [lg_entry_eq]
  generalize (lg_sl ([.ref (hN 0), .long p1]) ++ List.replicate (5 - (lg_sl ([.ref (hN 0), .long p1])).length) Slot.unset).toArray = ls at hl ⊢
  have hl : lv_has ls 5 [(0, .ref (hN 0)), (1, .long p1)] := hl
  refine lv_iconst (v := (-1)) hx hb dX2_cheapestUnseen_0 (by decide) ?_
  refine lv_istore_n hx hb dX2_cheapestUnseen_1 rfl hl (by decide) rfl (fun ls (hl : lv_has ls _ ([(3, .int (-1)), (0, .ref (hN 0)), (1, .long p1)])) => ?_)
  refine lv_iconst (v := 0) hx hb dX2_cheapestUnseen_2 (by decide) ?_
  refine lv_istore hx hb dX2_cheapestUnseen_3 hl (by decide) rfl (fun ls (hl : lv_has ls _ ([(4, .int 0), (3, .int (-1)), (0, .ref (hN 0)), (1, .long p1)])) => ?_)
  have hl : lv_has _ _ ([(4, .int 0), (3, .int (-1)), (0, .ref (hN 0)), (1, .long p1)]) := lv_sub hl [0, 1, 2, 3] rfl
  refine (fun (loop : ∀ (n9 : Nat) (l4_x5 : Int32) (l3_x5 : Int32) (H : Heap) (locs : List Loc) (ls : Array Slot), (0 ≤ l4_x5.toInt ∧ l4_x5.toInt ≤ 40) → ((-1) ≤ l3_x5.toInt ∧ l3_x5.toInt ≤ 39) → (tFnd (iN_arcs.toInt, fN_from, fN_to, fN_room, fN_cost) p1 l4_x5.toInt l3_x5.toInt) → (l4_x5.toInt ≤ iN_arcs.toInt) → (40 - l4_x5.toInt < ((n9 : Nat) : Int)) → va_P (dC, dI) vwCl (WN hN aN kN iN_arcs fN_from fN_to fN_room fN_cost iN_reached fN_free fN_before fN_flow fN_length fN_stop iN_stops fN_price fN_rest) H → va_D A (WN hN aN kN iN_arcs fN_from fN_to fN_room fN_cost iN_reached fN_free fN_before fN_flow fN_length fN_stop iN_stops fN_price fN_rest) → va_S A s.heap H locs → lv_has ls 5 [(4, .int l4_x5), (3, .int l3_x5), (0, .ref (hN 0)), (1, .long p1)] → W p l e _ s m _ below meth c H locs 0 0 _ (F0 m 5 ls [])) => loop (41) 0 (-1) _ _ _ (show 0 ≤ (0 : Int32).toInt ∧ (0 : Int32).toInt ≤ 40 from by decide) (show (-1) ≤ ((-1) : Int32).toInt ∧ ((-1) : Int32).toInt ≤ 39 from by decide) (show tFnd (iN_arcs.toInt, fN_from, fN_to, fN_room, fN_cost) p1 (0 : Int32).toInt ((-1) : Int32).toInt from tFnd.start (by decide) (by decide)) (show (0 : Int32).toInt ≤ iN_arcs.toInt from by have h7 : (0 : Int32).toInt = 0 := (by decide); omega) ((by have e9 : (0 : Int32).toInt = 0 := (by decide : (0 : Int32).toInt = 0); omega)) hP hD hS hl) ?_
  intro n9
  induction n9 with
  | zero => intro l4_x5 l3_x5 H locs ls b_l4_x5 b_l3_x5 hF hla hf9; exact False.elim (by omega)
  | succ n9 ihx5 =>
    intro l4_x5 l3_x5 H locs ls b_l4_x5 b_l3_x5 hF hla hfx5 hP hD hS hl
    refine lv_iload hx hb dX2_cheapestUnseen_5 (lv_at hl 0 rfl) ?_
    refine lv_aload_n hx hb dX2_cheapestUnseen_7 rfl (lv_at hl 2 rfl) ?_
    refine va_get (D := (dC, dI)) (ci := 2) (v := .int iN_arcs) (C := RX2) (T := TX2) (N := 14) hx hb hts iwsMX2_cheapestUnseen_in2 hown hK hP 0 rfl rfl 0 (by decide) (hts (.fieldLink RX2 45 "OptimaWorks$NetDesk" "arcs" "I") (by decide +kernel)) (fun _ h9 => h9) rfl dX2_cheapestUnseen_8 ?_
    refine lv_icmp_ge (tgt := 55) hx hb dX2_cheapestUnseen_11 (by decide) (fun c_11 => ?_) (fun c_11 => ?_)
    · have t_11 : l4_x5.toInt ≥ iN_arcs.toInt := toI_ge c_11 rfl rfl
      refine lv_iconst (v := 0) hx hb dX2_cheapestUnseen_55 (by decide) ?_
      refine lv_iload_n hx hb dX2_cheapestUnseen_56 rfl (lv_at hl 1 rfl) ?_
      refine va_mmax hx hb (by rw [hml]; exact hl.1.symm) hown (hts (.methodLink RX2 89 Lib.Math.max.name) (by decide +kernel)) (hts (.static Lib.Math.max.name) (by decide +kernel)) (hts (.initialized "java/lang/Math") (by decide +kernel)) (hts (.code Lib.Math.max.name Lib.Math.max.code 2 (some .int)) (by decide +kernel)) (by decide +kernel) (Nat.le_of_ble_eq_true rfl) (by decide +kernel) (by decide +kernel) dX2_cheapestUnseen_57 ?_
      refine lv_topi (fun v25 hv25 => ?_)
      have b_v25 : (0 ≤ v25.toInt ∧ l3_x5.toInt ≤ v25.toInt) ∧ (v25.toInt = 0 ∨ v25.toInt = l3_x5.toInt) := by rw [hv25]; exact max_t (by decide : (0 : Int32).toInt = 0) rfl
      clear hv25
      refine W.widen (k := 0) (n := 0) (by decide +kernel) (by decide +kernel) ?_
      exact W.iret (v := v25) hx hb hr (fun t9_ ht hW => ⟨⟨v25, (), rfl, ⟨(by first | exact b_v25 | with_reducible assumption | exact ⟨by omega, by omega⟩ | assumption), (by (try dsimp only); exact (fun hs9 => tFnd.done hF (by dsimp only; omega) (by dsimp only; omega) (by omega) (by omega) hs9))⟩, by rw [ht]; exact hP, hD⟩, hS.F ht⟩) hS.2.2 dX2_cheapestUnseen_60
    · have t_11 : ¬ l4_x5.toInt ≥ iN_arcs.toInt := toI_nge c_11 rfl rfl
      refine lv_lload_n hx hb dX2_cheapestUnseen_14 rfl (lv_at hl 3 rfl) ?_
      refine lv_iload hx hb dX2_cheapestUnseen_15 (lv_at hl 0 rfl) ?_
      refine lv_lshr hx hb dX2_cheapestUnseen_17 rfl ?_
      refine lv_topl (fun v26 hv26 => ?_)
      have b_v26 : v26 = ((p1) >>> ((l4_x5).toInt64 &&& 63)) := hv26
      clear hv26
      refine lv_lconst (v := 1) hx hb dX2_cheapestUnseen_18 (by decide) ?_
      refine lv_land hx hb dX2_cheapestUnseen_19 ?_
      refine lv_topl (fun v27 hv27 => ?_)
      have b_v27 : (btL p1 l4_x5.toInt.toNat = true ∧ v27.toInt = 1) ∨ (btL p1 l4_x5.toInt.toNat = false ∧ v27.toInt = 0) := by rw [hv27]; exact shl_and1 b_v26 (by omega) (by omega)
      clear hv27
      refine lv_lconst (v := 0) hx hb dX2_cheapestUnseen_20 (by decide) ?_
      refine W.lcmp hx hb dX2_cheapestUnseen_21 ?_
      refine W.cut (pc := 49) (fun H locs ls stk => ∃ (l3_j12 : Int32), ((-1) ≤ l3_j12.toInt ∧ l3_j12.toInt ≤ 39) ∧ (tFnd (iN_arcs.toInt, fN_from, fN_to, fN_room, fN_cost) p1 (l4_x5.toInt + 1) l3_j12.toInt) ∧  stk = [] ∧ va_P (dC, dI) vwCl (WN hN aN kN iN_arcs fN_from fN_to fN_room fN_cost iN_reached fN_free fN_before fN_flow fN_length fN_stop iN_stops fN_price fN_rest) H ∧ va_D A (WN hN aN kN iN_arcs fN_from fN_to fN_room fN_cost iN_reached fN_free fN_before fN_flow fN_length fN_stop iN_stops fN_price fN_rest) ∧ va_S A s.heap H locs ∧ lv_has ls 5 [(4, .int l4_x5), (3, .int l3_j12), (0, .ref (hN 0)), (1, .long p1)]) (fun join12 => ?_) ?_
      · refine lv_if_ne (tgt := 49) hx hb dX2_cheapestUnseen_22 (by decide) (fun c_22 => ?_) (fun c_22 => ?_)
        · have t_22 : v27.toInt ≠ 0 := toL_ne c_22 rfl (by decide : (0 : Int64).toInt = 0)
          have hl : lv_has _ _ ([(4, .int l4_x5), (3, .int l3_x5), (0, .ref (hN 0)), (1, .long p1)]) := lv_sub hl [0, 1, 2, 3] rfl
          exact join12 _ _ _ _ ⟨l3_x5, (b_l3_x5), (show tFnd (iN_arcs.toInt, fN_from, fN_to, fN_room, fN_cost) p1 (l4_x5.toInt + 1) l3_x5.toInt from by first | exact tFnd.seen hF (by omega) (bt_yes b_v27 t_22) | exact tFnd.first hF (by omega) (bt_no b_v27 t_22) t_27 | exact tFnd.less hF (by omega) (bt_no b_v27 t_22) t_27 (by omega) | exact tFnd.more hF (by omega) t_27 (by omega)), rfl, hP, hD, hS, hl⟩
        · have t_22 : v27.toInt = 0 := toL_nne c_22 rfl (by decide : (0 : Int64).toInt = 0)
          refine lv_iload_n hx hb dX2_cheapestUnseen_25 rfl (lv_at hl 1 rfl) ?_
          refine lv_iconst (v := (-1)) hx hb dX2_cheapestUnseen_26 (by decide) ?_
          refine lv_icmp_eq (tgt := 46) hx hb dX2_cheapestUnseen_27 (by decide) (fun c_27 => ?_) (fun c_27 => ?_)
          · have t_27 : l3_x5.toInt = (-1) := toI_eq c_27 rfl (by decide : ((-1) : Int32).toInt = (-1))
            refine lv_iload hx hb dX2_cheapestUnseen_46 (lv_at hl 0 rfl) ?_
            refine lv_istore_n hx hb dX2_cheapestUnseen_48 rfl hl (by decide) rfl (fun ls (hl : lv_has ls _ ([(3, .int l4_x5), (4, .int l4_x5), (0, .ref (hN 0)), (1, .long p1)])) => ?_)
            have hl : lv_has _ _ ([(4, .int l4_x5), (3, .int l4_x5), (0, .ref (hN 0)), (1, .long p1)]) := lv_sub hl [1, 0, 2, 3] rfl
            exact join12 _ _ _ _ ⟨l4_x5, (by first | exact b_l4_x5 | with_reducible assumption | exact ⟨by omega, by omega⟩ | assumption), (show tFnd (iN_arcs.toInt, fN_from, fN_to, fN_room, fN_cost) p1 (l4_x5.toInt + 1) l4_x5.toInt from by first | exact tFnd.seen hF (by omega) (bt_yes b_v27 t_22) | exact tFnd.first hF (by omega) (bt_no b_v27 t_22) t_27 | exact tFnd.less hF (by omega) (bt_no b_v27 t_22) t_27 (by omega) | exact tFnd.more hF (by omega) t_27 (by omega)), rfl, hP, hD, hS, hl⟩
          · have t_27 : ¬ l3_x5.toInt = (-1) := toI_neq c_27 rfl (by decide : ((-1) : Int32).toInt = (-1))
            refine lv_aload_n hx hb dX2_cheapestUnseen_30 rfl (lv_at hl 2 rfl) ?_
            refine va_get (D := (dC, dI)) (ci := 2) (v := .ref (aN 3)) (C := RX2) (T := TX2) (N := 14) hx hb hts iwsMX2_cheapestUnseen_in2 hown hK hP 0 rfl rfl 4 (by decide) (hts _ hm_m_X2_cheapestUnseen_0) (fun _ h9 => h9) rfl dX2_cheapestUnseen_31 ?_
            refine lv_iload hx hb dX2_cheapestUnseen_34 (lv_at hl 0 rfl) ?_
            refine va_iald (cA := kN 3) (n := 40) (f := fN_cost) hx hb hK hP 4 3 rfl rfl (vp_in_iff.mpr ⟨b_l4_x5.1, (by omega)⟩) dX2_cheapestUnseen_36 ?_
            refine lv_topi (fun v30 hv30 => ?_)
            have b_v30 : tCo (iN_arcs.toInt, fN_from, fN_to, fN_room, fN_cost) l4_x5.toInt.toNat ≤ v30.toInt ∧ v30.toInt ≤ tCo (iN_arcs.toInt, fN_from, fN_to, fN_room, fN_cost) l4_x5.toInt.toNat := by rw [hv30]; exact ⟨Int.le_refl _, Int.le_refl _⟩
            clear hv30
            refine lv_aload_n hx hb dX2_cheapestUnseen_37 rfl (lv_at hl 2 rfl) ?_
            refine va_get (D := (dC, dI)) (ci := 2) (v := .ref (aN 3)) (C := RX2) (T := TX2) (N := 14) hx hb hts iwsMX2_cheapestUnseen_in2 hown hK hP 0 rfl rfl 4 (by decide) (hts _ hm_m_X2_cheapestUnseen_0) (fun _ h9 => h9) rfl dX2_cheapestUnseen_38 ?_
            refine lv_iload_n hx hb dX2_cheapestUnseen_41 rfl (lv_at hl 1 rfl) ?_
            refine va_iald (cA := kN 3) (n := 40) (f := fN_cost) hx hb hK hP 4 3 rfl rfl (vp_in_iff.mpr ⟨(by omega), (Int.lt_of_le_of_lt (b_l3_x5.2) (by decide))⟩) dX2_cheapestUnseen_42 ?_
            refine lv_topi (fun v31 hv31 => ?_)
            have b_v31 : tCo (iN_arcs.toInt, fN_from, fN_to, fN_room, fN_cost) l3_x5.toInt.toNat ≤ v31.toInt ∧ v31.toInt ≤ tCo (iN_arcs.toInt, fN_from, fN_to, fN_room, fN_cost) l3_x5.toInt.toNat := by rw [hv31]; exact ⟨Int.le_refl _, Int.le_refl _⟩
            clear hv31
            refine lv_icmp_ge (tgt := 49) hx hb dX2_cheapestUnseen_43 (by decide) (fun c_43 => ?_) (fun c_43 => ?_)
            · have t_43 : v30.toInt ≥ v31.toInt := toI_ge c_43 rfl rfl
              have hl : lv_has _ _ ([(4, .int l4_x5), (3, .int l3_x5), (0, .ref (hN 0)), (1, .long p1)]) := lv_sub hl [0, 1, 2, 3] rfl
              exact join12 _ _ _ _ ⟨l3_x5, (b_l3_x5), (show tFnd (iN_arcs.toInt, fN_from, fN_to, fN_room, fN_cost) p1 (l4_x5.toInt + 1) l3_x5.toInt from by first | exact tFnd.seen hF (by omega) (bt_yes b_v27 t_22) | exact tFnd.first hF (by omega) (bt_no b_v27 t_22) t_27 | exact tFnd.less hF (by omega) (bt_no b_v27 t_22) t_27 (by omega) | exact tFnd.more hF (by omega) t_27 (by omega)), rfl, hP, hD, hS, hl⟩
            · have t_43 : ¬ v30.toInt ≥ v31.toInt := toI_nge c_43 rfl rfl
              refine lv_iload hx hb dX2_cheapestUnseen_46 (lv_at hl 0 rfl) ?_
              refine lv_istore_n hx hb dX2_cheapestUnseen_48 rfl hl (by decide) rfl (fun ls (hl : lv_has ls _ ([(3, .int l4_x5), (4, .int l4_x5), (0, .ref (hN 0)), (1, .long p1)])) => ?_)
              have hl : lv_has _ _ ([(4, .int l4_x5), (3, .int l4_x5), (0, .ref (hN 0)), (1, .long p1)]) := lv_sub hl [1, 0, 2, 3] rfl
              exact join12 _ _ _ _ ⟨l4_x5, (by first | exact b_l4_x5 | with_reducible assumption | exact ⟨by omega, by omega⟩ | assumption), (show tFnd (iN_arcs.toInt, fN_from, fN_to, fN_room, fN_cost) p1 (l4_x5.toInt + 1) l4_x5.toInt from by first | exact tFnd.seen hF (by omega) (bt_yes b_v27 t_22) | exact tFnd.first hF (by omega) (bt_no b_v27 t_22) t_27 | exact tFnd.less hF (by omega) (bt_no b_v27 t_22) t_27 (by omega) | exact tFnd.more hF (by omega) t_27 (by omega)), rfl, hP, hD, hS, hl⟩
      · intro H locs ls stk
        refine fz_e1 ?_
        intro l3_j12
        refine fz_a7 ?_
        intro b_l3_j12 hF2 hst9_2 hP hD hS hl
        subst hst9_2
        refine lv_iinc (v := (iI (l4_x5.toInt + 1))) hx hb dX2_cheapestUnseen_49 hl (k := 0) rfl (iI_add2 (iI_of _) (by decide : (1 : Int32) = iI 1)) (by decide) rfl (fun ls (hl : lv_has ls _ ([(4, .int (iI (l4_x5.toInt + 1))), (3, .int l3_j12), (0, .ref (hN 0)), (1, .long p1)])) => ?_)
        refine lv_goto (tgt := 5) hx hb dX2_cheapestUnseen_52 (by decide) ?_
        have hl : lv_has _ _ ([(4, .int (iI (l4_x5.toInt + 1))), (3, .int l3_j12), (0, .ref (hN 0)), (1, .long p1)]) := lv_sub hl [0, 1, 2, 3] rfl
        exact ihx5 (iI (l4_x5.toInt + 1)) l3_j12 _ _ _ (iI_rng (Int.le_trans (by decide) (Int.add_le_add (b_l4_x5.1) (Int.le_refl _))) (by omega) (by decide) (by decide)) (b_l3_j12) (show tFnd (iN_arcs.toInt, fN_from, fN_to, fN_room, fN_cost) p1 (iI (l4_x5.toInt + 1)).toInt l3_j12.toInt from by rw [iI_t (by omega) (by omega)]; exact hF2) (show (iI (l4_x5.toInt + 1)).toInt ≤ iN_arcs.toInt from by rw [iI_t (by omega) (by omega)]; omega) (by have e9 : ((iI (l4_x5.toInt + 1))).toInt = (l4_x5.toInt + 1) := (iI_t (Int.le_trans (by decide) (Int.add_le_add (b_l4_x5.1) (Int.le_refl _))) (Int.le_trans (Int.add_le_add (b_l4_x5.2) (Int.le_refl _)) (by decide))); omega) hP hD hS hl
theorem dX2_treeArcs_0 : decode cX2_treeArcs 0 = .ok (.lconst 0, 1) := dk_9 (by decide +kernel)
theorem dX2_treeArcs_1 : decode cX2_treeArcs 1 = .ok (.lstore_n 1, 1) := dk_64 (by decide +kernel)
theorem dX2_treeArcs_2 : decode cX2_treeArcs 2 = .ok (.lconst 0, 1) := dk_9 (by decide +kernel)
theorem dX2_treeArcs_3 : decode cX2_treeArcs 3 = .ok (.lstore_n 3, 1) := dk_66 (by decide +kernel)
theorem dX2_treeArcs_4 : decode cX2_treeArcs 4 = .ok (.aload_n 0, 1) := dk_42 (by decide +kernel)
theorem dX2_treeArcs_5 : decode cX2_treeArcs 5 = .ok (.getfield 27, 3) := dk_180 (by decide +kernel)
theorem dX2_treeArcs_8 : decode cX2_treeArcs 8 = .ok (.astore 5, 2) := dk_58 (by decide +kernel)
theorem dX2_treeArcs_10 : decode cX2_treeArcs 10 = .ok (.iconst 0, 1) := dk_3 (by decide +kernel)
theorem dX2_treeArcs_11 : decode cX2_treeArcs 11 = .ok (.istore 6, 2) := dk_54 (by decide +kernel)
theorem dX2_treeArcs_13 : decode cX2_treeArcs 13 = .ok (.iload 6, 2) := dk_21 (by decide +kernel)
theorem dX2_treeArcs_15 : decode cX2_treeArcs 15 = .ok (.bipush 12, 2) := dk_16 (by decide +kernel)
theorem dX2_treeArcs_17 : decode cX2_treeArcs 17 = .ok (.if_icmp .ge 16, 3) := dk_162 (by decide +kernel)
theorem dX2_treeArcs_20 : decode cX2_treeArcs 20 = .ok (.aload 5, 2) := dk_25 (by decide +kernel)
theorem dX2_treeArcs_22 : decode cX2_treeArcs 22 = .ok (.iload 6, 2) := dk_21 (by decide +kernel)
theorem dX2_treeArcs_24 : decode cX2_treeArcs 24 = .ok (.iload 6, 2) := dk_21 (by decide +kernel)
theorem dX2_treeArcs_26 : decode cX2_treeArcs 26 = .ok (.iastore, 1) := dk_79 (by decide +kernel)
theorem dX2_treeArcs_27 : decode cX2_treeArcs 27 = .ok (.iinc 6 1, 3) := dk_132 (by decide +kernel)
theorem dX2_treeArcs_30 : decode cX2_treeArcs 30 = .ok (.goto (-17), 3) := dk_167 (by decide +kernel)
theorem dX2_treeArcs_33 : decode cX2_treeArcs 33 = .ok (.iconst 0, 1) := dk_3 (by decide +kernel)
theorem dX2_treeArcs_34 : decode cX2_treeArcs 34 = .ok (.istore 6, 2) := dk_54 (by decide +kernel)
theorem dX2_treeArcs_36 : decode cX2_treeArcs 36 = .ok (.iload 6, 2) := dk_21 (by decide +kernel)
theorem dX2_treeArcs_38 : decode cX2_treeArcs 38 = .ok (.aload_n 0, 1) := dk_42 (by decide +kernel)
theorem dX2_treeArcs_39 : decode cX2_treeArcs 39 = .ok (.getfield 45, 3) := dk_180 (by decide +kernel)
theorem dX2_treeArcs_42 : decode cX2_treeArcs 42 = .ok (.if_icmp .ge 102, 3) := dk_162 (by decide +kernel)
theorem dX2_treeArcs_45 : decode cX2_treeArcs 45 = .ok (.aload_n 0, 1) := dk_42 (by decide +kernel)
theorem dX2_treeArcs_46 : decode cX2_treeArcs 46 = .ok (.lload_n 3, 1) := dk_33 (by decide +kernel)
theorem dX2_treeArcs_47 : decode cX2_treeArcs 47 = .ok (.invokevirtual 85, 3) := dk_182 (by decide +kernel)
theorem dX2_treeArcs_50 : decode cX2_treeArcs 50 = .ok (.istore 7, 2) := dk_54 (by decide +kernel)
theorem dX2_treeArcs_52 : decode cX2_treeArcs 52 = .ok (.lload_n 3, 1) := dk_33 (by decide +kernel)
theorem dX2_treeArcs_53 : decode cX2_treeArcs 53 = .ok (.lconst 1, 1) := dk_10 (by decide +kernel)
theorem dX2_treeArcs_54 : decode cX2_treeArcs 54 = .ok (.iload 7, 2) := dk_21 (by decide +kernel)
theorem dX2_treeArcs_56 : decode cX2_treeArcs 56 = .ok (.lshl, 1) := dk_121 (by decide +kernel)
theorem dX2_treeArcs_57 : decode cX2_treeArcs 57 = .ok (.lor, 1) := dk_129 (by decide +kernel)
theorem dX2_treeArcs_58 : decode cX2_treeArcs 58 = .ok (.lstore_n 3, 1) := dk_66 (by decide +kernel)
theorem dX2_treeArcs_59 : decode cX2_treeArcs 59 = .ok (.aload 5, 2) := dk_25 (by decide +kernel)
theorem dX2_treeArcs_61 : decode cX2_treeArcs 61 = .ok (.aload_n 0, 1) := dk_42 (by decide +kernel)
theorem dX2_treeArcs_62 : decode cX2_treeArcs 62 = .ok (.getfield 11, 3) := dk_180 (by decide +kernel)
theorem dX2_treeArcs_65 : decode cX2_treeArcs 65 = .ok (.iload 7, 2) := dk_21 (by decide +kernel)
theorem dX2_treeArcs_67 : decode cX2_treeArcs 67 = .ok (.iaload, 1) := dk_46 (by decide +kernel)
theorem dX2_treeArcs_68 : decode cX2_treeArcs 68 = .ok (.iaload, 1) := dk_46 (by decide +kernel)
theorem dX2_treeArcs_69 : decode cX2_treeArcs 69 = .ok (.istore 8, 2) := dk_54 (by decide +kernel)
theorem dX2_treeArcs_71 : decode cX2_treeArcs 71 = .ok (.aload 5, 2) := dk_25 (by decide +kernel)
theorem dX2_treeArcs_73 : decode cX2_treeArcs 73 = .ok (.aload_n 0, 1) := dk_42 (by decide +kernel)
theorem dX2_treeArcs_74 : decode cX2_treeArcs 74 = .ok (.getfield 15, 3) := dk_180 (by decide +kernel)
theorem dX2_treeArcs_77 : decode cX2_treeArcs 77 = .ok (.iload 7, 2) := dk_21 (by decide +kernel)
theorem dX2_treeArcs_79 : decode cX2_treeArcs 79 = .ok (.iaload, 1) := dk_46 (by decide +kernel)
theorem dX2_treeArcs_80 : decode cX2_treeArcs 80 = .ok (.iaload, 1) := dk_46 (by decide +kernel)
theorem dX2_treeArcs_81 : decode cX2_treeArcs 81 = .ok (.istore 9, 2) := dk_54 (by decide +kernel)
theorem dX2_treeArcs_83 : decode cX2_treeArcs 83 = .ok (.iload 8, 2) := dk_21 (by decide +kernel)
theorem dX2_treeArcs_85 : decode cX2_treeArcs 85 = .ok (.iload 9, 2) := dk_21 (by decide +kernel)
theorem dX2_treeArcs_87 : decode cX2_treeArcs 87 = .ok (.if_icmp .eq 51, 3) := dk_159 (by decide +kernel)
theorem dX2_treeArcs_90 : decode cX2_treeArcs 90 = .ok (.lload_n 1, 1) := dk_31 (by decide +kernel)
theorem dX2_treeArcs_91 : decode cX2_treeArcs 91 = .ok (.lconst 1, 1) := dk_10 (by decide +kernel)
theorem dX2_treeArcs_92 : decode cX2_treeArcs 92 = .ok (.iload 7, 2) := dk_21 (by decide +kernel)
theorem dX2_treeArcs_94 : decode cX2_treeArcs 94 = .ok (.lshl, 1) := dk_121 (by decide +kernel)
theorem dX2_treeArcs_95 : decode cX2_treeArcs 95 = .ok (.lor, 1) := dk_129 (by decide +kernel)
theorem dX2_treeArcs_96 : decode cX2_treeArcs 96 = .ok (.lstore_n 1, 1) := dk_64 (by decide +kernel)
theorem dX2_treeArcs_97 : decode cX2_treeArcs 97 = .ok (.iconst 0, 1) := dk_3 (by decide +kernel)
theorem dX2_treeArcs_98 : decode cX2_treeArcs 98 = .ok (.istore 10, 2) := dk_54 (by decide +kernel)
theorem dX2_treeArcs_100 : decode cX2_treeArcs 100 = .ok (.iload 10, 2) := dk_21 (by decide +kernel)
theorem dX2_treeArcs_102 : decode cX2_treeArcs 102 = .ok (.bipush 12, 2) := dk_16 (by decide +kernel)
theorem dX2_treeArcs_104 : decode cX2_treeArcs 104 = .ok (.if_icmp .ge 34, 3) := dk_162 (by decide +kernel)
theorem dX2_treeArcs_107 : decode cX2_treeArcs 107 = .ok (.aload 5, 2) := dk_25 (by decide +kernel)
theorem dX2_treeArcs_109 : decode cX2_treeArcs 109 = .ok (.iload 10, 2) := dk_21 (by decide +kernel)
theorem dX2_treeArcs_111 : decode cX2_treeArcs 111 = .ok (.aload 5, 2) := dk_25 (by decide +kernel)
theorem dX2_treeArcs_113 : decode cX2_treeArcs 113 = .ok (.iload 10, 2) := dk_21 (by decide +kernel)
theorem dX2_treeArcs_115 : decode cX2_treeArcs 115 = .ok (.iaload, 1) := dk_46 (by decide +kernel)
theorem dX2_treeArcs_116 : decode cX2_treeArcs 116 = .ok (.iload 8, 2) := dk_21 (by decide +kernel)
theorem dX2_treeArcs_118 : decode cX2_treeArcs 118 = .ok (.if_icmp .ne 8, 3) := dk_160 (by decide +kernel)
theorem dX2_treeArcs_121 : decode cX2_treeArcs 121 = .ok (.iload 9, 2) := dk_21 (by decide +kernel)
theorem dX2_treeArcs_123 : decode cX2_treeArcs 123 = .ok (.goto 8, 3) := dk_167 (by decide +kernel)
theorem dX2_treeArcs_126 : decode cX2_treeArcs 126 = .ok (.aload 5, 2) := dk_25 (by decide +kernel)
theorem dX2_treeArcs_128 : decode cX2_treeArcs 128 = .ok (.iload 10, 2) := dk_21 (by decide +kernel)
theorem dX2_treeArcs_130 : decode cX2_treeArcs 130 = .ok (.iaload, 1) := dk_46 (by decide +kernel)
theorem dX2_treeArcs_131 : decode cX2_treeArcs 131 = .ok (.iastore, 1) := dk_79 (by decide +kernel)
theorem dX2_treeArcs_132 : decode cX2_treeArcs 132 = .ok (.iinc 10 1, 3) := dk_132 (by decide +kernel)
theorem dX2_treeArcs_135 : decode cX2_treeArcs 135 = .ok (.goto (-35), 3) := dk_167 (by decide +kernel)
theorem dX2_treeArcs_138 : decode cX2_treeArcs 138 = .ok (.iinc 6 1, 3) := dk_132 (by decide +kernel)
theorem dX2_treeArcs_141 : decode cX2_treeArcs 141 = .ok (.goto (-105), 3) := dk_167 (by decide +kernel)
theorem dX2_treeArcs_144 : decode cX2_treeArcs 144 = .ok (.lload_n 1, 1) := dk_31 (by decide +kernel)
theorem dX2_treeArcs_145 : decode cX2_treeArcs 145 = .ok (.lreturn, 1) := dk_173 (by decide +kernel)
def wsMX2_treeArcs : List Cond := .code yX2_treeArcs cX2_treeArcs 11 (some .long) :: ([.fieldLink RX2 27 "OptimaWorks$NetDesk" "before" "[I", .fieldLink RX2 45 "OptimaWorks$NetDesk" "arcs" "I", .fieldLink RX2 11 "OptimaWorks$NetDesk" "from" "[I", .fieldLink RX2 15 "OptimaWorks$NetDesk" "to" "[I"] ++ wsX20 ++ (wsV RX2 85 RX2 yX2_cheapestUnseen wsMX2_cheapestUnseen))
theorem iwsMX2_treeArcs_in2 : ∀ w ∈ wsX20, w ∈ wsMX2_treeArcs := fun _ h => List.mem_cons_of_mem _ (List.mem_append_left _ (List.mem_append_right _ h))
theorem gwsMX2_treeArcs_0 : GoodIn wsMX2_treeArcs (wsV RX2 85 RX2 yX2_cheapestUnseen wsMX2_cheapestUnseen) := goodIn_sub (fun _ h => List.mem_cons_of_mem _ (List.mem_append_right _ h)) (gdV (by decide +kernel) gdwsMX2_cheapestUnseen)
theorem gdwsMX2_treeArcs : wsMX2_treeArcs.all goodWord = true := gdC rfl (gdA (gdA (by decide +kernel : ([.fieldLink RX2 27 "OptimaWorks$NetDesk" "before" "[I", .fieldLink RX2 45 "OptimaWorks$NetDesk" "arcs" "I", .fieldLink RX2 11 "OptimaWorks$NetDesk" "from" "[I", .fieldLink RX2 15 "OptimaWorks$NetDesk" "to" "[I"] : List Cond).all goodWord = true) gdwsX20) (gdV (by decide +kernel) gdwsMX2_cheapestUnseen))
set_option maxHeartbeats 4000000 in
set_option maxRecDepth 100000 in
/-- a tree -/
theorem m_X2_treeArcs (l : Launch) (dC : Nat → ClassId) (dI : Nat → Nat → Nat) (hN : Nat → Nat) (aN : Nat → Nat) (kN : Nat → ClassId) (iN_arcs : Int32) (fN_from : Nat → Int32) (fN_to : Nat → Int32) (fN_room : Nat → Int32) (fN_cost : Nat → Int32) (iN_reached : Int32) (fN_free : Nat → Int32) (fN_before : Nat → Int32) (fN_flow : Nat → Int32) (fN_length : Nat → Int32) (fN_stop : Nat → Int32) (iN_stops : Int32) (fN_price : Nat → Int32) (fN_rest : Nat → Int32) (b_iN_arcs : 0 ≤ iN_arcs.toInt ∧ iN_arcs.toInt ≤ 40) (b_fN_from : ∀ q : Nat, 0 ≤ (fN_from q).toInt ∧ (fN_from q).toInt ≤ 11) (b_fN_to : ∀ q : Nat, 0 ≤ (fN_to q).toInt ∧ (fN_to q).toInt ≤ 11) (b_fN_before : ∀ q : Nat, 0 ≤ (fN_before q).toInt ∧ (fN_before q).toInt ≤ 79) (b_fN_stop : ∀ q : Nat, 0 ≤ (fN_stop q).toInt ∧ (fN_stop q).toInt ≤ 11) (b_iN_stops : 0 ≤ iN_stops.toInt ∧ iN_stops.toInt ≤ 8) (hVal : tVal (iN_arcs.toInt, fN_from, fN_to, fN_room, fN_cost)) (sz : Nat) : Met l yX2_treeArcs wsMX2_treeArcs ({ frames := 2, cells := 0, slots := 0, locals := 37 }) (va_Pc [.ref (hN 0)] (fun U => U.heap.size = sz ∧ va_P (dC, dI) vwCl (WN hN aN kN iN_arcs fN_from fN_to fN_room fN_cost iN_reached fN_free fN_before fN_flow fN_length fN_stop iN_stops fN_price fN_rest) U.heap ∧ va_K (dC, dI) vwCl (tN kN) U ∧ va_D (fun _ => True) (WN hN aN kN iN_arcs fN_from fN_to fN_room fN_cost iN_reached fN_free fN_before fN_flow fN_length fN_stop iN_stops fN_price fN_rest))) (va_Ql (fun (r : Int64) (u : Nat → Int32) => (∀ q : Nat, 0 ≤ (u q).toInt ∧ (u q).toInt ≤ 79) ∧ (tAll (iN_arcs.toInt, fN_from, fN_to, fN_room, fN_cost) r)) (fun (u : Nat → Int32) t => va_P (dC, dI) vwCl (WN hN aN kN iN_arcs fN_from fN_to fN_room fN_cost iN_reached fN_free u fN_flow fN_length fN_stop iN_stops fN_price fN_rest) t.heap ∧ va_D (va_A (WN hN aN kN iN_arcs fN_from fN_to fN_room fN_cost iN_reached fN_free fN_before fN_flow fN_length fN_stop iN_stops fN_price fN_rest) sz) (WN hN aN kN iN_arcs fN_from fN_to fN_room fN_cost iN_reached fN_free u fN_flow fN_length fN_stop iN_stops fN_price fN_rest)) (va_A (WN hN aN kN iN_arcs fN_from fN_to fN_room fN_cost iN_reached fN_free fN_before fN_flow fN_length fN_stop iN_stops fN_price fN_rest) sz)) 0 0 (va_A (WN hN aN kN iN_arcs fN_from fN_to fN_room fN_cost iN_reached fN_free fN_before fN_flow fN_length fN_stop iN_stops fN_price fN_rest) sz) := by
  refine Met.ofW (cc := cX2_treeArcs) (maxL := 11) (ret := (some .long)) (by decide) rfl ?_
  intro p e s m args below meth c s₁ B hml hv
  obtain ⟨rfl, hsz, hP, hK, hD0⟩ := hv
  have hx := B.exec
  have hb := B.bytes
  have hr := B.returns
  have hts := atoms_spec (ws := wsMX2_treeArcs) B.pre
  have hown : s.vm.findClass RX2 = some m.cls := findClass_of_methodNamed B.named
  have hlocks := B.notSynchronized
  subst hsz
  have hD := hD0.self (sz := s.heap.size)
  generalize hAe : va_A (WN hN aN kN iN_arcs fN_from fN_to fN_room fN_cost iN_reached fN_free fN_before fN_flow fN_length fN_stop iN_stops fN_price fN_rest) s.heap.size = A at hD ⊢
  have hA : ∀ q : Nat, s.heap.size ≤ q → A q := fun q h => by rw [← hAe]; exact Or.inr h
  have hS : va_S A s.heap s.heap [] := va_S.rf
  have hl := lv_entry ([.ref (hN 0)]) (n := 11) (Nat.le_of_ble_eq_true rfl)
  rw [lg_entry_eq]
  generalize (lg_sl ([.ref (hN 0)]) ++ List.replicate (11 - (lg_sl ([.ref (hN 0)])).length) Slot.unset).toArray = ls at hl ⊢
  have hl : lv_has ls 11 [(0, .ref (hN 0))] := hl
  refine lv_lconst (v := 0) hx hb dX2_treeArcs_0 (by decide) ?_
  refine lv_lstore_n hx hb dX2_treeArcs_1 rfl hl (by decide) rfl (fun ls (hl : lv_has ls _ ([(1, .long 0), (0, .ref (hN 0))])) => ?_)
  refine lv_lconst (v := 0) hx hb dX2_treeArcs_2 (by decide) ?_
  refine lv_lstore_n hx hb dX2_treeArcs_3 rfl hl (by decide) rfl (fun ls (hl : lv_has ls _ ([(3, .long 0), (1, .long 0), (0, .ref (hN 0))])) => ?_)
  refine lv_aload_n hx hb dX2_treeArcs_4 rfl (lv_at hl 2 rfl) ?_
  refine va_get (D := (dC, dI)) (ci := 2) (v := .ref (aN 5)) (C := RX2) (T := TX2) (N := 14) hx hb hts iwsMX2_treeArcs_in2 hown hK hP 0 rfl rfl 7 (by decide) (hts (.fieldLink RX2 27 "OptimaWorks$NetDesk" "before" "[I") (by decide +kernel)) (fun _ h9 => h9) rfl dX2_treeArcs_5 ?_
  refine lv_astore hx hb dX2_treeArcs_8 hl (by decide) rfl (fun ls (hl : lv_has ls _ ([(5, .ref (aN 5)), (3, .long 0), (1, .long 0), (0, .ref (hN 0))])) => ?_)
  refine lv_iconst (v := 0) hx hb dX2_treeArcs_10 (by decide) ?_
  refine lv_istore hx hb dX2_treeArcs_11 hl (by decide) rfl (fun ls (hl : lv_has ls _ ([(6, .int 0), (5, .ref (aN 5)), (3, .long 0), (1, .long 0), (0, .ref (hN 0))])) => ?_)
  have hl : lv_has _ _ ([(6, .int 0), (5, .ref (aN 5)), (3, .long 0), (1, .long 0), (0, .ref (hN 0))]) := lv_sub hl [0, 1, 2, 3, 4] rfl
  refine (fun (loop : ∀ (n9 : Nat) (fN_before_x13 : Nat → Int32) (l6_x13 : Int32) (H : Heap) (locs : List Loc) (ls : Array Slot), (∀ q : Nat, 0 ≤ (fN_before_x13 q).toInt ∧ (fN_before_x13 q).toInt ≤ 79) → (0 ≤ l6_x13.toInt ∧ l6_x13.toInt ≤ 40) → (∀ q : Nat, (q : Int) < l6_x13.toInt → (fN_before_x13 q).toInt = (q : Int)) → (40 - l6_x13.toInt < ((n9 : Nat) : Int)) → va_P (dC, dI) vwCl (WN hN aN kN iN_arcs fN_from fN_to fN_room fN_cost iN_reached fN_free fN_before_x13 fN_flow fN_length fN_stop iN_stops fN_price fN_rest) H → va_D A (WN hN aN kN iN_arcs fN_from fN_to fN_room fN_cost iN_reached fN_free fN_before_x13 fN_flow fN_length fN_stop iN_stops fN_price fN_rest) → va_S A s.heap H locs → lv_has ls 11 [(6, .int l6_x13), (5, .ref (aN 5)), (3, .long 0), (1, .long 0), (0, .ref (hN 0))] → W p l e _ s m _ below meth c H locs 0 0 _ (F0 m 13 ls [])) => loop (41) fN_before 0 _ _ _ b_fN_before (show 0 ≤ (0 : Int32).toInt ∧ (0 : Int32).toInt ≤ 40 from by decide) (show ∀ q : Nat, (q : Int) < (0 : Int32).toInt → (fN_before q).toInt = (q : Int) from fun q hq => absurd hq (by have h7 : (0 : Int32).toInt = 0 := (by decide); omega)) ((by have e9 : (0 : Int32).toInt = 0 := (by decide : (0 : Int32).toInt = 0); omega)) hP hD hS hl) ?_
  intro n9
  induction n9 with
  | zero => intro fN_before_x13 l6_x13 H locs ls b_fN_before_x13 b_l6_x13 hIni hf9; exact False.elim (by omega)
  | succ n9 ihx13 =>
    intro fN_before_x13 l6_x13 H locs ls b_fN_before_x13 b_l6_x13 hIni hfx13 hP hD hS hl
    refine lv_iload hx hb dX2_treeArcs_13 (lv_at hl 0 rfl) ?_
    refine lv_bipush (v := 12) hx hb dX2_treeArcs_15 (by decide) ?_
    refine lv_icmp_ge (tgt := 33) hx hb dX2_treeArcs_17 (by decide) (fun c_17 => ?_) (fun c_17 => ?_)
    · have t_17 : l6_x13.toInt ≥ 12 := toI_ge c_17 rfl (by decide : (12 : Int32).toInt = 12)
      refine lv_iconst (v := 0) hx hb dX2_treeArcs_33 (by decide) ?_
      refine lv_istore hx hb dX2_treeArcs_34 hl (by decide) rfl (fun ls (hl : lv_has ls _ ([(6, .int 0), (5, .ref (aN 5)), (3, .long 0), (1, .long 0), (0, .ref (hN 0))])) => ?_)
      have hl : lv_has _ _ ([(6, .int 0), (5, .ref (aN 5)), (3, .long 0), (1, .long 0), (0, .ref (hN 0))]) := lv_sub hl [0, 1, 2, 3, 4] rfl
      refine (fun (loop : ∀ (n9 : Nat) (fN_before_x36 : Nat → Int32) (l6_x36 : Int32) (l3_x36 : Int64) (l1_x36 : Int64) (H : Heap) (locs : List Loc) (ls : Array Slot), (∀ q : Nat, 0 ≤ (fN_before_x36 q).toInt ∧ (fN_before_x36 q).toInt ≤ 79) → (0 ≤ l6_x36.toInt ∧ l6_x36.toInt ≤ 40) → (tCls (iN_arcs.toInt, fN_from, fN_to, fN_room, fN_cost) l6_x36.toInt l3_x36 l1_x36 fN_before_x36) → (l6_x36.toInt ≤ iN_arcs.toInt) → (40 - l6_x36.toInt < ((n9 : Nat) : Int)) → va_P (dC, dI) vwCl (WN hN aN kN iN_arcs fN_from fN_to fN_room fN_cost iN_reached fN_free fN_before_x36 fN_flow fN_length fN_stop iN_stops fN_price fN_rest) H → va_D A (WN hN aN kN iN_arcs fN_from fN_to fN_room fN_cost iN_reached fN_free fN_before_x36 fN_flow fN_length fN_stop iN_stops fN_price fN_rest) → va_S A s.heap H locs → lv_has ls 11 [(6, .int l6_x36), (5, .ref (aN 5)), (3, .long l3_x36), (1, .long l1_x36), (0, .ref (hN 0))] → W p l e _ s m _ below meth c H locs 0 0 _ (F0 m 36 ls [])) => loop (41) fN_before_x13 0 0 0 _ _ _ b_fN_before_x13 (show 0 ≤ (0 : Int32).toInt ∧ (0 : Int32).toInt ≤ 40 from by decide) (show tCls (iN_arcs.toInt, fN_from, fN_to, fN_room, fN_cost) (0 : Int32).toInt (0 : Int64) (0 : Int64) fN_before_x13 from tCls.start (fun i hi => hIni i (by omega))) (show (0 : Int32).toInt ≤ iN_arcs.toInt from by have h7 : (0 : Int32).toInt = 0 := (by decide); omega) ((by have e9 : (0 : Int32).toInt = 0 := (by decide : (0 : Int32).toInt = 0); omega)) hP hD hS hl) ?_
      intro n9
      induction n9 with
      | zero => intro fN_before_x36 l6_x36 l3_x36 l1_x36 H locs ls b_fN_before_x36 b_l6_x36 hT hla hf9; exact False.elim (by omega)
      | succ n9 ihx36 =>
        intro fN_before_x36 l6_x36 l3_x36 l1_x36 H locs ls b_fN_before_x36 b_l6_x36 hT hla hfx36 hP hD hS hl
        refine lv_iload hx hb dX2_treeArcs_36 (lv_at hl 0 rfl) ?_
        refine lv_aload_n hx hb dX2_treeArcs_38 rfl (lv_at hl 4 rfl) ?_
        refine va_get (D := (dC, dI)) (ci := 2) (v := .int iN_arcs) (C := RX2) (T := TX2) (N := 14) hx hb hts iwsMX2_treeArcs_in2 hown hK hP 0 rfl rfl 0 (by decide) (hts (.fieldLink RX2 45 "OptimaWorks$NetDesk" "arcs" "I") (by decide +kernel)) (fun _ h9 => h9) rfl dX2_treeArcs_39 ?_
        refine lv_icmp_ge (tgt := 144) hx hb dX2_treeArcs_42 (by decide) (fun c_42 => ?_) (fun c_42 => ?_)
        · have t_42 : l6_x36.toInt ≥ iN_arcs.toInt := toI_ge c_42 rfl rfl
          refine lv_lload_n hx hb dX2_treeArcs_144 rfl (lv_at hl 3 rfl) ?_
          refine W.widen (k := 0) (n := 0) (by decide +kernel) (by decide +kernel) ?_
          exact W.lret (v := l1_x36) hx hb hr (fun t9_ ht hW => ⟨⟨l1_x36, fN_before_x36, rfl, ⟨b_fN_before_x36, (by (try dsimp only); exact (hT.done (by dsimp only; omega)))⟩, by rw [ht]; exact hP, hD⟩, hS.F ht⟩) hS.2.2 dX2_treeArcs_145
        · have t_42 : ¬ l6_x36.toInt ≥ iN_arcs.toInt := toI_nge c_42 rfl rfl
          refine lv_aload_n hx hb dX2_treeArcs_45 rfl (lv_at hl 4 rfl) ?_
          refine lv_lload_n hx hb dX2_treeArcs_46 rfl (lv_at hl 2 rfl) ?_
          have hFc := allFree hD hS hA
          refine va_calli (va_runV (As := [.long l3_x36]) (rest := []) ⟨hx, hb, hml, hown, hts⟩ (m_X2_cheapestUnseen l dC dI hN aN kN iN_arcs fN_from fN_to fN_room fN_cost iN_reached fN_free fN_before_x36 fN_flow fN_length fN_stop iN_stops fN_price fN_rest l3_x36 (b_iN_arcs) b_fN_from b_fN_to b_fN_before_x36 b_fN_stop (b_iN_stops) H.size) (cwV 1 hts gwsMX2_treeArcs_0 rfl rfl rfl hd_yX2_cheapestUnseen_RX2 (by decide +kernel)) (fz_pre (va_recv hK hP (ci := 2) (q0 := 0) rfl rfl) hP hK hD) rfl rfl hl.1 rfl (lv_room (Nat.le_of_ble_eq_true rfl)) dX2_treeArcs_47 (by decide +kernel)) hS (fun q _ h => hFc q h) hFc (fun r390 u t9_ H locs ht hvm hw9 hB9 hz1 hk1 hS => ?_)
          revert hw9
          refine fz_a2 ?_
          intro b_r390 f390_0
          have hP : va_P (dC, dI) vwCl (WN hN aN kN iN_arcs fN_from fN_to fN_room fN_cost iN_reached fN_free fN_before_x36 fN_flow fN_length fN_stop iN_stops fN_price fN_rest) H := fz_P ht hB9.1
          have hD := fz_sd hP (hB9.2.weaken (fun _ q _ h => hFc q.1 h)) rfl
          have hLe := f390_0 (tCls.some hT (by dsimp only; omega))
          refine lv_istore hx hb dX2_treeArcs_50 hl (by decide) rfl (fun ls (hl : lv_has ls _ ([(7, .int r390), (6, .int l6_x36), (5, .ref (aN 5)), (3, .long l3_x36), (1, .long l1_x36), (0, .ref (hN 0))])) => ?_)
          refine lv_lload_n hx hb dX2_treeArcs_52 rfl (lv_at hl 3 rfl) ?_
          refine lv_lconst (v := 1) hx hb dX2_treeArcs_53 (by decide) ?_
          refine lv_iload hx hb dX2_treeArcs_54 (lv_at hl 0 rfl) ?_
          refine lv_lshl hx hb dX2_treeArcs_56 rfl ?_
          refine lv_topl (fun v391 hv391 => ?_)
          have b_v391 : v391 = ((1 : Int64) <<< ((r390).toInt64 &&& 63)) := hv391
          clear hv391
          refine lv_lor hx hb dX2_treeArcs_57 ?_
          refine lv_topl (fun v392 hv392 => ?_)
          have b_v392 : v392 = (l3_x36 ||| v391) := hv392
          clear hv392
          refine lv_lstore_n hx hb dX2_treeArcs_58 rfl hl (by decide) rfl (fun ls (hl : lv_has ls _ ([(3, .long v392), (7, .int r390), (6, .int l6_x36), (5, .ref (aN 5)), (1, .long l1_x36), (0, .ref (hN 0))])) => ?_)
          refine lv_aload hx hb dX2_treeArcs_59 (lv_at hl 3 rfl) ?_
          refine lv_aload_n hx hb dX2_treeArcs_61 rfl (lv_at hl 5 rfl) ?_
          refine va_get (D := (dC, dI)) (ci := 2) (v := .ref (aN 0)) (C := RX2) (T := TX2) (N := 14) hx hb hts iwsMX2_treeArcs_in2 hown hK hP 0 rfl rfl 1 (by decide) (hts (.fieldLink RX2 11 "OptimaWorks$NetDesk" "from" "[I") (by decide +kernel)) (fun _ h9 => h9) rfl dX2_treeArcs_62 ?_
          refine lv_iload hx hb dX2_treeArcs_65 (lv_at hl 1 rfl) ?_
          refine va_iald (cA := kN 0) (n := 40) (f := fN_from) hx hb hK hP 1 0 rfl rfl (vp_in_iff.mpr ⟨(by omega), (by omega)⟩) dX2_treeArcs_67 ?_
          refine lv_topi (fun v393 hv393 => ?_)
          have b_v393 : 0 ≤ v393.toInt ∧ v393.toInt ≤ 11 := by rw [hv393]; exact b_fN_from _
          have b1_v393 : v393 = fN_from (r390).toNatClampNeg := hv393
          clear hv393
          refine va_iald (cA := kN 5) (n := 12) (f := fN_before_x36) hx hb hK hP 6 5 rfl rfl (vp_in_iff.mpr ⟨b_v393.1, (Int.lt_of_le_of_lt (b_v393.2) (by decide))⟩) dX2_treeArcs_68 ?_
          refine lv_topi (fun v394 hv394 => ?_)
          have b_v394 : 0 ≤ v394.toInt ∧ v394.toInt ≤ 79 := by rw [hv394]; exact b_fN_before_x36 _
          have b1_v394 : v394 = fN_before_x36 (v393).toNatClampNeg := hv394
          clear hv394
          refine lv_istore hx hb dX2_treeArcs_69 hl (by decide) rfl (fun ls (hl : lv_has ls _ ([(8, .int v394), (3, .long v392), (7, .int r390), (6, .int l6_x36), (5, .ref (aN 5)), (1, .long l1_x36), (0, .ref (hN 0))])) => ?_)
          refine lv_aload hx hb dX2_treeArcs_71 (lv_at hl 4 rfl) ?_
          refine lv_aload_n hx hb dX2_treeArcs_73 rfl (lv_at hl 6 rfl) ?_
          refine va_get (D := (dC, dI)) (ci := 2) (v := .ref (aN 1)) (C := RX2) (T := TX2) (N := 14) hx hb hts iwsMX2_treeArcs_in2 hown hK hP 0 rfl rfl 2 (by decide) (hts (.fieldLink RX2 15 "OptimaWorks$NetDesk" "to" "[I") (by decide +kernel)) (fun _ h9 => h9) rfl dX2_treeArcs_74 ?_
          refine lv_iload hx hb dX2_treeArcs_77 (lv_at hl 2 rfl) ?_
          refine va_iald (cA := kN 1) (n := 40) (f := fN_to) hx hb hK hP 2 1 rfl rfl (vp_in_iff.mpr ⟨(by omega), (by omega)⟩) dX2_treeArcs_79 ?_
          refine lv_topi (fun v395 hv395 => ?_)
          have b_v395 : 0 ≤ v395.toInt ∧ v395.toInt ≤ 11 := by rw [hv395]; exact b_fN_to _
          have b1_v395 : v395 = fN_to (r390).toNatClampNeg := hv395
          clear hv395
          refine va_iald (cA := kN 5) (n := 12) (f := fN_before_x36) hx hb hK hP 6 5 rfl rfl (vp_in_iff.mpr ⟨b_v395.1, (Int.lt_of_le_of_lt (b_v395.2) (by decide))⟩) dX2_treeArcs_80 ?_
          refine lv_topi (fun v396 hv396 => ?_)
          have b_v396 : 0 ≤ v396.toInt ∧ v396.toInt ≤ 79 := by rw [hv396]; exact b_fN_before_x36 _
          have b1_v396 : v396 = fN_before_x36 (v395).toNatClampNeg := hv396
          clear hv396
          refine lv_istore hx hb dX2_treeArcs_81 hl (by decide) rfl (fun ls (hl : lv_has ls _ ([(9, .int v396), (8, .int v394), (3, .long v392), (7, .int r390), (6, .int l6_x36), (5, .ref (aN 5)), (1, .long l1_x36), (0, .ref (hN 0))])) => ?_)
          refine lv_iload hx hb dX2_treeArcs_83 (lv_at hl 1 rfl) ?_
          refine lv_iload hx hb dX2_treeArcs_85 (lv_at hl 0 rfl) ?_
          refine W.cut (pc := 138) (fun H locs ls stk => ∃ (fN_before_j165 : Nat → Int32) (l1_j165 : Int64), (∀ q : Nat, 0 ≤ (fN_before_j165 q).toInt ∧ (fN_before_j165 q).toInt ≤ 79) ∧ (tCls (iN_arcs.toInt, fN_from, fN_to, fN_room, fN_cost) (l6_x36.toInt + 1) v392 l1_j165 fN_before_j165) ∧  stk = [] ∧ va_P (dC, dI) vwCl (WN hN aN kN iN_arcs fN_from fN_to fN_room fN_cost iN_reached fN_free fN_before_j165 fN_flow fN_length fN_stop iN_stops fN_price fN_rest) H ∧ va_D A (WN hN aN kN iN_arcs fN_from fN_to fN_room fN_cost iN_reached fN_free fN_before_j165 fN_flow fN_length fN_stop iN_stops fN_price fN_rest) ∧ va_S A s.heap H locs ∧ lv_has ls 11 [(9, .int v396), (8, .int v394), (3, .long v392), (7, .int r390), (6, .int l6_x36), (5, .ref (aN 5)), (1, .long l1_j165), (0, .ref (hN 0))]) (fun join165 => ?_) ?_
          · refine lv_icmp_eq (tgt := 138) hx hb dX2_treeArcs_87 (by decide) (fun c_87 => ?_) (fun c_87 => ?_)
            · have t_87 : v394.toInt = v396.toInt := toI_eq c_87 rfl rfl
              have hl : lv_has _ _ ([(9, .int v396), (8, .int v394), (3, .long v392), (7, .int r390), (6, .int l6_x36), (5, .ref (aN 5)), (1, .long l1_x36), (0, .ref (hN 0))]) := lv_sub hl [0, 1, 2, 3, 4, 5, 6, 7] rfl
              exact join165 _ _ _ _ ⟨fN_before_x36, l1_x36, b_fN_before_x36, (show tCls (iN_arcs.toInt, fN_from, fN_to, fN_room, fN_cost) (l6_x36.toInt + 1) v392 l1_x36 fN_before_x36 from by have exf : (fN_before_x36 (tFr (iN_arcs.toInt, fN_from, fN_to, fN_room, fN_cost) r390.toInt.toNat)).toInt = v394.toInt := (by rw [b1_v394, b1_v393]; rfl); have eyf : (fN_before_x36 (tTo (iN_arcs.toInt, fN_from, fN_to, fN_room, fN_cost) r390.toInt.toNat)).toInt = v396.toInt := (by rw [b1_v396, b1_v395]; rfl); rw [seL (by omega) b_v391 b_v392]; exact tCls.same hT hVal hLe (by omega) (by rw [exf, eyf]; exact t_87)), rfl, hP, hD, hS, hl⟩
            · have t_87 : ¬ v394.toInt = v396.toInt := toI_neq c_87 rfl rfl
              refine lv_lload_n hx hb dX2_treeArcs_90 rfl (lv_at hl 6 rfl) ?_
              refine lv_lconst (v := 1) hx hb dX2_treeArcs_91 (by decide) ?_
              refine lv_iload hx hb dX2_treeArcs_92 (lv_at hl 3 rfl) ?_
              refine lv_lshl hx hb dX2_treeArcs_94 rfl ?_
              refine lv_topl (fun v411 hv411 => ?_)
              have b_v411 : v411 = ((1 : Int64) <<< ((r390).toInt64 &&& 63)) := hv411
              clear hv411
              refine lv_lor hx hb dX2_treeArcs_95 ?_
              refine lv_topl (fun v412 hv412 => ?_)
              have b_v412 : v412 = (l1_x36 ||| v411) := hv412
              clear hv412
              refine lv_lstore_n hx hb dX2_treeArcs_96 rfl hl (by decide) rfl (fun ls (hl : lv_has ls _ ([(1, .long v412), (9, .int v396), (8, .int v394), (3, .long v392), (7, .int r390), (6, .int l6_x36), (5, .ref (aN 5)), (0, .ref (hN 0))])) => ?_)
              refine lv_iconst (v := 0) hx hb dX2_treeArcs_97 (by decide) ?_
              refine lv_istore hx hb dX2_treeArcs_98 hl (by decide) rfl (fun ls (hl : lv_has ls _ ([(10, .int 0), (1, .long v412), (9, .int v396), (8, .int v394), (3, .long v392), (7, .int r390), (6, .int l6_x36), (5, .ref (aN 5)), (0, .ref (hN 0))])) => ?_)
              have hl : lv_has _ _ ([(10, .int 0), (1, .long v412), (9, .int v396), (8, .int v394), (3, .long v392), (7, .int r390), (6, .int l6_x36), (5, .ref (aN 5)), (0, .ref (hN 0))]) := lv_sub hl [0, 1, 2, 3, 4, 5, 6, 7, 8] rfl
              refine (fun (loop : ∀ (n9 : Nat) (fN_before_x100 : Nat → Int32) (l10_x100 : Int32) (H : Heap) (locs : List Loc) (ls : Array Slot), (∀ q : Nat, 0 ≤ (fN_before_x100 q).toInt ∧ (fN_before_x100 q).toInt ≤ 79) → (0 ≤ l10_x100.toInt ∧ l10_x100.toInt ≤ 12) → (∀ i : Nat, i < 12 → (fN_before_x100 i).toInt = if i < l10_x100.toInt.toNat ∧ (fN_before_x36 i).toInt = v394.toInt then v396.toInt else (fN_before_x36 i).toInt) → (12 - l10_x100.toInt < ((n9 : Nat) : Int)) → va_P (dC, dI) vwCl (WN hN aN kN iN_arcs fN_from fN_to fN_room fN_cost iN_reached fN_free fN_before_x100 fN_flow fN_length fN_stop iN_stops fN_price fN_rest) H → va_D A (WN hN aN kN iN_arcs fN_from fN_to fN_room fN_cost iN_reached fN_free fN_before_x100 fN_flow fN_length fN_stop iN_stops fN_price fN_rest) → va_S A s.heap H locs → lv_has ls 11 [(10, .int l10_x100), (1, .long v412), (9, .int v396), (8, .int v394), (3, .long v392), (7, .int r390), (6, .int l6_x36), (5, .ref (aN 5)), (0, .ref (hN 0))] → W p l e _ s m _ below meth c H locs 0 0 _ (F0 m 100 ls [])) => loop (13) fN_before_x36 0 _ _ _ b_fN_before_x36 (show 0 ≤ (0 : Int32).toInt ∧ (0 : Int32).toInt ≤ 12 from by decide) (show ∀ i : Nat, i < 12 → (fN_before_x36 i).toInt = if i < (0 : Int32).toInt.toNat ∧ (fN_before_x36 i).toInt = v394.toInt then v396.toInt else (fN_before_x36 i).toInt from tRel.start) ((by have e9 : (0 : Int32).toInt = 0 := (by decide : (0 : Int32).toInt = 0); omega)) hP hD hS hl) ?_
              intro n9
              induction n9 with
              | zero => intro fN_before_x100 l10_x100 H locs ls b_fN_before_x100 b_l10_x100 hR4 hf9; exact False.elim (by omega)
              | succ n9 ihx100 =>
                intro fN_before_x100 l10_x100 H locs ls b_fN_before_x100 b_l10_x100 hR4 hfx100 hP hD hS hl
                refine lv_iload hx hb dX2_treeArcs_100 (lv_at hl 0 rfl) ?_
                refine lv_bipush (v := 12) hx hb dX2_treeArcs_102 (by decide) ?_
                refine lv_icmp_ge (tgt := 138) hx hb dX2_treeArcs_104 (by decide) (fun c_104 => ?_) (fun c_104 => ?_)
                · have t_104 : l10_x100.toInt ≥ 12 := toI_ge c_104 rfl (by decide : (12 : Int32).toInt = 12)
                  have hl : lv_has _ _ ([(9, .int v396), (8, .int v394), (3, .long v392), (7, .int r390), (6, .int l6_x36), (5, .ref (aN 5)), (1, .long v412), (0, .ref (hN 0))]) := lv_sub hl [2, 3, 4, 5, 6, 7, 1, 8] rfl
                  exact join165 _ _ _ _ ⟨fN_before_x100, v412, b_fN_before_x100, (show tCls (iN_arcs.toInt, fN_from, fN_to, fN_room, fN_cost) (l6_x36.toInt + 1) v392 v412 fN_before_x100 from by have exf : (fN_before_x36 (tFr (iN_arcs.toInt, fN_from, fN_to, fN_room, fN_cost) r390.toInt.toNat)).toInt = v394.toInt := (by rw [b1_v394, b1_v393]; rfl); have eyf : (fN_before_x36 (tTo (iN_arcs.toInt, fN_from, fN_to, fN_room, fN_cost) r390.toInt.toNat)).toInt = v396.toInt := (by rw [b1_v396, b1_v395]; rfl); rw [seL (by omega) b_v391 b_v392, seL (by omega) b_v411 b_v412]; exact tCls.take hT hVal hLe (by omega) (by rw [exf, eyf]; exact t_87) (by rw [exf, eyf]; exact tRel.done hR4 (by omega))), rfl, hP, hD, hS, hl⟩
                · have t_104 : ¬ l10_x100.toInt ≥ 12 := toI_nge c_104 rfl (by decide : (12 : Int32).toInt = 12)
                  refine lv_aload hx hb dX2_treeArcs_107 (lv_at hl 7 rfl) ?_
                  refine lv_iload hx hb dX2_treeArcs_109 (lv_at hl 0 rfl) ?_
                  refine lv_aload hx hb dX2_treeArcs_111 (lv_at hl 7 rfl) ?_
                  refine lv_iload hx hb dX2_treeArcs_113 (lv_at hl 0 rfl) ?_
                  refine va_iald (cA := kN 5) (n := 12) (f := fN_before_x100) hx hb hK hP 6 5 rfl rfl (vp_in_iff.mpr ⟨b_l10_x100.1, (Int.lt_of_lt_of_le (Int.not_le.mp t_104) (by decide))⟩) dX2_treeArcs_115 ?_
                  refine lv_topi (fun v421 hv421 => ?_)
                  have b_v421 : 0 ≤ v421.toInt ∧ v421.toInt ≤ 79 := by rw [hv421]; exact b_fN_before_x100 _
                  have b1_v421 : v421 = fN_before_x100 (l10_x100).toNatClampNeg := hv421
                  clear hv421
                  refine lv_iload hx hb dX2_treeArcs_116 (lv_at hl 3 rfl) ?_
                  refine W.cut (pc := 131) (fun H locs ls stk => ∃ (k0_j168 : Int32), (0 ≤ k0_j168.toInt ∧ k0_j168.toInt ≤ 79) ∧ (k0_j168.toInt = if (fN_before_x100 l10_x100.toInt.toNat).toInt = v394.toInt then v396.toInt else (fN_before_x100 l10_x100.toInt.toNat).toInt) ∧  stk = [.int k0_j168, .int l10_x100, .ref (aN 5)] ∧ va_P (dC, dI) vwCl (WN hN aN kN iN_arcs fN_from fN_to fN_room fN_cost iN_reached fN_free fN_before_x100 fN_flow fN_length fN_stop iN_stops fN_price fN_rest) H ∧ va_D A (WN hN aN kN iN_arcs fN_from fN_to fN_room fN_cost iN_reached fN_free fN_before_x100 fN_flow fN_length fN_stop iN_stops fN_price fN_rest) ∧ va_S A s.heap H locs ∧ lv_has ls 11 [(10, .int l10_x100), (1, .long v412), (9, .int v396), (8, .int v394), (3, .long v392), (7, .int r390), (6, .int l6_x36), (5, .ref (aN 5)), (0, .ref (hN 0))]) (fun join168 => ?_) ?_
                  · refine lv_icmp_ne (tgt := 126) hx hb dX2_treeArcs_118 (by decide) (fun c_118 => ?_) (fun c_118 => ?_)
                    · have t_118 : v421.toInt ≠ v394.toInt := toI_ne c_118 rfl rfl
                      refine lv_aload hx hb dX2_treeArcs_126 (lv_at hl 7 rfl) ?_
                      refine lv_iload hx hb dX2_treeArcs_128 (lv_at hl 0 rfl) ?_
                      refine va_iald (cA := kN 5) (n := 12) (f := fN_before_x100) hx hb hK hP 6 5 rfl rfl (vp_in_iff.mpr ⟨b_l10_x100.1, (by omega)⟩) dX2_treeArcs_130 ?_
                      refine lv_topi (fun v423 hv423 => ?_)
                      have b_v423 : 0 ≤ v423.toInt ∧ v423.toInt ≤ 79 := by rw [hv423]; exact b_fN_before_x100 _
                      have b1_v423 : v423 = fN_before_x100 (l10_x100).toNatClampNeg := hv423
                      clear hv423
                      have hl : lv_has _ _ ([(10, .int l10_x100), (1, .long v412), (9, .int v396), (8, .int v394), (3, .long v392), (7, .int r390), (6, .int l6_x36), (5, .ref (aN 5)), (0, .ref (hN 0))]) := lv_sub hl [0, 1, 2, 3, 4, 5, 6, 7, 8] rfl
                      exact join168 _ _ _ _ ⟨v423, (b_v423), (show v423.toInt = if (fN_before_x100 l10_x100.toInt.toNat).toInt = v394.toInt then v396.toInt else (fN_before_x100 l10_x100.toInt.toNat).toInt from by first | exact tRel.yes b1_v421 t_118 | exact tRel.no b1_v421 t_118 b1_v423), rfl, hP, hD, hS, hl⟩
                    · have t_118 : v421.toInt = v394.toInt := toI_nne c_118 rfl rfl
                      refine lv_iload hx hb dX2_treeArcs_121 (lv_at hl 2 rfl) ?_
                      refine lv_goto (tgt := 131) hx hb dX2_treeArcs_123 (by decide) ?_
                      have hl : lv_has _ _ ([(10, .int l10_x100), (1, .long v412), (9, .int v396), (8, .int v394), (3, .long v392), (7, .int r390), (6, .int l6_x36), (5, .ref (aN 5)), (0, .ref (hN 0))]) := lv_sub hl [0, 1, 2, 3, 4, 5, 6, 7, 8] rfl
                      exact join168 _ _ _ _ ⟨v396, (b_v396), (show v396.toInt = if (fN_before_x100 l10_x100.toInt.toNat).toInt = v394.toInt then v396.toInt else (fN_before_x100 l10_x100.toInt.toNat).toInt from by first | exact tRel.yes b1_v421 t_118 | exact tRel.no b1_v421 t_118 b1_v423), rfl, hP, hD, hS, hl⟩
                  · intro H locs ls stk
                    refine fz_e1 ?_
                    intro k0_j168
                    refine fz_a7 ?_
                    intro b_k0_j168 hv8 hst9_2 hP hD hS hl
                    subst hst9_2
                    refine va_iast (cA := kN 5) (n := 12) (f := fN_before_x100) hx hb hK hP hD hS 6 5 rfl rfl (vp_in_iff.mpr ⟨b_l10_x100.1, (by omega)⟩) dX2_treeArcs_131 (fun H locs hP hD hS => ?_)
                    obtain ⟨u424, hu424⟩ : ∃ f9, f9 = upd fN_before_x100 (l10_x100).toNatClampNeg k0_j168 := ⟨_, rfl⟩
                    have hP : va_P (dC, dI) vwCl (WN hN aN kN iN_arcs fN_from fN_to fN_room fN_cost iN_reached fN_free u424 fN_flow fN_length fN_stop iN_stops fN_price fN_rest) H := by rw [hu424]; exact hP
                    have hD : va_D A (WN hN aN kN iN_arcs fN_from fN_to fN_room fN_cost iN_reached fN_free u424 fN_flow fN_length fN_stop iN_stops fN_price fN_rest) := by rw [hu424]; exact hD
                    have b_u424 : ∀ q : Nat, 0 ≤ (u424 q).toInt ∧ (u424 q).toInt ≤ 79 := by rw [hu424]; exact upd_r b_fN_before_x100 (b_k0_j168)
                    have b1_u424 : u424 = upd fN_before_x100 (l10_x100).toNatClampNeg k0_j168 := hu424
                    clear hu424
                    refine lv_iinc (v := (iI (l10_x100.toInt + 1))) hx hb dX2_treeArcs_132 hl (k := 0) rfl (iI_add2 (iI_of _) (by decide : (1 : Int32) = iI 1)) (by decide) rfl (fun ls (hl : lv_has ls _ ([(10, .int (iI (l10_x100.toInt + 1))), (1, .long v412), (9, .int v396), (8, .int v394), (3, .long v392), (7, .int r390), (6, .int l6_x36), (5, .ref (aN 5)), (0, .ref (hN 0))])) => ?_)
                    refine lv_goto (tgt := 100) hx hb dX2_treeArcs_135 (by decide) ?_
                    have hl : lv_has _ _ ([(10, .int (iI (l10_x100.toInt + 1))), (1, .long v412), (9, .int v396), (8, .int v394), (3, .long v392), (7, .int r390), (6, .int l6_x36), (5, .ref (aN 5)), (0, .ref (hN 0))]) := lv_sub hl [0, 1, 2, 3, 4, 5, 6, 7, 8] rfl
                    exact ihx100 u424 (iI (l10_x100.toInt + 1)) _ _ _ b_u424 (iI_rng (Int.le_trans (by decide) (Int.add_le_add (b_l10_x100.1) (Int.le_refl _))) (by omega) (by decide) (by decide)) (show ∀ i : Nat, i < 12 → (u424 i).toInt = if i < (iI (l10_x100.toInt + 1)).toInt.toNat ∧ (fN_before_x36 i).toInt = v394.toInt then v396.toInt else (fN_before_x36 i).toInt from by rw [iI_t (by omega) (by omega), show (l10_x100.toInt + 1).toNat = l10_x100.toInt.toNat + 1 from by omega, b1_u424]; exact tRel.step hR4 (by omega) rfl hv8) (by have e9 : ((iI (l10_x100.toInt + 1))).toInt = (l10_x100.toInt + 1) := (iI_t (Int.le_trans (by decide) (Int.add_le_add (b_l10_x100.1) (Int.le_refl _))) (Int.le_trans (Int.add_le_add (b_l10_x100.2) (Int.le_refl _)) (by decide))); omega) hP hD hS hl
          · intro H locs ls stk
            refine fz_e2 ?_
            intro fN_before_j165 l1_j165
            refine fz_a7 ?_
            intro b_fN_before_j165 hT8 hst9_2 hP hD hS hl
            subst hst9_2
            refine lv_iinc (v := (iI (l6_x36.toInt + 1))) hx hb dX2_treeArcs_138 hl (k := 4) rfl (iI_add2 (iI_of _) (by decide : (1 : Int32) = iI 1)) (by decide) rfl (fun ls (hl : lv_has ls _ ([(6, .int (iI (l6_x36.toInt + 1))), (9, .int v396), (8, .int v394), (3, .long v392), (7, .int r390), (5, .ref (aN 5)), (1, .long l1_j165), (0, .ref (hN 0))])) => ?_)
            refine lv_goto (tgt := 36) hx hb dX2_treeArcs_141 (by decide) ?_
            have hl : lv_has _ _ ([(6, .int (iI (l6_x36.toInt + 1))), (5, .ref (aN 5)), (3, .long v392), (1, .long l1_j165), (0, .ref (hN 0))]) := lv_sub hl [0, 5, 3, 6, 7] rfl
            exact ihx36 fN_before_j165 (iI (l6_x36.toInt + 1)) v392 l1_j165 _ _ _ b_fN_before_j165 (iI_rng (Int.le_trans (by decide) (Int.add_le_add (b_l6_x36.1) (Int.le_refl _))) (by omega) (by decide) (by decide)) (show tCls (iN_arcs.toInt, fN_from, fN_to, fN_room, fN_cost) (iI (l6_x36.toInt + 1)).toInt v392 l1_j165 fN_before_j165 from by rw [iI_t (by omega) (by omega)]; exact hT8) (show (iI (l6_x36.toInt + 1)).toInt ≤ iN_arcs.toInt from by rw [iI_t (by omega) (by omega)]; omega) (by have e9 : ((iI (l6_x36.toInt + 1))).toInt = (l6_x36.toInt + 1) := (iI_t (Int.le_trans (by decide) (Int.add_le_add (b_l6_x36.1) (Int.le_refl _))) (Int.le_trans (Int.add_le_add (b_l6_x36.2) (Int.le_refl _)) (by decide))); omega) hP hD hS hl
    · have t_17 : ¬ l6_x13.toInt ≥ 12 := toI_nge c_17 rfl (by decide : (12 : Int32).toInt = 12)
      refine lv_aload hx hb dX2_treeArcs_20 (lv_at hl 1 rfl) ?_
      refine lv_iload hx hb dX2_treeArcs_22 (lv_at hl 0 rfl) ?_
      refine lv_iload hx hb dX2_treeArcs_24 (lv_at hl 0 rfl) ?_
      refine va_iast (cA := kN 5) (n := 12) (f := fN_before_x13) hx hb hK hP hD hS 6 5 rfl rfl (vp_in_iff.mpr ⟨b_l6_x13.1, (Int.lt_of_lt_of_le (Int.not_le.mp t_17) (by decide))⟩) dX2_treeArcs_26 (fun H locs hP hD hS => ?_)
      obtain ⟨u425, hu425⟩ : ∃ f9, f9 = upd fN_before_x13 (l6_x13).toNatClampNeg l6_x13 := ⟨_, rfl⟩
      have hP : va_P (dC, dI) vwCl (WN hN aN kN iN_arcs fN_from fN_to fN_room fN_cost iN_reached fN_free u425 fN_flow fN_length fN_stop iN_stops fN_price fN_rest) H := by rw [hu425]; exact hP
      have hD : va_D A (WN hN aN kN iN_arcs fN_from fN_to fN_room fN_cost iN_reached fN_free u425 fN_flow fN_length fN_stop iN_stops fN_price fN_rest) := by rw [hu425]; exact hD
      have b_u425 : ∀ q : Nat, 0 ≤ (u425 q).toInt ∧ (u425 q).toInt ≤ 79 := by rw [hu425]; exact upd_r b_fN_before_x13 (⟨b_l6_x13.1, Int.le_trans b_l6_x13.2 (by decide)⟩)
      have b1_u425 : u425 = upd fN_before_x13 (l6_x13).toNatClampNeg l6_x13 := hu425
      clear hu425
      refine lv_iinc (v := (iI (l6_x13.toInt + 1))) hx hb dX2_treeArcs_27 hl (k := 0) rfl (iI_add2 (iI_of _) (by decide : (1 : Int32) = iI 1)) (by decide) rfl (fun ls (hl : lv_has ls _ ([(6, .int (iI (l6_x13.toInt + 1))), (5, .ref (aN 5)), (3, .long 0), (1, .long 0), (0, .ref (hN 0))])) => ?_)
      refine lv_goto (tgt := 13) hx hb dX2_treeArcs_30 (by decide) ?_
      have hl : lv_has _ _ ([(6, .int (iI (l6_x13.toInt + 1))), (5, .ref (aN 5)), (3, .long 0), (1, .long 0), (0, .ref (hN 0))]) := lv_sub hl [0, 1, 2, 3, 4] rfl
      exact ihx13 u425 (iI (l6_x13.toInt + 1)) _ _ _ b_u425 (iI_rng (Int.le_trans (by decide) (Int.add_le_add (b_l6_x13.1) (Int.le_refl _))) (by omega) (by decide) (by decide)) (show ∀ q : Nat, (q : Int) < (iI (l6_x13.toInt + 1)).toInt → (u425 q).toInt = (q : Int) from by rw [iI_t (by omega) (by omega)]; exact tIni.step hIni (by omega) b1_u425) (by have e9 : ((iI (l6_x13.toInt + 1))).toInt = (l6_x13.toInt + 1) := (iI_t (Int.le_trans (by decide) (Int.add_le_add (b_l6_x13.1) (Int.le_refl _))) (Int.le_trans (Int.add_le_add (b_l6_x13.2) (Int.le_refl _)) (by decide))); omega) hP hD hS hl
end
section
/-! the class's tours: stops, prices, the table of rests -/
def tuStI (b : Nat → Bool) (k s : Int) (f : Nat → Int32) : Prop := s = (cntB b k.toNat : Int) ∧ ∀ j : Nat, (j : Int) < s → (f j).toInt = (tuK b j : Int)
theorem tuStI.start {b : Nat → Bool} {k s : Int} {f : Nat → Int32} (hk : k = 0) (hs : s = 0) : tuStI b k s f := by
  subst hk hs
  exact ⟨rfl, fun j hj => by omega⟩
theorem tuStI.skip {b : Nat → Bool} {k k2 s : Int} {f : Nat → Int32} (h : tuStI b k s f) (h0 : 0 ≤ k) (hk : k2 = k + 1) (hb : b k.toNat = false) : tuStI b k2 s f := by
  subst hk
  refine ⟨?_, h.2⟩
  rw [show (k + 1).toNat = k.toNat + 1 by omega, cntB_s0 hb]
  exact h.1
theorem tuStI.take {b : Nat → Bool} {k k2 s s2 : Int} {f g : Nat → Int32} {v : Int32} (h : tuStI b k s f) (h0 : 0 ≤ k) (hk12 : k < 12) (hk : k2 = k + 1) (hs : s2 = s + 1) (hb : b k.toNat = true) (hg : g = upd f s.toNat v) (hv : v.toInt = k) : tuStI b k2 s2 g := by
  subst hk hs hg
  have h1 := h.1
  refine ⟨?_, fun j hj => ?_⟩
  · rw [show (k + 1).toNat = k.toNat + 1 by omega, cntB_s hb]
    omega
  · show (if j = s.toNat then v else f j).toInt = _
    by_cases e : j = s.toNat
    · rw [if_pos e, hv, e, show s.toNat = cntB b k.toNat by omega, tuK_at (by omega) hb]
      omega
    · rw [if_neg e]
      exact h.2 j (by omega)
theorem tuStI.done {b : Nat → Bool} {k s : Int} {f : Nat → Int32} (h : tuStI b k s f) (h8 : cntB b 12 ≤ 8) (hk0 : 0 ≤ k) (hk : k ≤ 12) (he : 12 ≤ k ∨ 8 ≤ s) : s = (cntB b 12 : Int) ∧ ∀ j : Nat, j < cntB b 12 → (f j).toInt = (tuK b j : Int) := by
  have h1 := h.1
  have h2 := cntB_up (f := b) (i := k.toNat) (j := 12) (by omega)
  have e : s = (cntB b 12 : Int) := by
    rcases he with he | he
    · rw [show k = 12 by omega] at h1
      exact h1
    · omega
  exact ⟨e, fun j hj => h.2 j (by omega)⟩
def tuPrI (d : NtD) (m : Nat → Nat) (n a b i : Nat) (f : Nat → Int32) : Prop := ∀ x y, x < n → y < n → (f (8 * x + y)).toInt = if x < a ∨ (x = a ∧ y < b) then tuL d (m x) (m y) d.1.toNat else if x = a ∧ y = b then tuL d (m x) (m y) i else 536870912
theorem tuPrI.start {d : NtD} {m : Nat → Nat} {n a b i : Nat} {f : Nat → Int32} (hn : n ≤ 8) (h : ∀ k, k < 64 → (f k).toInt = 536870912) (ha : a = 0) (hb : b = 0) (hi : i = 0) : tuPrI d m n a b i f := by
  subst ha hb hi
  intro x y hx hy
  rw [h (8 * x + y) (by omega), if_neg (by omega)]
  split
  · rfl
  · rfl
theorem tuPrI.skip {d : NtD} {m : Nat → Nat} {n a b i : Nat} {f : Nat → Int32} (h : tuPrI d m n a b i f) (hm : ¬ (tFr d i = m a ∧ tTo d i = m b)) : tuPrI d m n a b (i + 1) f := by
  intro x y hx hy
  rw [h x y hx hy]
  by_cases e1 : x < a ∨ (x = a ∧ y < b)
  · rw [if_pos e1, if_pos e1]
  · rw [if_neg e1, if_neg e1]
    by_cases e2 : x = a ∧ y = b
    · rw [if_pos e2, if_pos e2, e2.1, e2.2, tuL_no hm]
    · rw [if_neg e2, if_neg e2]
theorem tuPrI.put {d : NtD} {m : Nat → Nat} {n a b i k : Nat} {f g : Nat → Int32} {v : Int32} (h : tuPrI d m n a b i f) (ha : a < n) (hb : b < n) (hn : n ≤ 8) (h1 : tFr d i = m a) (h2 : tTo d i = m b) (hk : k = 8 * a + b) (hg : g = upd f k v) (hv : v.toInt = if tCo d i < (f k).toInt then tCo d i else (f k).toInt) : tuPrI d m n a b (i + 1) g := by
  subst hk hg
  intro x y hx hy
  have h0 := h a b ha hb
  rw [if_neg (by omega), if_pos ⟨rfl, rfl⟩] at h0
  show (if 8 * x + y = 8 * a + b then v else f (8 * x + y)).toInt = _
  by_cases e2 : x = a ∧ y = b
  · obtain ⟨rfl, rfl⟩ := e2
    rw [if_pos rfl, if_neg (show ¬ (x < x ∨ (x = x ∧ y < y)) by omega), if_pos ⟨rfl, rfl⟩, tuL_yes h1 h2, hv, h0]
  · rw [if_neg (by omega), h x y hx hy]
    by_cases e1 : x < a ∨ (x = a ∧ y < b)
    · rw [if_pos e1, if_pos e1]
    · rw [if_neg e1, if_neg e1, if_neg e2, if_neg e2]
theorem tuPrI.nextb {d : NtD} {m : Nat → Nat} {n a b i j : Nat} {f : Nat → Int32} (h : tuPrI d m n a b i f) (hi : i = d.1.toNat) (hj : j = 0) : tuPrI d m n a (b + 1) j f := by
  subst hj
  intro x y hx hy
  rw [h x y hx hy]
  by_cases e1 : x < a ∨ (x = a ∧ y < b)
  · rw [if_pos e1, if_pos (by omega)]
  · rw [if_neg e1]
    by_cases e2 : x = a ∧ y = b
    · rw [if_pos e2, if_pos (by omega), hi]
    · rw [if_neg e2, if_neg (by omega)]
      split
      · rfl
      · rfl
theorem tuPrI.nexta {d : NtD} {m : Nat → Nat} {n a b i c j : Nat} {f : Nat → Int32} (h : tuPrI d m n a b i f) (hb : n ≤ b) (hc : c = 0) (hj : j = 0) : tuPrI d m n (a + 1) c j f := by
  subst hc hj
  intro x y hx hy
  rw [h x y hx hy]
  by_cases e1 : x < a ∨ (x = a ∧ y < b)
  · rw [if_pos e1, if_pos (by omega)]
  · rw [if_neg e1, if_neg (by omega), if_neg (by omega)]
    split
    · rfl
    · rfl
theorem tuPrI.done {d : NtD} {m : Nat → Nat} {n a b i : Nat} {f : Nat → Int32} (h : tuPrI d m n a b i f) (ha : n ≤ a) : ∀ x y, x < n → y < n → (f (8 * x + y)).toInt = tuL d (m x) (m y) d.1.toNat := fun x y hx hy => by
  rw [h x y hx hy, if_pos (by omega)]
/-! rows as tables -/
def tuTab (f : Nat → Int32) (x a : Nat) : Int := (f (8 * x + a)).toInt
def tuV1 (P : Nat → Nat → Int) (n : Nat) (F : Nat → Nat → Int) (x a : Nat) (r : Int) : Prop := (x = 0 → r = P a 0) ∧ (x ≠ 0 → r ≤ 536870912 ∧ (∀ b, 1 ≤ b → b < n → x.testBit (b - 1) = true → r ≤ tuG P F x a b) ∧ (r = 536870912 ∨ ∃ b, 1 ≤ b ∧ b < n ∧ x.testBit (b - 1) = true ∧ r = tuG P F x a b))
def tuRs (P : Nat → Nat → Int) (F : Nat → Nat → Int) (x a c : Nat) (r : Int) : Prop := (0 ≤ r ∧ r ≤ 536870912) ∧ (∀ b, 1 ≤ b → b < c → x.testBit (b - 1) = true → r ≤ tuG P F x a b) ∧ (r = 536870912 ∨ ∃ b, 1 ≤ b ∧ b < c ∧ x.testBit (b - 1) = true ∧ r = tuG P F x a b)
theorem tuRs.start {P : Nat → Nat → Int} {F : Nat → Nat → Int} {x a c : Nat} {r : Int} (hc : c = 1) (hr : r = 536870912) : tuRs P F x a c r := by
  subst hc
  exact ⟨by omega, fun b h1 h2 => by omega, Or.inl hr⟩
theorem tuRs.skip {P : Nat → Nat → Int} {F : Nat → Nat → Int} {x a c : Nat} {r : Int} (h : tuRs P F x a c r) (hb : x.testBit (c - 1) = false) : tuRs P F x a (c + 1) r := by
  obtain ⟨h1, h2, h3⟩ := h
  refine ⟨h1, fun b hb1 hb2 hb3 => ?_, ?_⟩
  · rcases Nat.lt_or_ge b c with h4 | h4
    · exact h2 b hb1 h4 hb3
    · rw [show b = c by omega, hb] at hb3
      cases hb3
  · rcases h3 with h3 | ⟨b, g1, g2, g3, g4⟩
    · exact Or.inl h3
    · exact Or.inr ⟨b, g1, by omega, g3, g4⟩
theorem tuRs.take {P : Nat → Nat → Int} {F : Nat → Nat → Int} {x a c : Nat} {r v g : Int} (h : tuRs P F x a c r) (hc : 1 ≤ c) (hb : x.testBit (c - 1) = true) (hv : v = tuG P F x a c) (hv0 : 0 ≤ v) (hg : (g ≤ r ∧ g ≤ v) ∧ (g = r ∨ g = v)) : tuRs P F x a (c + 1) g := by
  obtain ⟨h1, h2, h3⟩ := h
  refine ⟨by omega, fun b hb1 hb2 hb3 => ?_, ?_⟩
  · rcases Nat.lt_or_ge b c with h4 | h4
    · have h5 := h2 b hb1 h4 hb3
      omega
    · rw [show b = c by omega, ← hv]
      omega
  · rcases hg.2 with e | e
    · rcases h3 with h3 | ⟨b, g1, g2, g3, g4⟩
      · exact Or.inl (by omega)
      · exact Or.inr ⟨b, g1, by omega, g3, by omega⟩
    · exact Or.inr ⟨c, hc, by omega, hb, by omega⟩
theorem tuRs.done {P : Nat → Nat → Int} {F : Nat → Nat → Int} {n x a c : Nat} {r : Int} (h : tuRs P F x a c r) (hx : x ≠ 0) (hc : n ≤ c) (hc2 : c ≤ n) : tuV1 P n F x a r := by
  have e : c = n := by omega
  subst e
  exact ⟨fun h9 => absurd h9 hx, fun _ => ⟨h.1.2, h.2.1, h.2.2⟩⟩
/-- what stands in the table ahead of (x, a) -/
def tuTb (P : Nat → Nat → Int) (n : Nat) (f : Nat → Int32) (x a : Nat) : Prop := ∀ y b, b < n → (y < x ∨ (y = x ∧ b < a)) → tuV1 P n (tuTab f) y b (tuTab f y b) ∧ 0 ≤ tuTab f y b ∧ tuTab f y b ≤ 536870912
theorem tuTb.start {P : Nat → Nat → Int} {n x a : Nat} {f : Nat → Int32} (hx : x = 0) (ha : a = 0) : tuTb P n f x a := fun y b _ h => by omega
theorem tuG_cg {P : Nat → Nat → Int} {F G : Nat → Nat → Int} {x a b : Nat} (h : F (x - 2 ^ (b - 1)) b = G (x - 2 ^ (b - 1)) b) : tuG P F x a b = tuG P G x a b := by
  unfold tuG
  rw [h]
theorem tuOff_lt {x b : Nat} (hx : x ≠ 0) : x - 2 ^ b < x := by
  exact Nat.sub_lt (Nat.pos_of_ne_zero hx) (Nat.two_pow_pos b)
theorem tuV1.cg {P : Nat → Nat → Int} {n : Nat} {F G : Nat → Nat → Int} {x a : Nat} {r : Int} (h : tuV1 P n F x a r) (hg : ∀ y b, y < x → b < n → F y b = G y b) : tuV1 P n G x a r := by
  refine ⟨h.1, fun hx => ?_⟩
  obtain ⟨h1, h2, h3⟩ := h.2 hx
  refine ⟨h1, fun b hb1 hb2 hb3 => ?_, ?_⟩
  · rw [← tuG_cg (P := P) (a := a) (hg _ b (tuOff_lt hx) hb2)]
    exact h2 b hb1 hb2 hb3
  · rcases h3 with h3 | ⟨b, g1, g2, g3, g4⟩
    · exact Or.inl h3
    · exact Or.inr ⟨b, g1, g2, g3, by rw [← tuG_cg (P := P) (a := a) (hg _ b (tuOff_lt hx) g2)]; exact g4⟩
theorem tuTb.put {P : Nat → Nat → Int} {n x a k : Nat} {f g : Nat → Int32} {v : Int32} (h : tuTb P n f x a) (hn : n ≤ 8) (ha : a < n) (hk : k = 8 * x + a) (hg : g = upd f k v) (hv : tuV1 P n (tuTab f) x a v.toInt) (hv0 : 0 ≤ v.toInt ∧ v.toInt ≤ 536870912) : tuTb P n g x (a + 1) := by
  subst hk hg
  have eo : ∀ y b, b < n → ¬ (y = x ∧ b = a) → tuTab (upd f (8 * x + a) v) y b = tuTab f y b := fun y b hb hne => by
    show (if 8 * y + b = 8 * x + a then v else f (8 * y + b)).toInt = _
    rw [if_neg (by omega)]
    rfl
  have es : tuTab (upd f (8 * x + a) v) x a = v.toInt := by
    show (if 8 * x + a = 8 * x + a then v else f (8 * x + a)).toInt = _
    rw [if_pos rfl]
  intro y b hb hyb
  by_cases e : y = x ∧ b = a
  · rw [e.1, e.2, es]
    exact ⟨hv.cg (fun y b hy hb => (eo y b hb (by omega)).symm), hv0.1, hv0.2⟩
  · have h1 := h y b hb (by omega)
    rw [eo y b hb e]
    exact ⟨h1.1.cg (fun y2 b2 hy hb2 => (eo y2 b2 hb2 (by omega)).symm), h1.2⟩
theorem tuTb.row {P : Nat → Nat → Int} {n x a : Nat} {f : Nat → Int32} {y b : Nat} (h : tuTb P n f x a) (ha : n ≤ a) (hy : y = x + 1) (hb : b = 0) : tuTb P n f y b := by
  subst hy hb
  intro z c hc hz
  exact h z c hc (by omega)
theorem tuTb.done {P : Nat → Nat → Int} {n x : Nat} {f : Nat → Int32} (h : tuTb P n f x 0) (hx : 2 ^ (n - 1) ≤ x) : tuT P n (tuTab f) := fun y a hy ha => (h y a ha (by omega)).1
/-- the prices as a function, for all stops -/
def tuPx (f : Nat → Int32) (n a b : Nat) : Int := if a < n ∧ b < n then (f (8 * a + b)).toInt else 536870912
theorem tuN_eq {q : Nat → Bool} {f : Nat} : ∀ {a r : Nat}, a ≤ r → r < a + f → q r = true → (∀ c, a ≤ c → c < r → q c = false) → tuN q f a = r := by
  induction f with
  | zero => intro a r h1 h2; omega
  | succ f ih =>
    intro a r h1 h2 h3 h4
    show (if q a = true then a else tuN q f (a + 1)) = r
    by_cases e : a = r
    · rw [e, if_pos h3]
    · rw [if_neg (by rw [h4 a (Nat.le_refl _) (by omega)]; decide)]
      exact ih (by omega) (by omega) h3 (fun c h5 h6 => h4 c (by omega) h6)
theorem tuO_q {P : Nat → Nat → Int} {n : Nat} {F : Nat → Nat → Int} (hP : tuP P) (hF : tuT P n F) (h0 : 1 ≤ n) (hn : n ≤ 8) (hlt : F (2 ^ (n - 1) - 1) 0 < 536870912) {k : Nat} (hk : k + 1 < n) : ∃ b, 1 ≤ b ∧ b < n ∧ tuQ P F (tuF n (tuO P n F) k) (tuO P n F k) b = true := by
  obtain ⟨hw, hc⟩ := tuO_ok hP hF h0 hn hlt k (by omega)
  have hc0 := tuC_0 (P := P) (n := n) (o := tuO P n F) hP k
  have hT := (hF (tuF n (tuO P n F) k) (tuO P n F k) (tuF_lt h0 k) (hw.2.1 k (Nat.le_refl _))).2 (tuF_more hn hk hw)
  obtain ⟨b, hb1, hb2, hb3, hb4⟩ := hT.2.2.resolve_left (fun h9 => by omega)
  refine ⟨b, hb1, hb2, ?_⟩
  unfold tuQ
  rw [hb3, decide_eq_true hb4.symm]
  rfl
/-! numbers and bits -/
theorem tuAnd_all : ((List.range 128).all (fun x => (List.range 7).all (fun j => !(x.testBit j) || decide ((nI x &&& (((1 : Int32) <<< (nI j &&& 31)) ^^^ (-1))) = nI (x - 2 ^ j))))) = true := by decide +kernel
theorem nI_at {p : Int32} {x : Nat} (h : p.toInt = (x : Int)) : p = nI x := by
  have h1 := Int32.toInt_lt p
  exact Int32.toInt_inj.mp (by rw [nI_toInt (by omega)]; exact h)
theorem tuAndT {p v5 v6 q : Int32} {x j : Nat} (h5 : v5 = (1 : Int32) <<< (q &&& 31)) (h6 : v6 = v5 ^^^ (-1)) (hx : p.toInt = (x : Int)) (hx2 : x < 128) (hj : q.toInt = (j : Int)) (hj2 : j < 7) (hb : x.testBit j = true) : (p &&& v6).toInt = ((x - 2 ^ j : Nat) : Int) := by
  have h2 := List.all_eq_true.mp (List.all_eq_true.mp tuAnd_all x (List.mem_range.mpr hx2)) j (List.mem_range.mpr hj2)
  rw [hb] at h2
  have h3 : (nI x &&& (((1 : Int32) <<< (nI j &&& 31)) ^^^ (-1))) = nI (x - 2 ^ j) := of_decide_eq_true (by simpa using h2)
  rw [h6, h5, nI_at hx, nI_at hj, h3, nI_toInt (Nat.lt_of_le_of_lt (Nat.sub_le _ _) (by omega))]
theorem tuShl_all : ((List.range 8).all (fun j => decide (((1 : Int32) <<< (nI j &&& 31)) = nI (2 ^ j)))) = true := by decide +kernel
theorem tuShl {q : Int32} {j : Nat} (hj : q.toInt = (j : Int)) (hj2 : j < 8) : ((1 : Int32) <<< (q &&& 31)).toInt = ((2 ^ j : Nat) : Int) := by
  have h3 : ((1 : Int32) <<< (nI j &&& 31)) = nI (2 ^ j) := of_decide_eq_true (List.all_eq_true.mp tuShl_all j (List.mem_range.mpr hj2))
  have h4 : 2 ^ j ≤ 2 ^ 7 := Nat.pow_le_pow_right (by decide) (by omega)
  rw [nI_at hj, h3, nI_toInt (by omega)]
theorem bt_tb {p : Int32} {j : Nat} (h0 : 0 ≤ p.toInt) (hj : j < 32) : bt p j = p.toInt.toNat.testBit j := by
  have e : p = nI p.toInt.toNat := nI_at (by omega)
  show bI p j = _
  rw [e, bI_nI hj, ← e]
theorem tuV1.cgP {P Q : Nat → Nat → Int} {n : Nat} {F : Nat → Nat → Int} {x a : Nat} {r : Int} (h : tuV1 P n F x a r) (h0 : 1 ≤ n) (hg : ∀ b, b < n → P a b = Q a b) : tuV1 Q n F x a r := by
  have e : ∀ b, b < n → tuG P F x a b = tuG Q F x a b := fun b hb => by
    unfold tuG
    rw [hg b hb]
  refine ⟨fun hx => by rw [← hg 0 (by omega)]; exact h.1 hx, fun hx => ?_⟩
  obtain ⟨h1, h2, h3⟩ := h.2 hx
  refine ⟨h1, fun b hb1 hb2 hb3 => by rw [← e b hb2]; exact h2 b hb1 hb2 hb3, ?_⟩
  rcases h3 with h3 | ⟨b, g1, g2, g3, g4⟩
  · exact Or.inl h3
  · exact Or.inr ⟨b, g1, g2, g3, by rw [← e b g2]; exact g4⟩
theorem tuQ_cgP {P Q : Nat → Nat → Int} {F : Nat → Nat → Int} {x a b : Nat} (hg : P a b = Q a b) : tuQ P F x a b = tuQ Q F x a b := by
  unfold tuQ tuG
  rw [hg]
theorem tuQ_no1 {P : Nat → Nat → Int} {F : Nat → Nat → Int} {x a b : Nat} (h : x.testBit (b - 1) = false) : tuQ P F x a b = false := by
  unfold tuQ
  rw [h, Bool.false_and]
theorem tuQ_no2 {P : Nat → Nat → Int} {F : Nat → Nat → Int} {x a b : Nat} (h : tuG P F x a b ≠ F x a) : tuQ P F x a b = false := by
  unfold tuQ
  rw [decide_eq_false h, Bool.and_false]
theorem tuQ_yes {P : Nat → Nat → Int} {F : Nat → Nat → Int} {x a b : Nat} (h : x.testBit (b - 1) = true) (h2 : tuG P F x a b = F x a) : tuQ P F x a b = true := by
  unfold tuQ
  rw [h, decide_eq_true h2]
  rfl
theorem tuSeen.step {q : Nat → Bool} {c : Int} (h : ∀ k : Nat, 1 ≤ k → (k : Int) < c → q k = false) (hc : 0 ≤ c) (hq : q c.toNat = false) {c2 : Int} (e : c2 = c + 1) : ∀ k : Nat, 1 ≤ k → (k : Int) < c2 → q k = false := fun k h1 h2 => by
  subst e
  by_cases e2 : k = c.toNat
  · rw [e2]
    exact hq
  · exact h k h1 (by omega)
/-- one step of the way that the table tells -/
theorem tuO_step {P Q : Nat → Nat → Int} {n k : Nat} {F : Nat → Nat → Int} {x a r : Nat} (hP : tuP P) (hF : tuT P n F) (h0 : 1 ≤ n) (hn : n ≤ 8) (hlt : F (2 ^ (n - 1) - 1) 0 < 536870912) (hk : k + 1 < n) (hx : x = tuF n (tuO P n F) k) (ha : a = tuO P n F k) (hg : ∀ b, b < n → Q a b = P a b) (hr : (∃ b : Nat, 1 ≤ b ∧ b < n ∧ tuQ Q F x a b = true) → 1 ≤ r ∧ r < n ∧ tuQ Q F x a r = true ∧ ∀ c : Nat, 1 ≤ c → c < r → tuQ Q F x a c = false) : r = tuO P n F (k + 1) ∧ 1 ≤ r ∧ r < n ∧ x.testBit (r - 1) = true ∧ x - 2 ^ (r - 1) = tuF n (tuO P n F) (k + 1) := by
  obtain ⟨b, hb1, hb2, hb3⟩ := tuO_q hP hF h0 hn hlt hk
  rw [← hx, ← ha] at hb3
  obtain ⟨h1, h2, h3, h4⟩ := hr ⟨b, hb1, hb2, by rw [tuQ_cgP (hg b hb2)]; exact hb3⟩
  have e : r = tuO P n F (k + 1) := by
    rw [tuO_next, ← hx, ← ha]
    exact (tuN_eq (q := tuQ P F x a) (f := n - 1) (a := 1) h1 (by omega) (by rw [← tuQ_cgP (hg r h2)]; exact h3) (fun c h5 h6 => by rw [← tuQ_cgP (hg c (by omega))]; exact h4 c h5 h6)).symm
  have h5 : x.testBit (r - 1) = true := by
    unfold tuQ at h3
    rw [Bool.and_eq_true] at h3
    exact h3.1
  refine ⟨e, h1, h2, h5, ?_⟩
  show _ = tuF n (tuO P n F) k - 2 ^ (tuO P n F (k + 1) - 1)
  rw [← e, ← hx]
theorem tuG_0 {P : Nat → Nat → Int} {F : Nat → Nat → Int} {x a b : Nat} (hp : 0 ≤ P a b) (hr : 0 ≤ F (x - 2 ^ (b - 1)) b) : 0 ≤ tuG P F x a b := by
  unfold tuG tuMin
  split <;> omega
theorem tuNz {p : Int32} (h0 : 0 ≤ p.toInt) (h : 2 ≤ cntB (bI p) 12) : 1 ≤ p.toInt := by
  by_cases e : p.toInt = 0
  · have e2 : p = 0 := Int32.toInt_inj.mp (by rw [e]; rfl)
    rw [e2, cntB_congr (g := fun _ => false) (fun i _ => bI_0 i)] at h
    have h2 : cntB (fun _ => false) 12 = 0 := by decide
    omega
  · omega
theorem tuBitNz {x j : Nat} (h : x.testBit j = true) : x ≠ 0 := fun e => by
  rw [e, Nat.zero_testBit] at h
  cases h
end
section
theorem hd_yX2_costOver_RX2 : yX2_costOver.cls = RX2 ∧ yX2_costOver.cls ≠ "java/lang/invoke/MethodHandle" ∧ yX2_costOver.cls ≠ "java/lang/invoke/VarHandle" ∧ (parseMethodDescriptor yX2_costOver.desc).map (fun d => d.parameters.length) = some 3 := by decide +kernel
theorem hd_yX2_takeStops_RX2 : yX2_takeStops.cls = RX2 ∧ yX2_takeStops.cls ≠ "java/lang/invoke/MethodHandle" ∧ yX2_takeStops.cls ≠ "java/lang/invoke/VarHandle" ∧ (parseMethodDescriptor yX2_takeStops.desc).map (fun d => d.parameters.length) = some 1 := by decide +kernel
theorem hd_yX2_takePrices_RX2 : yX2_takePrices.cls = RX2 ∧ yX2_takePrices.cls ≠ "java/lang/invoke/MethodHandle" ∧ yX2_takePrices.cls ≠ "java/lang/invoke/VarHandle" ∧ (parseMethodDescriptor yX2_takePrices.desc).map (fun d => d.parameters.length) = some 0 := by decide +kernel
theorem hd_yX2_nextStop_RX2 : yX2_nextStop.cls = RX2 ∧ yX2_nextStop.cls ≠ "java/lang/invoke/MethodHandle" ∧ yX2_nextStop.cls ≠ "java/lang/invoke/VarHandle" ∧ (parseMethodDescriptor yX2_nextStop.desc).map (fun d => d.parameters.length) = some 2 := by decide +kernel
theorem hd_yX2_restFrom_RX2 : yX2_restFrom.cls = RX2 ∧ yX2_restFrom.cls ≠ "java/lang/invoke/MethodHandle" ∧ yX2_restFrom.cls ≠ "java/lang/invoke/VarHandle" ∧ (parseMethodDescriptor yX2_restFrom.desc).map (fun d => d.parameters.length) = some 2 := by decide +kernel
theorem dX2_takeStops_0 : decode cX2_takeStops 0 = .ok (.aload_n 0, 1) := dk_42 (by decide +kernel)
theorem dX2_takeStops_1 : decode cX2_takeStops 1 = .ok (.iconst 0, 1) := dk_3 (by decide +kernel)
theorem dX2_takeStops_2 : decode cX2_takeStops 2 = .ok (.putfield 98, 3) := dk_181 (by decide +kernel)
theorem dX2_takeStops_5 : decode cX2_takeStops 5 = .ok (.iconst 0, 1) := dk_3 (by decide +kernel)
theorem dX2_takeStops_6 : decode cX2_takeStops 6 = .ok (.istore_n 2, 1) := dk_61 (by decide +kernel)
theorem dX2_takeStops_7 : decode cX2_takeStops 7 = .ok (.iload_n 2, 1) := dk_28 (by decide +kernel)
theorem dX2_takeStops_8 : decode cX2_takeStops 8 = .ok (.bipush 12, 2) := dk_16 (by decide +kernel)
theorem dX2_takeStops_10 : decode cX2_takeStops 10 = .ok (.if_icmp .ge 46, 3) := dk_162 (by decide +kernel)
theorem dX2_takeStops_13 : decode cX2_takeStops 13 = .ok (.aload_n 0, 1) := dk_42 (by decide +kernel)
theorem dX2_takeStops_14 : decode cX2_takeStops 14 = .ok (.getfield 98, 3) := dk_180 (by decide +kernel)
theorem dX2_takeStops_17 : decode cX2_takeStops 17 = .ok (.bipush 8, 2) := dk_16 (by decide +kernel)
theorem dX2_takeStops_19 : decode cX2_takeStops 19 = .ok (.if_icmp .ge 37, 3) := dk_162 (by decide +kernel)
theorem dX2_takeStops_22 : decode cX2_takeStops 22 = .ok (.iload_n 1, 1) := dk_27 (by decide +kernel)
theorem dX2_takeStops_23 : decode cX2_takeStops 23 = .ok (.iload_n 2, 1) := dk_28 (by decide +kernel)
theorem dX2_takeStops_24 : decode cX2_takeStops 24 = .ok (.ishr, 1) := dk_122 (by decide +kernel)
theorem dX2_takeStops_25 : decode cX2_takeStops 25 = .ok (.iconst 1, 1) := dk_4 (by decide +kernel)
theorem dX2_takeStops_26 : decode cX2_takeStops 26 = .ok (.iand, 1) := dk_126 (by decide +kernel)
theorem dX2_takeStops_27 : decode cX2_takeStops 27 = .ok (.ifCond .eq 23, 3) := dk_153 (by decide +kernel)
theorem dX2_takeStops_30 : decode cX2_takeStops 30 = .ok (.aload_n 0, 1) := dk_42 (by decide +kernel)
theorem dX2_takeStops_31 : decode cX2_takeStops 31 = .ok (.getfield 36, 3) := dk_180 (by decide +kernel)
theorem dX2_takeStops_34 : decode cX2_takeStops 34 = .ok (.aload_n 0, 1) := dk_42 (by decide +kernel)
theorem dX2_takeStops_35 : decode cX2_takeStops 35 = .ok (.getfield 98, 3) := dk_180 (by decide +kernel)
theorem dX2_takeStops_38 : decode cX2_takeStops 38 = .ok (.iload_n 2, 1) := dk_28 (by decide +kernel)
theorem dX2_takeStops_39 : decode cX2_takeStops 39 = .ok (.iastore, 1) := dk_79 (by decide +kernel)
theorem dX2_takeStops_40 : decode cX2_takeStops 40 = .ok (.aload_n 0, 1) := dk_42 (by decide +kernel)
theorem dX2_takeStops_41 : decode cX2_takeStops 41 = .ok (.dup, 1) := dk_89 (by decide +kernel)
theorem dX2_takeStops_42 : decode cX2_takeStops 42 = .ok (.getfield 98, 3) := dk_180 (by decide +kernel)
theorem dX2_takeStops_45 : decode cX2_takeStops 45 = .ok (.iconst 1, 1) := dk_4 (by decide +kernel)
theorem dX2_takeStops_46 : decode cX2_takeStops 46 = .ok (.iadd, 1) := dk_96 (by decide +kernel)
theorem dX2_takeStops_47 : decode cX2_takeStops 47 = .ok (.putfield 98, 3) := dk_181 (by decide +kernel)
theorem dX2_takeStops_50 : decode cX2_takeStops 50 = .ok (.iinc 2 1, 3) := dk_132 (by decide +kernel)
theorem dX2_takeStops_53 : decode cX2_takeStops 53 = .ok (.goto (-46), 3) := dk_167 (by decide +kernel)
theorem dX2_takeStops_56 : decode cX2_takeStops 56 = .ok (.return_, 1) := dk_177 (by decide +kernel)
def wsMX2_takeStops : List Cond := .code yX2_takeStops cX2_takeStops 3 none :: ([.fieldLink RX2 98 "OptimaWorks$NetDesk" "stops" "I", .fieldLink RX2 36 "OptimaWorks$NetDesk" "stop" "[I"] ++ wsX20)
theorem iwsMX2_takeStops_in2 : ∀ w ∈ wsX20, w ∈ wsMX2_takeStops := fun _ h => List.mem_cons_of_mem _ (List.mem_append_right _ h)
theorem gdwsMX2_takeStops : wsMX2_takeStops.all goodWord = true := gdC rfl (gdA (by decide +kernel : ([.fieldLink RX2 98 "OptimaWorks$NetDesk" "stops" "I", .fieldLink RX2 36 "OptimaWorks$NetDesk" "stop" "[I"] : List Cond).all goodWord = true) gdwsX20)
theorem hm_m_X2_takeStops_0 : (.fieldLink RX2 98 "OptimaWorks$NetDesk" "stops" "I" : Cond) ∈ wsMX2_takeStops := by decide +kernel
set_option maxHeartbeats 4000000 in
set_option maxRecDepth 100000 in
/-- the stops of a tour -/
theorem m_X2_takeStops (l : Launch) (dC : Nat → ClassId) (dI : Nat → Nat → Nat) (hN : Nat → Nat) (aN : Nat → Nat) (kN : Nat → ClassId) (iN_arcs : Int32) (fN_from : Nat → Int32) (fN_to : Nat → Int32) (fN_room : Nat → Int32) (fN_cost : Nat → Int32) (iN_reached : Int32) (fN_free : Nat → Int32) (fN_before : Nat → Int32) (fN_flow : Nat → Int32) (fN_length : Nat → Int32) (fN_stop : Nat → Int32) (iN_stops : Int32) (fN_price : Nat → Int32) (fN_rest : Nat → Int32) (p1 : Int32) (b_iN_arcs : 0 ≤ iN_arcs.toInt ∧ iN_arcs.toInt ≤ 40) (b_fN_from : ∀ q : Nat, 0 ≤ (fN_from q).toInt ∧ (fN_from q).toInt ≤ 11) (b_fN_to : ∀ q : Nat, 0 ≤ (fN_to q).toInt ∧ (fN_to q).toInt ≤ 11) (b_fN_before : ∀ q : Nat, 0 ≤ (fN_before q).toInt ∧ (fN_before q).toInt ≤ 79) (b_fN_stop : ∀ q : Nat, 0 ≤ (fN_stop q).toInt ∧ (fN_stop q).toInt ≤ 11) (b_iN_stops : 0 ≤ iN_stops.toInt ∧ iN_stops.toInt ≤ 8) (b_p1 : 1 ≤ p1.toInt ∧ p1.toInt ≤ 4095) (h8 : cntB (bI p1) 12 ≤ 8) (sz : Nat) : Met l yX2_takeStops wsMX2_takeStops ({ frames := 0, cells := 0, slots := 0, locals := 0 }) (va_Pc [.ref (hN 0), .int p1] (fun U => U.heap.size = sz ∧ va_P (dC, dI) vwCl (WN hN aN kN iN_arcs fN_from fN_to fN_room fN_cost iN_reached fN_free fN_before fN_flow fN_length fN_stop iN_stops fN_price fN_rest) U.heap ∧ va_K (dC, dI) vwCl (tN kN) U ∧ va_D (fun _ => True) (WN hN aN kN iN_arcs fN_from fN_to fN_room fN_cost iN_reached fN_free fN_before fN_flow fN_length fN_stop iN_stops fN_price fN_rest))) (va_Qv (fun (u : (Nat → Int32) × (Int32)) => (∀ q : Nat, 0 ≤ ((u.1) q).toInt ∧ ((u.1) q).toInt ≤ 11) ∧ (0 ≤ (u.2).toInt ∧ (u.2).toInt ≤ 8) ∧ (1 ≤ (u.2).toInt) ∧ ((u.2).toInt = (cntB (bI p1) 12 : Int) ∧ ∀ j : Nat, j < cntB (bI p1) 12 → ((u.1) j).toInt = (tuK (bI p1) j : Int))) (fun (u : (Nat → Int32) × (Int32)) t => va_P (dC, dI) vwCl (WN hN aN kN iN_arcs fN_from fN_to fN_room fN_cost iN_reached fN_free fN_before fN_flow fN_length (u.1) (u.2) fN_price fN_rest) t.heap ∧ va_D (va_A (WN hN aN kN iN_arcs fN_from fN_to fN_room fN_cost iN_reached fN_free fN_before fN_flow fN_length fN_stop iN_stops fN_price fN_rest) sz) (WN hN aN kN iN_arcs fN_from fN_to fN_room fN_cost iN_reached fN_free fN_before fN_flow fN_length (u.1) (u.2) fN_price fN_rest)) (va_A (WN hN aN kN iN_arcs fN_from fN_to fN_room fN_cost iN_reached fN_free fN_before fN_flow fN_length fN_stop iN_stops fN_price fN_rest) sz)) 0 0 (va_A (WN hN aN kN iN_arcs fN_from fN_to fN_room fN_cost iN_reached fN_free fN_before fN_flow fN_length fN_stop iN_stops fN_price fN_rest) sz) := by
  refine Met.ofW (cc := cX2_takeStops) (maxL := 3) (ret := none) (by decide) rfl ?_
  intro p e s m args below meth c s₁ B hml hv
  obtain ⟨rfl, hsz, hP, hK, hD0⟩ := hv
  have hx := B.exec
  have hb := B.bytes
  have hr := B.returns
  have hts := atoms_spec (ws := wsMX2_takeStops) B.pre
  have hown : s.vm.findClass RX2 = some m.cls := findClass_of_methodNamed B.named
  have hlocks := B.notSynchronized
  subst hsz
  have hD := hD0.self (sz := s.heap.size)
  generalize hAe : va_A (WN hN aN kN iN_arcs fN_from fN_to fN_room fN_cost iN_reached fN_free fN_before fN_flow fN_length fN_stop iN_stops fN_price fN_rest) s.heap.size = A at hD ⊢
  have hA : ∀ q : Nat, s.heap.size ≤ q → A q := fun q h => by rw [← hAe]; exact Or.inr h
  have hS : va_S A s.heap s.heap [] := va_S.rf
  have hl := lv_entry ([.ref (hN 0), .int p1]) (n := 3) (Nat.le_of_ble_eq_true rfl)
  rw [lg_entry_eq]
  generalize (lg_sl ([.ref (hN 0), .int p1]) ++ List.replicate (3 - (lg_sl ([.ref (hN 0), .int p1])).length) Slot.unset).toArray = ls at hl ⊢
  have hl : lv_has ls 3 [(0, .ref (hN 0)), (1, .int p1)] := hl
  refine lv_aload_n hx hb dX2_takeStops_0 rfl (lv_at hl 0 rfl) ?_
  refine lv_iconst (v := 0) hx hb dX2_takeStops_1 (by decide) ?_
  refine va_put (D := (dC, dI)) (ci := 2) (v := .int 0) (ty := .int) (C := RX2) (T := TX2) (N := 14) hx hb hts iwsMX2_takeStops_in2 tyX2 tyX2_ok nmX2 hown hK hP hD hS 0 rfl rfl 11 (by decide) (hts _ hm_m_X2_takeStops_0) (fun _ h9 => h9) rfl (by decide +kernel) rfl rfl (Nat.le_of_ble_eq_true rfl) dX2_takeStops_2 (fun H locs hP hD hS => ?_)
  have hP : va_P (dC, dI) vwCl (WN hN aN kN iN_arcs fN_from fN_to fN_room fN_cost iN_reached fN_free fN_before fN_flow fN_length fN_stop 0 fN_price fN_rest) H := hP
  have hD := fz_sd hP (hD) rfl
  refine lv_iconst (v := 0) hx hb dX2_takeStops_5 (by decide) ?_
  refine lv_istore_n hx hb dX2_takeStops_6 rfl hl (by decide) rfl (fun ls (hl : lv_has ls _ ([(2, .int 0), (0, .ref (hN 0)), (1, .int p1)])) => ?_)
  have hl : lv_has _ _ ([(2, .int 0), (0, .ref (hN 0)), (1, .int p1)]) := lv_sub hl [0, 1, 2] rfl
  refine (fun (loop : ∀ (n9 : Nat) (fN_stop_x7 : Nat → Int32) (iN_stops_x7 : Int32) (l2_x7 : Int32) (H : Heap) (locs : List Loc) (ls : Array Slot), (∀ q : Nat, 0 ≤ (fN_stop_x7 q).toInt ∧ (fN_stop_x7 q).toInt ≤ 11) → (0 ≤ iN_stops_x7.toInt ∧ iN_stops_x7.toInt ≤ 8) → (0 ≤ l2_x7.toInt ∧ l2_x7.toInt ≤ 12) → (1 ≤ iN_stops_x7.toInt ∨ ∀ j : Nat, (j : Int) < l2_x7.toInt → bt p1 j = false) → (tuStI (bI p1) l2_x7.toInt iN_stops_x7.toInt fN_stop_x7) → (12 - l2_x7.toInt < ((n9 : Nat) : Int)) → va_P (dC, dI) vwCl (WN hN aN kN iN_arcs fN_from fN_to fN_room fN_cost iN_reached fN_free fN_before fN_flow fN_length fN_stop_x7 iN_stops_x7 fN_price fN_rest) H → va_D A (WN hN aN kN iN_arcs fN_from fN_to fN_room fN_cost iN_reached fN_free fN_before fN_flow fN_length fN_stop_x7 iN_stops_x7 fN_price fN_rest) → va_S A s.heap H locs → lv_has ls 3 [(2, .int l2_x7), (0, .ref (hN 0)), (1, .int p1)] → W p l e _ s m _ below meth c H locs 0 0 _ (F0 m 7 ls [])) => loop (13) fN_stop 0 0 _ _ _ b_fN_stop (show 0 ≤ (0 : Int32).toInt ∧ (0 : Int32).toInt ≤ 8 from by decide) (show 0 ≤ (0 : Int32).toInt ∧ (0 : Int32).toInt ≤ 12 from by decide) (show 1 ≤ (0 : Int32).toInt ∨ ∀ j : Nat, (j : Int) < (0 : Int32).toInt → bt p1 j = false from Or.inr (fun j hj => absurd hj (by have : (0 : Int32).toInt = 0 := (by decide); omega))) (show tuStI (bI p1) (0 : Int32).toInt (0 : Int32).toInt fN_stop from tuStI.start (by decide) (by decide)) ((by have e9 : (0 : Int32).toInt = 0 := (by decide : (0 : Int32).toInt = 0); omega)) hP hD hS hl) ?_
  intro n9
  induction n9 with
  | zero => intro fN_stop_x7 iN_stops_x7 l2_x7 H locs ls b_fN_stop_x7 b_iN_stops_x7 b_l2_x7 hst1 hSt hf9; exact False.elim (by omega)
  | succ n9 ihx7 =>
    intro fN_stop_x7 iN_stops_x7 l2_x7 H locs ls b_fN_stop_x7 b_iN_stops_x7 b_l2_x7 hst1 hSt hfx7 hP hD hS hl
    refine lv_iload_n hx hb dX2_takeStops_7 rfl (lv_at hl 0 rfl) ?_
    refine lv_bipush (v := 12) hx hb dX2_takeStops_8 (by decide) ?_
    refine W.cut (pc := 56) (fun H locs ls stk => (12 ≤ l2_x7.toInt ∨ 1 ≤ iN_stops_x7.toInt) ∧ (12 ≤ l2_x7.toInt ∨ 8 ≤ iN_stops_x7.toInt) ∧  stk = [] ∧ va_P (dC, dI) vwCl (WN hN aN kN iN_arcs fN_from fN_to fN_room fN_cost iN_reached fN_free fN_before fN_flow fN_length fN_stop_x7 iN_stops_x7 fN_price fN_rest) H ∧ va_D A (WN hN aN kN iN_arcs fN_from fN_to fN_room fN_cost iN_reached fN_free fN_before fN_flow fN_length fN_stop_x7 iN_stops_x7 fN_price fN_rest) ∧ va_S A s.heap H locs ∧ lv_has ls 3 [(2, .int l2_x7), (0, .ref (hN 0)), (1, .int p1)]) (fun join4 => ?_) ?_
    · refine lv_icmp_ge (tgt := 56) hx hb dX2_takeStops_10 (by decide) (fun c_10 => ?_) (fun c_10 => ?_)
      · have t_10 : l2_x7.toInt ≥ 12 := toI_ge c_10 rfl (by decide : (12 : Int32).toInt = 12)
        have hl : lv_has _ _ ([(2, .int l2_x7), (0, .ref (hN 0)), (1, .int p1)]) := lv_sub hl [0, 1, 2] rfl
        exact join4 _ _ _ _ ⟨(show 12 ≤ l2_x7.toInt ∨ 1 ≤ iN_stops_x7.toInt from by first | assumption | omega), (show 12 ≤ l2_x7.toInt ∨ 8 ≤ iN_stops_x7.toInt from by first | assumption | omega), rfl, hP, hD, hS, hl⟩
      · have t_10 : ¬ l2_x7.toInt ≥ 12 := toI_nge c_10 rfl (by decide : (12 : Int32).toInt = 12)
        refine lv_aload_n hx hb dX2_takeStops_13 rfl (lv_at hl 1 rfl) ?_
        refine va_get (D := (dC, dI)) (ci := 2) (v := .int iN_stops_x7) (C := RX2) (T := TX2) (N := 14) hx hb hts iwsMX2_takeStops_in2 hown hK hP 0 rfl rfl 11 (by decide) (hts _ hm_m_X2_takeStops_0) (fun _ h9 => h9) rfl dX2_takeStops_14 ?_
        refine lv_bipush (v := 8) hx hb dX2_takeStops_17 (by decide) ?_
        refine lv_icmp_ge (tgt := 56) hx hb dX2_takeStops_19 (by decide) (fun c_19 => ?_) (fun c_19 => ?_)
        · have t_19 : iN_stops_x7.toInt ≥ 8 := toI_ge c_19 rfl (by decide : (8 : Int32).toInt = 8)
          have hl : lv_has _ _ ([(2, .int l2_x7), (0, .ref (hN 0)), (1, .int p1)]) := lv_sub hl [0, 1, 2] rfl
          exact join4 _ _ _ _ ⟨(show 12 ≤ l2_x7.toInt ∨ 1 ≤ iN_stops_x7.toInt from by first | assumption | omega), (show 12 ≤ l2_x7.toInt ∨ 8 ≤ iN_stops_x7.toInt from by first | assumption | omega), rfl, hP, hD, hS, hl⟩
        · have t_19 : ¬ iN_stops_x7.toInt ≥ 8 := toI_nge c_19 rfl (by decide : (8 : Int32).toInt = 8)
          refine lv_iload_n hx hb dX2_takeStops_22 rfl (lv_at hl 2 rfl) ?_
          refine lv_iload_n hx hb dX2_takeStops_23 rfl (lv_at hl 0 rfl) ?_
          refine lv_ishr hx hb dX2_takeStops_24 ?_
          refine lv_topi (fun v17 hv17 => ?_)
          have b_v17 : v17 = p1 >>> (l2_x7 &&& 31) := hv17
          clear hv17
          refine lv_iconst (v := 1) hx hb dX2_takeStops_25 (by decide) ?_
          refine lv_iand hx hb dX2_takeStops_26 ?_
          refine lv_topi (fun v18 hv18 => ?_)
          have b_v18 : (bt p1 l2_x7.toInt.toNat = true ∧ v18.toInt = 1) ∨ (bt p1 l2_x7.toInt.toNat = false ∧ v18.toInt = 0) := by rw [hv18]; exact sh_and1 b_v17 rfl (by omega) (by omega)
          clear hv18
          refine lv_if_eq (tgt := 50) hx hb dX2_takeStops_27 (by decide) (fun c_27 => ?_) (fun c_27 => ?_)
          · have t_27 : v18.toInt = 0 := toI_eq c_27 rfl (by decide : (0 : Int32).toInt = 0)
            refine lv_iinc (v := (iI (l2_x7.toInt + 1))) hx hb dX2_takeStops_50 hl (k := 0) rfl (iI_add2 (iI_of _) (by decide : (1 : Int32) = iI 1)) (by decide) rfl (fun ls (hl : lv_has ls _ ([(2, .int (iI (l2_x7.toInt + 1))), (0, .ref (hN 0)), (1, .int p1)])) => ?_)
            refine lv_goto (tgt := 7) hx hb dX2_takeStops_53 (by decide) ?_
            have hl : lv_has _ _ ([(2, .int (iI (l2_x7.toInt + 1))), (0, .ref (hN 0)), (1, .int p1)]) := lv_sub hl [0, 1, 2] rfl
            exact ihx7 fN_stop_x7 iN_stops_x7 (iI (l2_x7.toInt + 1)) _ _ _ b_fN_stop_x7 (b_iN_stops_x7) (iI_rng (Int.le_trans (by decide) (Int.add_le_add (b_l2_x7.1) (Int.le_refl _))) (by omega) (by decide) (by decide)) (show 1 ≤ iN_stops_x7.toInt ∨ ∀ j : Nat, (j : Int) < (iI (l2_x7.toInt + 1)).toInt → bt p1 j = false from by first | exact tk_0 hst1 (by omega) (iI_t (by omega) (by omega)) t_27 (by assumption) | exact Or.inl (by rw [iI_t (by omega) (by omega)]; omega)) (show tuStI (bI p1) (iI (l2_x7.toInt + 1)).toInt iN_stops_x7.toInt fN_stop_x7 from tuStI.skip hSt (by omega) (iI_t (by omega) (by omega)) (bt_no b_v18 t_27)) (by have e9 : ((iI (l2_x7.toInt + 1))).toInt = (l2_x7.toInt + 1) := (iI_t (Int.le_trans (by decide) (Int.add_le_add (b_l2_x7.1) (Int.le_refl _))) (Int.le_trans (Int.add_le_add (b_l2_x7.2) (Int.le_refl _)) (by decide))); omega) hP hD hS hl
          · have t_27 : ¬ v18.toInt = 0 := toI_neq c_27 rfl (by decide : (0 : Int32).toInt = 0)
            refine lv_aload_n hx hb dX2_takeStops_30 rfl (lv_at hl 1 rfl) ?_
            refine va_get (D := (dC, dI)) (ci := 2) (v := .ref (aN 8)) (C := RX2) (T := TX2) (N := 14) hx hb hts iwsMX2_takeStops_in2 hown hK hP 0 rfl rfl 10 (by decide) (hts (.fieldLink RX2 36 "OptimaWorks$NetDesk" "stop" "[I") (by decide +kernel)) (fun _ h9 => h9) rfl dX2_takeStops_31 ?_
            refine lv_aload_n hx hb dX2_takeStops_34 rfl (lv_at hl 1 rfl) ?_
            refine va_get (D := (dC, dI)) (ci := 2) (v := .int iN_stops_x7) (C := RX2) (T := TX2) (N := 14) hx hb hts iwsMX2_takeStops_in2 hown hK hP 0 rfl rfl 11 (by decide) (hts _ hm_m_X2_takeStops_0) (fun _ h9 => h9) rfl dX2_takeStops_35 ?_
            refine lv_iload_n hx hb dX2_takeStops_38 rfl (lv_at hl 0 rfl) ?_
            refine va_iast (cA := kN 8) (n := 8) (f := fN_stop_x7) hx hb hK hP hD hS 9 8 rfl rfl (vp_in_iff.mpr ⟨b_iN_stops_x7.1, (Int.lt_of_lt_of_le (Int.not_le.mp t_19) (by decide))⟩) dX2_takeStops_39 (fun H locs hP hD hS => ?_)
            obtain ⟨u19, hu19⟩ : ∃ f9, f9 = upd fN_stop_x7 (iN_stops_x7).toNatClampNeg l2_x7 := ⟨_, rfl⟩
            have hP : va_P (dC, dI) vwCl (WN hN aN kN iN_arcs fN_from fN_to fN_room fN_cost iN_reached fN_free fN_before fN_flow fN_length u19 iN_stops_x7 fN_price fN_rest) H := by rw [hu19]; exact hP
            have hD : va_D A (WN hN aN kN iN_arcs fN_from fN_to fN_room fN_cost iN_reached fN_free fN_before fN_flow fN_length u19 iN_stops_x7 fN_price fN_rest) := by rw [hu19]; exact hD
            have b_u19 : ∀ q : Nat, 0 ≤ (u19 q).toInt ∧ (u19 q).toInt ≤ 11 := by rw [hu19]; exact upd_r b_fN_stop_x7 (by first | exact b_l2_x7 | with_reducible assumption | exact ⟨by omega, by omega⟩ | assumption)
            have b1_u19 : u19 = upd fN_stop_x7 (iN_stops_x7).toNatClampNeg l2_x7 := hu19
            clear hu19
            refine lv_aload_n hx hb dX2_takeStops_40 rfl (lv_at hl 1 rfl) ?_
            refine lv_dup hx hb dX2_takeStops_41 rfl ?_
            refine va_get (D := (dC, dI)) (ci := 2) (v := .int iN_stops_x7) (C := RX2) (T := TX2) (N := 14) hx hb hts iwsMX2_takeStops_in2 hown hK hP 0 rfl rfl 11 (by decide) (hts _ hm_m_X2_takeStops_0) (fun _ h9 => h9) rfl dX2_takeStops_42 ?_
            refine lv_iconst (v := 1) hx hb dX2_takeStops_45 (by decide) ?_
            refine lv_iadd hx hb dX2_takeStops_46 ?_
            refine lv_topi (fun y20 hy20 => ?_)
            obtain rfl : (iI (iN_stops_x7.toInt + 1)) = y20 := (hy20.trans (iI_add2 (iI_of _) (by decide : (1 : Int32) = iI 1))).symm
            refine va_put (D := (dC, dI)) (ci := 2) (v := .int (iI (iN_stops_x7.toInt + 1))) (ty := .int) (C := RX2) (T := TX2) (N := 14) hx hb hts iwsMX2_takeStops_in2 tyX2 tyX2_ok nmX2 hown hK hP hD hS 0 rfl rfl 11 (by decide) (hts _ hm_m_X2_takeStops_0) (fun _ h9 => h9) rfl (by decide +kernel) rfl rfl (Nat.le_of_ble_eq_true rfl) dX2_takeStops_47 (fun H locs hP hD hS => ?_)
            have hP : va_P (dC, dI) vwCl (WN hN aN kN iN_arcs fN_from fN_to fN_room fN_cost iN_reached fN_free fN_before fN_flow fN_length u19 (iI (iN_stops_x7.toInt + 1)) fN_price fN_rest) H := hP
            have hD := fz_sd hP (hD) rfl
            refine lv_iinc (v := (iI (l2_x7.toInt + 1))) hx hb dX2_takeStops_50 hl (k := 0) rfl (iI_add2 (iI_of _) (by decide : (1 : Int32) = iI 1)) (by decide) rfl (fun ls (hl : lv_has ls _ ([(2, .int (iI (l2_x7.toInt + 1))), (0, .ref (hN 0)), (1, .int p1)])) => ?_)
            refine lv_goto (tgt := 7) hx hb dX2_takeStops_53 (by decide) ?_
            have hl : lv_has _ _ ([(2, .int (iI (l2_x7.toInt + 1))), (0, .ref (hN 0)), (1, .int p1)]) := lv_sub hl [0, 1, 2] rfl
            exact ihx7 u19 (iI (iN_stops_x7.toInt + 1)) (iI (l2_x7.toInt + 1)) _ _ _ b_u19 (iI_rng (Int.le_trans (by decide) (Int.add_le_add (b_iN_stops_x7.1) (Int.le_refl _))) (by omega) (by decide) (by decide)) (iI_rng (Int.le_trans (by decide) (Int.add_le_add (b_l2_x7.1) (Int.le_refl _))) (by omega) (by decide) (by decide)) (show 1 ≤ (iI (iN_stops_x7.toInt + 1)).toInt ∨ ∀ j : Nat, (j : Int) < (iI (l2_x7.toInt + 1)).toInt → bt p1 j = false from by first | exact tk_0 hst1 (by omega) (iI_t (by omega) (by omega)) t_27 (by assumption) | exact Or.inl (by rw [iI_t (by omega) (by omega)]; omega)) (show tuStI (bI p1) (iI (l2_x7.toInt + 1)).toInt (iI (iN_stops_x7.toInt + 1)).toInt u19 from tuStI.take hSt (by omega) (by omega) (iI_t (by omega) (by omega)) (iI_t (by omega) (by omega)) (bt_yes b_v18 t_27) b1_u19 rfl) (by have e9 : ((iI (l2_x7.toInt + 1))).toInt = (l2_x7.toInt + 1) := (iI_t (Int.le_trans (by decide) (Int.add_le_add (b_l2_x7.1) (Int.le_refl _))) (Int.le_trans (Int.add_le_add (b_l2_x7.2) (Int.le_refl _)) (by decide))); omega) hP hD hS hl
    · rintro H locs ls stk ⟨hjn, hje, rfl, hP, hD, hS, hl⟩
      refine W.widen (k := 0) (n := 0) (by decide +kernel) (by decide +kernel) ?_
      exact W.vret hx hb hr (fun t9_ ht hW => ⟨⟨(fN_stop_x7, iN_stops_x7), rfl, ⟨b_fN_stop_x7, b_iN_stops_x7, (by (try dsimp only); exact (tk_end hst1 hjn (by omega) (by omega))), (by (try dsimp only); exact (tuStI.done hSt h8 (by omega) (by omega) hje))⟩, by rw [ht]; exact hP, hD⟩, hS.F ht⟩) hS.2.2 dX2_takeStops_56
theorem dX2_takePrices_0 : decode cX2_takePrices 0 = .ok (.aload_n 0, 1) := dk_42 (by decide +kernel)
theorem dX2_takePrices_1 : decode cX2_takePrices 1 = .ok (.getfield 39, 3) := dk_180 (by decide +kernel)
theorem dX2_takePrices_4 : decode cX2_takePrices 4 = .ok (.ldc 60, 2) := dk_18 (by decide +kernel)
theorem dX2_takePrices_6 : decode cX2_takePrices 6 = .ok (.invokestatic 49, 3) := dk_184 (by decide +kernel)
theorem dX2_takePrices_9 : decode cX2_takePrices 9 = .ok (.iconst 0, 1) := dk_3 (by decide +kernel)
theorem dX2_takePrices_10 : decode cX2_takePrices 10 = .ok (.istore_n 1, 1) := dk_60 (by decide +kernel)
theorem dX2_takePrices_11 : decode cX2_takePrices 11 = .ok (.iload_n 1, 1) := dk_27 (by decide +kernel)
theorem dX2_takePrices_12 : decode cX2_takePrices 12 = .ok (.aload_n 0, 1) := dk_42 (by decide +kernel)
theorem dX2_takePrices_13 : decode cX2_takePrices 13 = .ok (.getfield 98, 3) := dk_180 (by decide +kernel)
theorem dX2_takePrices_16 : decode cX2_takePrices 16 = .ok (.if_icmp .ge 102, 3) := dk_162 (by decide +kernel)
theorem dX2_takePrices_19 : decode cX2_takePrices 19 = .ok (.iconst 0, 1) := dk_3 (by decide +kernel)
theorem dX2_takePrices_20 : decode cX2_takePrices 20 = .ok (.istore_n 2, 1) := dk_61 (by decide +kernel)
theorem dX2_takePrices_21 : decode cX2_takePrices 21 = .ok (.iload_n 2, 1) := dk_28 (by decide +kernel)
theorem dX2_takePrices_22 : decode cX2_takePrices 22 = .ok (.aload_n 0, 1) := dk_42 (by decide +kernel)
theorem dX2_takePrices_23 : decode cX2_takePrices 23 = .ok (.getfield 98, 3) := dk_180 (by decide +kernel)
theorem dX2_takePrices_26 : decode cX2_takePrices 26 = .ok (.if_icmp .ge 86, 3) := dk_162 (by decide +kernel)
theorem dX2_takePrices_29 : decode cX2_takePrices 29 = .ok (.iconst 0, 1) := dk_3 (by decide +kernel)
theorem dX2_takePrices_30 : decode cX2_takePrices 30 = .ok (.istore_n 3, 1) := dk_62 (by decide +kernel)
theorem dX2_takePrices_31 : decode cX2_takePrices 31 = .ok (.iload_n 3, 1) := dk_29 (by decide +kernel)
theorem dX2_takePrices_32 : decode cX2_takePrices 32 = .ok (.aload_n 0, 1) := dk_42 (by decide +kernel)
theorem dX2_takePrices_33 : decode cX2_takePrices 33 = .ok (.getfield 45, 3) := dk_180 (by decide +kernel)
theorem dX2_takePrices_36 : decode cX2_takePrices 36 = .ok (.if_icmp .ge 70, 3) := dk_162 (by decide +kernel)
theorem dX2_takePrices_39 : decode cX2_takePrices 39 = .ok (.aload_n 0, 1) := dk_42 (by decide +kernel)
theorem dX2_takePrices_40 : decode cX2_takePrices 40 = .ok (.getfield 11, 3) := dk_180 (by decide +kernel)
theorem dX2_takePrices_43 : decode cX2_takePrices 43 = .ok (.iload_n 3, 1) := dk_29 (by decide +kernel)
theorem dX2_takePrices_44 : decode cX2_takePrices 44 = .ok (.iaload, 1) := dk_46 (by decide +kernel)
theorem dX2_takePrices_45 : decode cX2_takePrices 45 = .ok (.aload_n 0, 1) := dk_42 (by decide +kernel)
theorem dX2_takePrices_46 : decode cX2_takePrices 46 = .ok (.getfield 36, 3) := dk_180 (by decide +kernel)
theorem dX2_takePrices_49 : decode cX2_takePrices 49 = .ok (.iload_n 1, 1) := dk_27 (by decide +kernel)
theorem dX2_takePrices_50 : decode cX2_takePrices 50 = .ok (.iaload, 1) := dk_46 (by decide +kernel)
theorem dX2_takePrices_51 : decode cX2_takePrices 51 = .ok (.if_icmp .ne 49, 3) := dk_160 (by decide +kernel)
theorem dX2_takePrices_54 : decode cX2_takePrices 54 = .ok (.aload_n 0, 1) := dk_42 (by decide +kernel)
theorem dX2_takePrices_55 : decode cX2_takePrices 55 = .ok (.getfield 15, 3) := dk_180 (by decide +kernel)
theorem dX2_takePrices_58 : decode cX2_takePrices 58 = .ok (.iload_n 3, 1) := dk_29 (by decide +kernel)
theorem dX2_takePrices_59 : decode cX2_takePrices 59 = .ok (.iaload, 1) := dk_46 (by decide +kernel)
theorem dX2_takePrices_60 : decode cX2_takePrices 60 = .ok (.aload_n 0, 1) := dk_42 (by decide +kernel)
theorem dX2_takePrices_61 : decode cX2_takePrices 61 = .ok (.getfield 36, 3) := dk_180 (by decide +kernel)
theorem dX2_takePrices_64 : decode cX2_takePrices 64 = .ok (.iload_n 2, 1) := dk_28 (by decide +kernel)
theorem dX2_takePrices_65 : decode cX2_takePrices 65 = .ok (.iaload, 1) := dk_46 (by decide +kernel)
theorem dX2_takePrices_66 : decode cX2_takePrices 66 = .ok (.if_icmp .ne 34, 3) := dk_160 (by decide +kernel)
theorem dX2_takePrices_69 : decode cX2_takePrices 69 = .ok (.aload_n 0, 1) := dk_42 (by decide +kernel)
theorem dX2_takePrices_70 : decode cX2_takePrices 70 = .ok (.getfield 39, 3) := dk_180 (by decide +kernel)
theorem dX2_takePrices_73 : decode cX2_takePrices 73 = .ok (.iload_n 1, 1) := dk_27 (by decide +kernel)
theorem dX2_takePrices_74 : decode cX2_takePrices 74 = .ok (.bipush 8, 2) := dk_16 (by decide +kernel)
theorem dX2_takePrices_76 : decode cX2_takePrices 76 = .ok (.imul, 1) := dk_104 (by decide +kernel)
theorem dX2_takePrices_77 : decode cX2_takePrices 77 = .ok (.iload_n 2, 1) := dk_28 (by decide +kernel)
theorem dX2_takePrices_78 : decode cX2_takePrices 78 = .ok (.iadd, 1) := dk_96 (by decide +kernel)
theorem dX2_takePrices_79 : decode cX2_takePrices 79 = .ok (.aload_n 0, 1) := dk_42 (by decide +kernel)
theorem dX2_takePrices_80 : decode cX2_takePrices 80 = .ok (.getfield 39, 3) := dk_180 (by decide +kernel)
theorem dX2_takePrices_83 : decode cX2_takePrices 83 = .ok (.iload_n 1, 1) := dk_27 (by decide +kernel)
theorem dX2_takePrices_84 : decode cX2_takePrices 84 = .ok (.bipush 8, 2) := dk_16 (by decide +kernel)
theorem dX2_takePrices_86 : decode cX2_takePrices 86 = .ok (.imul, 1) := dk_104 (by decide +kernel)
theorem dX2_takePrices_87 : decode cX2_takePrices 87 = .ok (.iload_n 2, 1) := dk_28 (by decide +kernel)
theorem dX2_takePrices_88 : decode cX2_takePrices 88 = .ok (.iadd, 1) := dk_96 (by decide +kernel)
theorem dX2_takePrices_89 : decode cX2_takePrices 89 = .ok (.iaload, 1) := dk_46 (by decide +kernel)
theorem dX2_takePrices_90 : decode cX2_takePrices 90 = .ok (.aload_n 0, 1) := dk_42 (by decide +kernel)
theorem dX2_takePrices_91 : decode cX2_takePrices 91 = .ok (.getfield 21, 3) := dk_180 (by decide +kernel)
theorem dX2_takePrices_94 : decode cX2_takePrices 94 = .ok (.iload_n 3, 1) := dk_29 (by decide +kernel)
theorem dX2_takePrices_95 : decode cX2_takePrices 95 = .ok (.iaload, 1) := dk_46 (by decide +kernel)
theorem dX2_takePrices_96 : decode cX2_takePrices 96 = .ok (.invokestatic 61, 3) := dk_184 (by decide +kernel)
theorem dX2_takePrices_99 : decode cX2_takePrices 99 = .ok (.iastore, 1) := dk_79 (by decide +kernel)
theorem dX2_takePrices_100 : decode cX2_takePrices 100 = .ok (.iinc 3 1, 3) := dk_132 (by decide +kernel)
theorem dX2_takePrices_103 : decode cX2_takePrices 103 = .ok (.goto (-72), 3) := dk_167 (by decide +kernel)
theorem dX2_takePrices_106 : decode cX2_takePrices 106 = .ok (.iinc 2 1, 3) := dk_132 (by decide +kernel)
theorem dX2_takePrices_109 : decode cX2_takePrices 109 = .ok (.goto (-88), 3) := dk_167 (by decide +kernel)
theorem dX2_takePrices_112 : decode cX2_takePrices 112 = .ok (.iinc 1 1, 3) := dk_132 (by decide +kernel)
theorem dX2_takePrices_115 : decode cX2_takePrices 115 = .ok (.goto (-104), 3) := dk_167 (by decide +kernel)
theorem dX2_takePrices_118 : decode cX2_takePrices 118 = .ok (.return_, 1) := dk_177 (by decide +kernel)
def wsMX2_takePrices : List Cond := .code yX2_takePrices cX2_takePrices 4 none :: ([.fieldLink RX2 39 "OptimaWorks$NetDesk" "price" "[I", .constant RX2 60 536870912, .fieldLink RX2 98 "OptimaWorks$NetDesk" "stops" "I", .fieldLink RX2 45 "OptimaWorks$NetDesk" "arcs" "I", .fieldLink RX2 11 "OptimaWorks$NetDesk" "from" "[I", .fieldLink RX2 36 "OptimaWorks$NetDesk" "stop" "[I", .fieldLink RX2 15 "OptimaWorks$NetDesk" "to" "[I", .fieldLink RX2 21 "OptimaWorks$NetDesk" "cost" "[I", .methodLink RX2 61 Lib.Math.min.name, .static Lib.Math.min.name, .initialized "java/lang/Math", .code Lib.Math.min.name Lib.Math.min.code 2 (some .int)] ++ wsX20 ++ (va_wsS RX2 49 yJ7_fill_53178 wsMJ7_fill_53178))
theorem iwsMX2_takePrices_in2 : ∀ w ∈ wsX20, w ∈ wsMX2_takePrices := fun _ h => List.mem_cons_of_mem _ (List.mem_append_left _ (List.mem_append_right _ h))
theorem gwsMX2_takePrices_0 : GoodIn wsMX2_takePrices (va_wsS RX2 49 yJ7_fill_53178 wsMJ7_fill_53178) := goodIn_sub (fun _ h => List.mem_cons_of_mem _ (List.mem_append_right _ h)) (gdS (by decide +kernel) gdwsMJ7_fill_53178)
theorem gdwsMX2_takePrices : wsMX2_takePrices.all goodWord = true := gdC rfl (gdA (gdA (by decide +kernel : ([.fieldLink RX2 39 "OptimaWorks$NetDesk" "price" "[I", .constant RX2 60 536870912, .fieldLink RX2 98 "OptimaWorks$NetDesk" "stops" "I", .fieldLink RX2 45 "OptimaWorks$NetDesk" "arcs" "I", .fieldLink RX2 11 "OptimaWorks$NetDesk" "from" "[I", .fieldLink RX2 36 "OptimaWorks$NetDesk" "stop" "[I", .fieldLink RX2 15 "OptimaWorks$NetDesk" "to" "[I", .fieldLink RX2 21 "OptimaWorks$NetDesk" "cost" "[I", .methodLink RX2 61 Lib.Math.min.name, .static Lib.Math.min.name, .initialized "java/lang/Math", .code Lib.Math.min.name Lib.Math.min.code 2 (some .int)] : List Cond).all goodWord = true) gdwsX20) (gdS (by decide +kernel) gdwsMJ7_fill_53178))
theorem hm_m_X2_takePrices_0 : (.fieldLink RX2 39 "OptimaWorks$NetDesk" "price" "[I" : Cond) ∈ wsMX2_takePrices := by decide +kernel
theorem hm_m_X2_takePrices_1 : (.fieldLink RX2 98 "OptimaWorks$NetDesk" "stops" "I" : Cond) ∈ wsMX2_takePrices := by decide +kernel
theorem hm_m_X2_takePrices_2 : (.fieldLink RX2 36 "OptimaWorks$NetDesk" "stop" "[I" : Cond) ∈ wsMX2_takePrices := by decide +kernel
set_option maxHeartbeats 4000000 in
set_option maxRecDepth 100000 in
/-- prices between the stops -/
theorem m_X2_takePrices (l : Launch) (dC : Nat → ClassId) (dI : Nat → Nat → Nat) (hN : Nat → Nat) (aN : Nat → Nat) (kN : Nat → ClassId) (iN_arcs : Int32) (fN_from : Nat → Int32) (fN_to : Nat → Int32) (fN_room : Nat → Int32) (fN_cost : Nat → Int32) (iN_reached : Int32) (fN_free : Nat → Int32) (fN_before : Nat → Int32) (fN_flow : Nat → Int32) (fN_length : Nat → Int32) (fN_stop : Nat → Int32) (iN_stops : Int32) (fN_price : Nat → Int32) (fN_rest : Nat → Int32) (b_iN_arcs : 0 ≤ iN_arcs.toInt ∧ iN_arcs.toInt ≤ 40) (b_fN_from : ∀ q : Nat, 0 ≤ (fN_from q).toInt ∧ (fN_from q).toInt ≤ 11) (b_fN_to : ∀ q : Nat, 0 ≤ (fN_to q).toInt ∧ (fN_to q).toInt ≤ 11) (b_fN_before : ∀ q : Nat, 0 ≤ (fN_before q).toInt ∧ (fN_before q).toInt ≤ 79) (b_fN_stop : ∀ q : Nat, 0 ≤ (fN_stop q).toInt ∧ (fN_stop q).toInt ≤ 11) (b_iN_stops : 0 ≤ iN_stops.toInt ∧ iN_stops.toInt ≤ 8) (sz : Nat) : Met l yX2_takePrices wsMX2_takePrices ({ frames := 1, cells := 0, slots := 0, locals := 23 }) (va_Pc [.ref (hN 0)] (fun U => U.heap.size = sz ∧ va_P (dC, dI) vwCl (WN hN aN kN iN_arcs fN_from fN_to fN_room fN_cost iN_reached fN_free fN_before fN_flow fN_length fN_stop iN_stops fN_price fN_rest) U.heap ∧ va_K (dC, dI) vwCl (tN kN) U ∧ va_D (fun _ => True) (WN hN aN kN iN_arcs fN_from fN_to fN_room fN_cost iN_reached fN_free fN_before fN_flow fN_length fN_stop iN_stops fN_price fN_rest))) (va_Qv (fun (u : Nat → Int32) => (∀ x y, x < iN_stops.toInt.toNat → y < iN_stops.toInt.toNat → (u (8 * x + y)).toInt = tuL (iN_arcs.toInt, fN_from, fN_to, fN_room, fN_cost) (fN_stop x).toInt.toNat (fN_stop y).toInt.toNat iN_arcs.toInt.toNat)) (fun (u : Nat → Int32) t => va_P (dC, dI) vwCl (WN hN aN kN iN_arcs fN_from fN_to fN_room fN_cost iN_reached fN_free fN_before fN_flow fN_length fN_stop iN_stops u fN_rest) t.heap ∧ va_D (va_A (WN hN aN kN iN_arcs fN_from fN_to fN_room fN_cost iN_reached fN_free fN_before fN_flow fN_length fN_stop iN_stops fN_price fN_rest) sz) (WN hN aN kN iN_arcs fN_from fN_to fN_room fN_cost iN_reached fN_free fN_before fN_flow fN_length fN_stop iN_stops u fN_rest)) (va_A (WN hN aN kN iN_arcs fN_from fN_to fN_room fN_cost iN_reached fN_free fN_before fN_flow fN_length fN_stop iN_stops fN_price fN_rest) sz)) 0 0 (va_A (WN hN aN kN iN_arcs fN_from fN_to fN_room fN_cost iN_reached fN_free fN_before fN_flow fN_length fN_stop iN_stops fN_price fN_rest) sz) := by
  refine Met.ofW (cc := cX2_takePrices) (maxL := 4) (ret := none) (by decide) rfl ?_
  intro p e s m args below meth c s₁ B hml hv
  obtain ⟨rfl, hsz, hP, hK, hD0⟩ := hv
  have hx := B.exec
  have hb := B.bytes
  have hr := B.returns
  have hts := atoms_spec (ws := wsMX2_takePrices) B.pre
  have hown : s.vm.findClass RX2 = some m.cls := findClass_of_methodNamed B.named
  have hlocks := B.notSynchronized
  subst hsz
  have hD := hD0.self (sz := s.heap.size)
  generalize hAe : va_A (WN hN aN kN iN_arcs fN_from fN_to fN_room fN_cost iN_reached fN_free fN_before fN_flow fN_length fN_stop iN_stops fN_price fN_rest) s.heap.size = A at hD ⊢
  have hA : ∀ q : Nat, s.heap.size ≤ q → A q := fun q h => by rw [← hAe]; exact Or.inr h
  have hS : va_S A s.heap s.heap [] := va_S.rf
  have hl := lv_entry ([.ref (hN 0)]) (n := 4) (Nat.le_of_ble_eq_true rfl)
  rw [lg_entry_eq]
  generalize (lg_sl ([.ref (hN 0)]) ++ List.replicate (4 - (lg_sl ([.ref (hN 0)])).length) Slot.unset).toArray = ls at hl ⊢
  have hl : lv_has ls 4 [(0, .ref (hN 0))] := hl
  refine lv_aload_n hx hb dX2_takePrices_0 rfl (lv_at hl 0 rfl) ?_
  refine va_get (D := (dC, dI)) (ci := 2) (v := .ref (aN 9)) (C := RX2) (T := TX2) (N := 14) hx hb hts iwsMX2_takePrices_in2 hown hK hP 0 rfl rfl 12 (by decide) (hts _ hm_m_X2_takePrices_0) (fun _ h9 => h9) rfl dX2_takePrices_1 ?_
  refine lv_ldc (v := 536870912) hx hb hown (hts (.constant RX2 60 536870912) (by decide +kernel)) dX2_takePrices_4 ?_
  have hPc : va_P (dC, dI) vwCl (WY (fun _ => 0) (fun _ => aN 9) (fun _ => kN 9) 64 fN_price) _ := hP.sub [10] rfl
  have hDc : va_D _ (WY (fun _ => 0) (fun _ => aN 9) (fun _ => kN 9) 64 fN_price) := hD.sub [10] (by decide) rfl
  have hKc : va_K (dC, dI) vwCl (tY (fun _ => kN 9)) _ := hK.sub [9] rfl
  have hFc := va_free (wc := WY (fun _ => 0) (fun _ => aN 9) (fun _ => kN 9) 64 fN_price) hD hS hA [10] rfl
  refine va_callv (va_runS (As := [.ref (aN 9), .int 536870912]) (rest := []) ⟨hx, hb, hml, hown, hts⟩ (m_J7_fill_53178 l dC dI (fun _ => 0) (fun _ => aN 9) (fun _ => kN 9) 64 fN_price 536870912 (by first | assumption | exact ⟨by omega, by omega⟩) s.heap.size) (va_cwS 2 hts gwsMX2_takePrices_0 rfl rfl rfl (by decide +kernel) ⟨by decide +kernel, by decide +kernel⟩) ⟨fun a U g mk q => by obtain ⟨q0, q1, qP, qK, qD⟩ := q; exact ⟨q0, q1, qP, va_K.moved (u := U) (U := U.calling g mk a) (Vm.Alike.refl U.vm) qK, qD⟩, fun U hU9 hW => ⟨rfl, by rw [hU9], by rw [hU9]; exact hPc, va_K.moved hW.alike hKc, hDc.weaken (fun _ _ _ _ => trivial)⟩⟩ rfl rfl hl.1 rfl (lv_room (Nat.le_of_ble_eq_true rfl)) dX2_takePrices_6 (by decide +kernel)) hS (fun q _ h => hFc q h) hFc (fun fY_1 t9_ H locs ht hvm hw9 hB9 hz1 hk1 hS => ?_)
  have f1_0 := hw9
  try dsimp only at f1_0
  obtain ⟨hP, hD⟩ := va_join (wr := [(hN 0, .inr (2, [.int iN_arcs, .ref (aN 0), .ref (aN 1), .ref (aN 2), .ref (aN 3), .int iN_reached, .ref (aN 4), .ref (aN 5), .ref (aN 6), .ref (aN 7), .ref (aN 8), .int iN_stops, .ref (aN 9), .ref (aN 10)])), (aN 0, .inl (kN 0, 40, .inl fN_from)), (aN 1, .inl (kN 1, 40, .inl fN_to)), (aN 2, .inl (kN 2, 40, .inl fN_room)), (aN 3, .inl (kN 3, 40, .inl fN_cost)), (aN 4, .inl (kN 4, 144, .inl fN_free)), (aN 5, .inl (kN 5, 12, .inl fN_before)), (aN 6, .inl (kN 6, 40, .inl fN_flow)), (aN 7, .inl (kN 7, 12, .inl fN_length)), (aN 8, .inl (kN 8, 8, .inl fN_stop)), (aN 10, .inl (kN 10, 1024, .inl fN_rest))]) (w1 := WY (fun _ => 0) (fun _ => aN 9) (fun _ => kN 9) 64 fY_1) hP hD [10] [0, 1, 2, 3, 4, 5, 6, 7, 8, 9, 11] rfl rfl (by decide) (by decide) hk1 hFc (fz_P ht hB9.1) hB9.2
  have hP : va_P (dC, dI) vwCl (WN hN aN kN iN_arcs fN_from fN_to fN_room fN_cost iN_reached fN_free fN_before fN_flow fN_length fN_stop iN_stops fY_1 fN_rest) H := hP.sub [0, 1, 2, 3, 4, 5, 6, 7, 8, 9, 11, 10] rfl
  have hD : va_D A (WN hN aN kN iN_arcs fN_from fN_to fN_room fN_cost iN_reached fN_free fN_before fN_flow fN_length fN_stop iN_stops fY_1 fN_rest) := hD.sub [0, 1, 2, 3, 4, 5, 6, 7, 8, 9, 11, 10] (by decide) rfl
  have hfil := f1_0
  refine lv_iconst (v := 0) hx hb dX2_takePrices_9 (by decide) ?_
  refine lv_istore_n hx hb dX2_takePrices_10 rfl hl (by decide) rfl (fun ls (hl : lv_has ls _ ([(1, .int 0), (0, .ref (hN 0))])) => ?_)
  have hl : lv_has _ _ ([(1, .int 0), (0, .ref (hN 0))]) := lv_sub hl [0, 1] rfl
  refine (fun (loop : ∀ (n9 : Nat) (fN_price_x11 : Nat → Int32) (l1_x11 : Int32) (H : Heap) (locs : List Loc) (ls : Array Slot), (0 ≤ l1_x11.toInt ∧ l1_x11.toInt ≤ 8) → (tuPrI (iN_arcs.toInt, fN_from, fN_to, fN_room, fN_cost) (fun x => (fN_stop x).toInt.toNat) iN_stops.toInt.toNat l1_x11.toInt.toNat 0 0 fN_price_x11) → (8 - l1_x11.toInt < ((n9 : Nat) : Int)) → va_P (dC, dI) vwCl (WN hN aN kN iN_arcs fN_from fN_to fN_room fN_cost iN_reached fN_free fN_before fN_flow fN_length fN_stop iN_stops fN_price_x11 fN_rest) H → va_D A (WN hN aN kN iN_arcs fN_from fN_to fN_room fN_cost iN_reached fN_free fN_before fN_flow fN_length fN_stop iN_stops fN_price_x11 fN_rest) → va_S A s.heap H locs → lv_has ls 4 [(1, .int l1_x11), (0, .ref (hN 0))] → W p l e _ s m _ below meth c H locs 0 0 _ (F0 m 11 ls [])) => loop (9) fY_1 0 _ _ _ (show 0 ≤ (0 : Int32).toInt ∧ (0 : Int32).toInt ≤ 8 from by decide) (show tuPrI (iN_arcs.toInt, fN_from, fN_to, fN_room, fN_cost) (fun x => (fN_stop x).toInt.toNat) iN_stops.toInt.toNat (0 : Int32).toInt.toNat 0 0 fY_1 from tuPrI.start (by omega) (fun q hq => by rw [hfil q hq]; rfl) rfl rfl rfl) ((by have e9 : (0 : Int32).toInt = 0 := (by decide : (0 : Int32).toInt = 0); omega)) hP hD hS hl) ?_
  intro n9
  induction n9 with
  | zero => intro fN_price_x11 l1_x11 H locs ls b_l1_x11 hPa hf9; exact False.elim (by omega)
  | succ n9 ihx11 =>
    intro fN_price_x11 l1_x11 H locs ls b_l1_x11 hPa hfx11 hP hD hS hl
    refine lv_iload_n hx hb dX2_takePrices_11 rfl (lv_at hl 0 rfl) ?_
    refine lv_aload_n hx hb dX2_takePrices_12 rfl (lv_at hl 1 rfl) ?_
    refine va_get (D := (dC, dI)) (ci := 2) (v := .int iN_stops) (C := RX2) (T := TX2) (N := 14) hx hb hts iwsMX2_takePrices_in2 hown hK hP 0 rfl rfl 11 (by decide) (hts _ hm_m_X2_takePrices_1) (fun _ h9 => h9) rfl dX2_takePrices_13 ?_
    refine lv_icmp_ge (tgt := 118) hx hb dX2_takePrices_16 (by decide) (fun c_16 => ?_) (fun c_16 => ?_)
    · have t_16 : l1_x11.toInt ≥ iN_stops.toInt := toI_ge c_16 rfl rfl
      refine W.widen (k := 0) (n := 0) (by decide +kernel) (by decide +kernel) ?_
      exact W.vret hx hb hr (fun t9_ ht hW => ⟨⟨fN_price_x11, rfl, (by (try dsimp only); exact (tuPrI.done hPa (by omega))), by rw [ht]; exact hP, hD⟩, hS.F ht⟩) hS.2.2 dX2_takePrices_118
    · have t_16 : ¬ l1_x11.toInt ≥ iN_stops.toInt := toI_nge c_16 rfl rfl
      refine lv_iconst (v := 0) hx hb dX2_takePrices_19 (by decide) ?_
      refine lv_istore_n hx hb dX2_takePrices_20 rfl hl (by decide) rfl (fun ls (hl : lv_has ls _ ([(2, .int 0), (1, .int l1_x11), (0, .ref (hN 0))])) => ?_)
      have hl : lv_has _ _ ([(2, .int 0), (1, .int l1_x11), (0, .ref (hN 0))]) := lv_sub hl [0, 1, 2] rfl
      refine (fun (loop : ∀ (n9 : Nat) (fN_price_x21 : Nat → Int32) (l2_x21 : Int32) (H : Heap) (locs : List Loc) (ls : Array Slot), (0 ≤ l2_x21.toInt ∧ l2_x21.toInt ≤ 8) → (tuPrI (iN_arcs.toInt, fN_from, fN_to, fN_room, fN_cost) (fun x => (fN_stop x).toInt.toNat) iN_stops.toInt.toNat l1_x11.toInt.toNat l2_x21.toInt.toNat 0 fN_price_x21) → (8 - l2_x21.toInt < ((n9 : Nat) : Int)) → va_P (dC, dI) vwCl (WN hN aN kN iN_arcs fN_from fN_to fN_room fN_cost iN_reached fN_free fN_before fN_flow fN_length fN_stop iN_stops fN_price_x21 fN_rest) H → va_D A (WN hN aN kN iN_arcs fN_from fN_to fN_room fN_cost iN_reached fN_free fN_before fN_flow fN_length fN_stop iN_stops fN_price_x21 fN_rest) → va_S A s.heap H locs → lv_has ls 4 [(2, .int l2_x21), (1, .int l1_x11), (0, .ref (hN 0))] → W p l e _ s m _ below meth c H locs 0 0 _ (F0 m 21 ls [])) => loop (9) fN_price_x11 0 _ _ _ (show 0 ≤ (0 : Int32).toInt ∧ (0 : Int32).toInt ≤ 8 from by decide) (show tuPrI (iN_arcs.toInt, fN_from, fN_to, fN_room, fN_cost) (fun x => (fN_stop x).toInt.toNat) iN_stops.toInt.toNat l1_x11.toInt.toNat (0 : Int32).toInt.toNat 0 fN_price_x11 from by rw [show (0 : Int32).toInt.toNat = 0 from by decide]; exact hPa) ((by have e9 : (0 : Int32).toInt = 0 := (by decide : (0 : Int32).toInt = 0); omega)) hP hD hS hl) ?_
      intro n9
      induction n9 with
      | zero => intro fN_price_x21 l2_x21 H locs ls b_l2_x21 hPb hf9; exact False.elim (by omega)
      | succ n9 ihx21 =>
        intro fN_price_x21 l2_x21 H locs ls b_l2_x21 hPb hfx21 hP hD hS hl
        refine lv_iload_n hx hb dX2_takePrices_21 rfl (lv_at hl 0 rfl) ?_
        refine lv_aload_n hx hb dX2_takePrices_22 rfl (lv_at hl 2 rfl) ?_
        refine va_get (D := (dC, dI)) (ci := 2) (v := .int iN_stops) (C := RX2) (T := TX2) (N := 14) hx hb hts iwsMX2_takePrices_in2 hown hK hP 0 rfl rfl 11 (by decide) (hts _ hm_m_X2_takePrices_1) (fun _ h9 => h9) rfl dX2_takePrices_23 ?_
        refine lv_icmp_ge (tgt := 112) hx hb dX2_takePrices_26 (by decide) (fun c_26 => ?_) (fun c_26 => ?_)
        · have t_26 : l2_x21.toInt ≥ iN_stops.toInt := toI_ge c_26 rfl rfl
          refine lv_iinc (v := (iI (l1_x11.toInt + 1))) hx hb dX2_takePrices_112 hl (k := 1) rfl (iI_add2 (iI_of _) (by decide : (1 : Int32) = iI 1)) (by decide) rfl (fun ls (hl : lv_has ls _ ([(1, .int (iI (l1_x11.toInt + 1))), (2, .int l2_x21), (0, .ref (hN 0))])) => ?_)
          refine lv_goto (tgt := 11) hx hb dX2_takePrices_115 (by decide) ?_
          have hl : lv_has _ _ ([(1, .int (iI (l1_x11.toInt + 1))), (0, .ref (hN 0))]) := lv_sub hl [0, 2] rfl
          exact ihx11 fN_price_x21 (iI (l1_x11.toInt + 1)) _ _ _ (iI_rng (Int.le_trans (by decide) (Int.add_le_add (b_l1_x11.1) (Int.le_refl _))) (by omega) (by decide) (by decide)) (show tuPrI (iN_arcs.toInt, fN_from, fN_to, fN_room, fN_cost) (fun x => (fN_stop x).toInt.toNat) iN_stops.toInt.toNat (iI (l1_x11.toInt + 1)).toInt.toNat 0 0 fN_price_x21 from by rw [show (iI (l1_x11.toInt + 1)).toInt.toNat = l1_x11.toInt.toNat + 1 from by rw [iI_t (by omega) (by omega)]; omega]; exact tuPrI.nexta hPb (by omega) rfl rfl) (by have e9 : ((iI (l1_x11.toInt + 1))).toInt = (l1_x11.toInt + 1) := (iI_t (Int.le_trans (by decide) (Int.add_le_add (b_l1_x11.1) (Int.le_refl _))) (Int.le_trans (Int.add_le_add (b_l1_x11.2) (Int.le_refl _)) (by decide))); omega) hP hD hS hl
        · have t_26 : ¬ l2_x21.toInt ≥ iN_stops.toInt := toI_nge c_26 rfl rfl
          refine lv_iconst (v := 0) hx hb dX2_takePrices_29 (by decide) ?_
          refine lv_istore_n hx hb dX2_takePrices_30 rfl hl (by decide) rfl (fun ls (hl : lv_has ls _ ([(3, .int 0), (2, .int l2_x21), (1, .int l1_x11), (0, .ref (hN 0))])) => ?_)
          have hl : lv_has _ _ ([(3, .int 0), (2, .int l2_x21), (1, .int l1_x11), (0, .ref (hN 0))]) := lv_sub hl [0, 1, 2, 3] rfl
          refine (fun (loop : ∀ (n9 : Nat) (fN_price_x31 : Nat → Int32) (l3_x31 : Int32) (H : Heap) (locs : List Loc) (ls : Array Slot), (0 ≤ l3_x31.toInt ∧ l3_x31.toInt ≤ 40) → (tuPrI (iN_arcs.toInt, fN_from, fN_to, fN_room, fN_cost) (fun x => (fN_stop x).toInt.toNat) iN_stops.toInt.toNat l1_x11.toInt.toNat l2_x21.toInt.toNat l3_x31.toInt.toNat fN_price_x31) → (l3_x31.toInt ≤ iN_arcs.toInt) → (40 - l3_x31.toInt < ((n9 : Nat) : Int)) → va_P (dC, dI) vwCl (WN hN aN kN iN_arcs fN_from fN_to fN_room fN_cost iN_reached fN_free fN_before fN_flow fN_length fN_stop iN_stops fN_price_x31 fN_rest) H → va_D A (WN hN aN kN iN_arcs fN_from fN_to fN_room fN_cost iN_reached fN_free fN_before fN_flow fN_length fN_stop iN_stops fN_price_x31 fN_rest) → va_S A s.heap H locs → lv_has ls 4 [(3, .int l3_x31), (2, .int l2_x21), (1, .int l1_x11), (0, .ref (hN 0))] → W p l e _ s m _ below meth c H locs 0 0 _ (F0 m 31 ls [])) => loop (41) fN_price_x21 0 _ _ _ (show 0 ≤ (0 : Int32).toInt ∧ (0 : Int32).toInt ≤ 40 from by decide) (show tuPrI (iN_arcs.toInt, fN_from, fN_to, fN_room, fN_cost) (fun x => (fN_stop x).toInt.toNat) iN_stops.toInt.toNat l1_x11.toInt.toNat l2_x21.toInt.toNat (0 : Int32).toInt.toNat fN_price_x21 from by rw [show (0 : Int32).toInt.toNat = 0 from by decide]; exact hPb) (show (0 : Int32).toInt ≤ iN_arcs.toInt from by have h7 : (0 : Int32).toInt = 0 := (by decide); omega) ((by have e9 : (0 : Int32).toInt = 0 := (by decide : (0 : Int32).toInt = 0); omega)) hP hD hS hl) ?_
          intro n9
          induction n9 with
          | zero => intro fN_price_x31 l3_x31 H locs ls b_l3_x31 hPi hla hf9; exact False.elim (by omega)
          | succ n9 ihx31 =>
            intro fN_price_x31 l3_x31 H locs ls b_l3_x31 hPi hla hfx31 hP hD hS hl
            refine lv_iload_n hx hb dX2_takePrices_31 rfl (lv_at hl 0 rfl) ?_
            refine lv_aload_n hx hb dX2_takePrices_32 rfl (lv_at hl 3 rfl) ?_
            refine va_get (D := (dC, dI)) (ci := 2) (v := .int iN_arcs) (C := RX2) (T := TX2) (N := 14) hx hb hts iwsMX2_takePrices_in2 hown hK hP 0 rfl rfl 0 (by decide) (hts (.fieldLink RX2 45 "OptimaWorks$NetDesk" "arcs" "I") (by decide +kernel)) (fun _ h9 => h9) rfl dX2_takePrices_33 ?_
            refine lv_icmp_ge (tgt := 106) hx hb dX2_takePrices_36 (by decide) (fun c_36 => ?_) (fun c_36 => ?_)
            · have t_36 : l3_x31.toInt ≥ iN_arcs.toInt := toI_ge c_36 rfl rfl
              refine lv_iinc (v := (iI (l2_x21.toInt + 1))) hx hb dX2_takePrices_106 hl (k := 1) rfl (iI_add2 (iI_of _) (by decide : (1 : Int32) = iI 1)) (by decide) rfl (fun ls (hl : lv_has ls _ ([(2, .int (iI (l2_x21.toInt + 1))), (3, .int l3_x31), (1, .int l1_x11), (0, .ref (hN 0))])) => ?_)
              refine lv_goto (tgt := 21) hx hb dX2_takePrices_109 (by decide) ?_
              have hl : lv_has _ _ ([(2, .int (iI (l2_x21.toInt + 1))), (1, .int l1_x11), (0, .ref (hN 0))]) := lv_sub hl [0, 2, 3] rfl
              exact ihx21 fN_price_x31 (iI (l2_x21.toInt + 1)) _ _ _ (iI_rng (Int.le_trans (by decide) (Int.add_le_add (b_l2_x21.1) (Int.le_refl _))) (by omega) (by decide) (by decide)) (show tuPrI (iN_arcs.toInt, fN_from, fN_to, fN_room, fN_cost) (fun x => (fN_stop x).toInt.toNat) iN_stops.toInt.toNat l1_x11.toInt.toNat (iI (l2_x21.toInt + 1)).toInt.toNat 0 fN_price_x31 from by rw [show (iI (l2_x21.toInt + 1)).toInt.toNat = l2_x21.toInt.toNat + 1 from by rw [iI_t (by omega) (by omega)]; omega]; exact tuPrI.nextb hPi (by dsimp only; omega) rfl) (by have e9 : ((iI (l2_x21.toInt + 1))).toInt = (l2_x21.toInt + 1) := (iI_t (Int.le_trans (by decide) (Int.add_le_add (b_l2_x21.1) (Int.le_refl _))) (Int.le_trans (Int.add_le_add (b_l2_x21.2) (Int.le_refl _)) (by decide))); omega) hP hD hS hl
            · have t_36 : ¬ l3_x31.toInt ≥ iN_arcs.toInt := toI_nge c_36 rfl rfl
              refine lv_aload_n hx hb dX2_takePrices_39 rfl (lv_at hl 3 rfl) ?_
              refine va_get (D := (dC, dI)) (ci := 2) (v := .ref (aN 0)) (C := RX2) (T := TX2) (N := 14) hx hb hts iwsMX2_takePrices_in2 hown hK hP 0 rfl rfl 1 (by decide) (hts (.fieldLink RX2 11 "OptimaWorks$NetDesk" "from" "[I") (by decide +kernel)) (fun _ h9 => h9) rfl dX2_takePrices_40 ?_
              refine lv_iload_n hx hb dX2_takePrices_43 rfl (lv_at hl 0 rfl) ?_
              refine va_iald (cA := kN 0) (n := 40) (f := fN_from) hx hb hK hP 1 0 rfl rfl (vp_in_iff.mpr ⟨b_l3_x31.1, (Int.lt_of_lt_of_le (Int.not_le.mp t_36) (Int.le_trans b_iN_arcs.2 (by decide)))⟩) dX2_takePrices_44 ?_
              refine lv_topi (fun v4732 hv4732 => ?_)
              have b_v4732 : 0 ≤ v4732.toInt ∧ v4732.toInt ≤ 11 := by rw [hv4732]; exact b_fN_from _
              have b1_v4732 : v4732 = fN_from (l3_x31).toNatClampNeg := hv4732
              clear hv4732
              refine lv_aload_n hx hb dX2_takePrices_45 rfl (lv_at hl 3 rfl) ?_
              refine va_get (D := (dC, dI)) (ci := 2) (v := .ref (aN 8)) (C := RX2) (T := TX2) (N := 14) hx hb hts iwsMX2_takePrices_in2 hown hK hP 0 rfl rfl 10 (by decide) (hts _ hm_m_X2_takePrices_2) (fun _ h9 => h9) rfl dX2_takePrices_46 ?_
              refine lv_iload_n hx hb dX2_takePrices_49 rfl (lv_at hl 2 rfl) ?_
              refine va_iald (cA := kN 8) (n := 8) (f := fN_stop) hx hb hK hP 9 8 rfl rfl (vp_in_iff.mpr ⟨b_l1_x11.1, (by omega)⟩) dX2_takePrices_50 ?_
              refine lv_topi (fun v4733 hv4733 => ?_)
              have b_v4733 : 0 ≤ v4733.toInt ∧ v4733.toInt ≤ 11 := by rw [hv4733]; exact b_fN_stop _
              have b1_v4733 : v4733 = fN_stop (l1_x11).toNatClampNeg := hv4733
              clear hv4733
              refine W.cut (pc := 100) (fun H locs ls stk => ∃ (fN_price_j432 : Nat → Int32), (tuPrI (iN_arcs.toInt, fN_from, fN_to, fN_room, fN_cost) (fun x => (fN_stop x).toInt.toNat) iN_stops.toInt.toNat l1_x11.toInt.toNat l2_x21.toInt.toNat (l3_x31.toInt.toNat + 1) fN_price_j432) ∧  stk = [] ∧ va_P (dC, dI) vwCl (WN hN aN kN iN_arcs fN_from fN_to fN_room fN_cost iN_reached fN_free fN_before fN_flow fN_length fN_stop iN_stops fN_price_j432 fN_rest) H ∧ va_D A (WN hN aN kN iN_arcs fN_from fN_to fN_room fN_cost iN_reached fN_free fN_before fN_flow fN_length fN_stop iN_stops fN_price_j432 fN_rest) ∧ va_S A s.heap H locs ∧ lv_has ls 4 [(3, .int l3_x31), (2, .int l2_x21), (1, .int l1_x11), (0, .ref (hN 0))]) (fun join432 => ?_) ?_
              · refine lv_icmp_ne (tgt := 100) hx hb dX2_takePrices_51 (by decide) (fun c_51 => ?_) (fun c_51 => ?_)
                · have t_51 : v4732.toInt ≠ v4733.toInt := toI_ne c_51 rfl rfl
                  have hl : lv_has _ _ ([(3, .int l3_x31), (2, .int l2_x21), (1, .int l1_x11), (0, .ref (hN 0))]) := lv_sub hl [0, 1, 2, 3] rfl
                  exact join432 _ _ _ _ ⟨fN_price_x31, (show tuPrI (iN_arcs.toInt, fN_from, fN_to, fN_room, fN_cost) (fun x => (fN_stop x).toInt.toNat) iN_stops.toInt.toNat l1_x11.toInt.toNat l2_x21.toInt.toNat (l3_x31.toInt.toNat + 1) fN_price_x31 from by first | exact tuPrI.skip hPi (fun h9 => by have h8 : v4732.toInt.toNat = v4733.toInt.toNat := (by rw [b1_v4732, b1_v4733]; exact h9.1); omega) | exact tuPrI.skip hPi (fun h9 => by have h8 : v4734.toInt.toNat = v4735.toInt.toNat := (by rw [b1_v4734, b1_v4735]; exact h9.2); omega)), rfl, hP, hD, hS, hl⟩
                · have t_51 : v4732.toInt = v4733.toInt := toI_nne c_51 rfl rfl
                  refine lv_aload_n hx hb dX2_takePrices_54 rfl (lv_at hl 3 rfl) ?_
                  refine va_get (D := (dC, dI)) (ci := 2) (v := .ref (aN 1)) (C := RX2) (T := TX2) (N := 14) hx hb hts iwsMX2_takePrices_in2 hown hK hP 0 rfl rfl 2 (by decide) (hts (.fieldLink RX2 15 "OptimaWorks$NetDesk" "to" "[I") (by decide +kernel)) (fun _ h9 => h9) rfl dX2_takePrices_55 ?_
                  refine lv_iload_n hx hb dX2_takePrices_58 rfl (lv_at hl 0 rfl) ?_
                  refine va_iald (cA := kN 1) (n := 40) (f := fN_to) hx hb hK hP 2 1 rfl rfl (vp_in_iff.mpr ⟨b_l3_x31.1, (by omega)⟩) dX2_takePrices_59 ?_
                  refine lv_topi (fun v4744 hv4744 => ?_)
                  have b_v4744 : 0 ≤ v4744.toInt ∧ v4744.toInt ≤ 11 := by rw [hv4744]; exact b_fN_to _
                  have b1_v4744 : v4744 = fN_to (l3_x31).toNatClampNeg := hv4744
                  clear hv4744
                  refine lv_aload_n hx hb dX2_takePrices_60 rfl (lv_at hl 3 rfl) ?_
                  refine va_get (D := (dC, dI)) (ci := 2) (v := .ref (aN 8)) (C := RX2) (T := TX2) (N := 14) hx hb hts iwsMX2_takePrices_in2 hown hK hP 0 rfl rfl 10 (by decide) (hts _ hm_m_X2_takePrices_2) (fun _ h9 => h9) rfl dX2_takePrices_61 ?_
                  refine lv_iload_n hx hb dX2_takePrices_64 rfl (lv_at hl 1 rfl) ?_
                  refine va_iald (cA := kN 8) (n := 8) (f := fN_stop) hx hb hK hP 9 8 rfl rfl (vp_in_iff.mpr ⟨b_l2_x21.1, (by omega)⟩) dX2_takePrices_65 ?_
                  refine lv_topi (fun v4745 hv4745 => ?_)
                  have b_v4745 : 0 ≤ v4745.toInt ∧ v4745.toInt ≤ 11 := by rw [hv4745]; exact b_fN_stop _
                  have b1_v4745 : v4745 = fN_stop (l2_x21).toNatClampNeg := hv4745
                  clear hv4745
                  refine lv_icmp_ne (tgt := 100) hx hb dX2_takePrices_66 (by decide) (fun c_66 => ?_) (fun c_66 => ?_)
                  · have t_66 : v4744.toInt ≠ v4745.toInt := toI_ne c_66 rfl rfl
                    have hl : lv_has _ _ ([(3, .int l3_x31), (2, .int l2_x21), (1, .int l1_x11), (0, .ref (hN 0))]) := lv_sub hl [0, 1, 2, 3] rfl
                    exact join432 _ _ _ _ ⟨fN_price_x31, (show tuPrI (iN_arcs.toInt, fN_from, fN_to, fN_room, fN_cost) (fun x => (fN_stop x).toInt.toNat) iN_stops.toInt.toNat l1_x11.toInt.toNat l2_x21.toInt.toNat (l3_x31.toInt.toNat + 1) fN_price_x31 from by first | exact tuPrI.skip hPi (fun h9 => by have h8 : v4732.toInt.toNat = v4733.toInt.toNat := (by rw [b1_v4732, b1_v4733]; exact h9.1); omega) | exact tuPrI.skip hPi (fun h9 => by have h8 : v4744.toInt.toNat = v4745.toInt.toNat := (by rw [b1_v4744, b1_v4745]; exact h9.2); omega)), rfl, hP, hD, hS, hl⟩
                  · have t_66 : v4744.toInt = v4745.toInt := toI_nne c_66 rfl rfl
                    refine lv_aload_n hx hb dX2_takePrices_69 rfl (lv_at hl 3 rfl) ?_
                    refine va_get (D := (dC, dI)) (ci := 2) (v := .ref (aN 9)) (C := RX2) (T := TX2) (N := 14) hx hb hts iwsMX2_takePrices_in2 hown hK hP 0 rfl rfl 12 (by decide) (hts _ hm_m_X2_takePrices_0) (fun _ h9 => h9) rfl dX2_takePrices_70 ?_
                    refine lv_iload_n hx hb dX2_takePrices_73 rfl (lv_at hl 2 rfl) ?_
                    refine lv_bipush (v := 8) hx hb dX2_takePrices_74 (by decide) ?_
                    refine lv_imul hx hb dX2_takePrices_76 ?_
                    refine lv_topi (fun y4746 hy4746 => ?_)
                    obtain rfl : (iI (l1_x11.toInt * 8)) = y4746 := (hy4746.trans (iI_mul2 (iI_of _) (by decide : (8 : Int32) = iI 8))).symm
                    refine lv_iload_n hx hb dX2_takePrices_77 rfl (lv_at hl 1 rfl) ?_
                    refine lv_iadd hx hb dX2_takePrices_78 ?_
                    refine lv_topi (fun y4747 hy4747 => ?_)
                    obtain rfl : (iI ((l1_x11.toInt * 8) + l2_x21.toInt)) = y4747 := (hy4747.trans (iI_add2 rfl (iI_of _))).symm
                    refine lv_aload_n hx hb dX2_takePrices_79 rfl (lv_at hl 3 rfl) ?_
                    refine va_get (D := (dC, dI)) (ci := 2) (v := .ref (aN 9)) (C := RX2) (T := TX2) (N := 14) hx hb hts iwsMX2_takePrices_in2 hown hK hP 0 rfl rfl 12 (by decide) (hts _ hm_m_X2_takePrices_0) (fun _ h9 => h9) rfl dX2_takePrices_80 ?_
                    refine lv_iload_n hx hb dX2_takePrices_83 rfl (lv_at hl 2 rfl) ?_
                    refine lv_bipush (v := 8) hx hb dX2_takePrices_84 (by decide) ?_
                    refine lv_imul hx hb dX2_takePrices_86 ?_
                    refine lv_topi (fun y4748 hy4748 => ?_)
                    obtain rfl : (iI (l1_x11.toInt * 8)) = y4748 := (hy4748.trans (iI_mul2 (iI_of _) (by decide : (8 : Int32) = iI 8))).symm
                    refine lv_iload_n hx hb dX2_takePrices_87 rfl (lv_at hl 1 rfl) ?_
                    refine lv_iadd hx hb dX2_takePrices_88 ?_
                    refine lv_topi (fun y4749 hy4749 => ?_)
                    obtain rfl : (iI ((l1_x11.toInt * 8) + l2_x21.toInt)) = y4749 := (hy4749.trans (iI_add2 rfl (iI_of _))).symm
                    refine va_iald (cA := kN 9) (n := 64) (f := fN_price_x31) hx hb hK hP 10 9 rfl rfl (vp_iI (Int.le_trans (by decide) (Int.add_le_add (Int.mul_le_mul_of_nonneg_right (b_l1_x11.1) (by decide)) (b_l2_x21.1))) (by omega) (by decide)) dX2_takePrices_89 ?_
                    refine lv_topi (fun v4750 hv4750 => ?_)
                    have b_v4750 : v4750.toInt ≤ v4750.toInt := by rw [hv4750]; exact Int.le_refl _
                    have b1_v4750 : v4750 = fN_price_x31 ((iI ((l1_x11.toInt * 8) + l2_x21.toInt))).toNatClampNeg := hv4750
                    clear hv4750
                    refine lv_aload_n hx hb dX2_takePrices_90 rfl (lv_at hl 3 rfl) ?_
                    refine va_get (D := (dC, dI)) (ci := 2) (v := .ref (aN 3)) (C := RX2) (T := TX2) (N := 14) hx hb hts iwsMX2_takePrices_in2 hown hK hP 0 rfl rfl 4 (by decide) (hts (.fieldLink RX2 21 "OptimaWorks$NetDesk" "cost" "[I") (by decide +kernel)) (fun _ h9 => h9) rfl dX2_takePrices_91 ?_
                    refine lv_iload_n hx hb dX2_takePrices_94 rfl (lv_at hl 0 rfl) ?_
                    refine va_iald (cA := kN 3) (n := 40) (f := fN_cost) hx hb hK hP 4 3 rfl rfl (vp_in_iff.mpr ⟨b_l3_x31.1, (by omega)⟩) dX2_takePrices_95 ?_
                    refine lv_topi (fun v4751 hv4751 => ?_)
                    have b_v4751 : v4751.toInt ≤ v4751.toInt := by rw [hv4751]; exact Int.le_refl _
                    have b1_v4751 : v4751 = fN_cost (l3_x31).toNatClampNeg := hv4751
                    clear hv4751
                    refine va_mmin hx hb (by rw [hml]; exact hl.1.symm) hown (hts (.methodLink RX2 61 Lib.Math.min.name) (by decide +kernel)) (hts (.static Lib.Math.min.name) (by decide +kernel)) (hts (.initialized "java/lang/Math") (by decide +kernel)) (hts (.code Lib.Math.min.name Lib.Math.min.code 2 (some .int)) (by decide +kernel)) (by decide +kernel) (Nat.le_of_ble_eq_true rfl) (by decide +kernel) (by decide +kernel) dX2_takePrices_96 ?_
                    refine lv_topi (fun v4752 hv4752 => ?_)
                    have b_v4752 : (v4752.toInt ≤ v4750.toInt ∧ v4752.toInt ≤ v4751.toInt) ∧ (v4752.toInt = v4750.toInt ∨ v4752.toInt = v4751.toInt) := by rw [hv4752]; exact min_t rfl rfl
                    clear hv4752
                    refine va_iast (cA := kN 9) (n := 64) (f := fN_price_x31) hx hb hK hP hD hS 10 9 rfl rfl (vp_iI (Int.le_trans (by decide) (Int.add_le_add (Int.mul_le_mul_of_nonneg_right (b_l1_x11.1) (by decide)) (b_l2_x21.1))) (by omega) (by decide)) dX2_takePrices_99 (fun H locs hP hD hS => ?_)
                    obtain ⟨u4753, hu4753⟩ : ∃ f9, f9 = upd fN_price_x31 ((iI ((l1_x11.toInt * 8) + l2_x21.toInt))).toNatClampNeg v4752 := ⟨_, rfl⟩
                    have hP : va_P (dC, dI) vwCl (WN hN aN kN iN_arcs fN_from fN_to fN_room fN_cost iN_reached fN_free fN_before fN_flow fN_length fN_stop iN_stops u4753 fN_rest) H := by rw [hu4753]; exact hP
                    have hD : va_D A (WN hN aN kN iN_arcs fN_from fN_to fN_room fN_cost iN_reached fN_free fN_before fN_flow fN_length fN_stop iN_stops u4753 fN_rest) := by rw [hu4753]; exact hD
                    have b_u4753 : u4753 = upd fN_price_x31 ((iI ((l1_x11.toInt * 8) + l2_x21.toInt))).toNatClampNeg v4752 := hu4753
                    clear hu4753
                    have hl : lv_has _ _ ([(3, .int l3_x31), (2, .int l2_x21), (1, .int l1_x11), (0, .ref (hN 0))]) := lv_sub hl [0, 1, 2, 3] rfl
                    exact join432 _ _ _ _ ⟨u4753, (show tuPrI (iN_arcs.toInt, fN_from, fN_to, fN_room, fN_cost) (fun x => (fN_stop x).toInt.toNat) iN_stops.toInt.toNat l1_x11.toInt.toNat l2_x21.toInt.toNat (l3_x31.toInt.toNat + 1) u4753 from tuPrI.put hPi (by omega) (by omega) (by omega) (by have h8 : v4732.toInt.toNat = v4733.toInt.toNat := (by rw [t_51]); rw [b1_v4732, b1_v4733] at h8; exact h8) (by have h8 : v4744.toInt.toNat = v4745.toInt.toNat := (by rw [t_66]); rw [b1_v4744, b1_v4745] at h8; exact h8) (by show (iI ((l1_x11.toInt * 8) + l2_x21.toInt)).toInt.toNat = _; rw [iI_t (by omega) (by omega)]; omega) b_u4753 (by rw [show tCo (iN_arcs.toInt, fN_from, fN_to, fN_room, fN_cost) l3_x31.toInt.toNat = v4751.toInt from (by rw [b1_v4751]; rfl), show (fN_price_x31 (((iI ((l1_x11.toInt * 8) + l2_x21.toInt)))).toNatClampNeg).toInt = v4750.toInt from (by rw [b1_v4750])]; split <;> omega)), rfl, hP, hD, hS, hl⟩
              · rintro H locs ls stk ⟨fN_price_j432, hPj, rfl, hP, hD, hS, hl⟩
                refine lv_iinc (v := (iI (l3_x31.toInt + 1))) hx hb dX2_takePrices_100 hl (k := 0) rfl (iI_add2 (iI_of _) (by decide : (1 : Int32) = iI 1)) (by decide) rfl (fun ls (hl : lv_has ls _ ([(3, .int (iI (l3_x31.toInt + 1))), (2, .int l2_x21), (1, .int l1_x11), (0, .ref (hN 0))])) => ?_)
                refine lv_goto (tgt := 31) hx hb dX2_takePrices_103 (by decide) ?_
                have hl : lv_has _ _ ([(3, .int (iI (l3_x31.toInt + 1))), (2, .int l2_x21), (1, .int l1_x11), (0, .ref (hN 0))]) := lv_sub hl [0, 1, 2, 3] rfl
                exact ihx31 fN_price_j432 (iI (l3_x31.toInt + 1)) _ _ _ (iI_rng (Int.le_trans (by decide) (Int.add_le_add (b_l3_x31.1) (Int.le_refl _))) (by omega) (by decide) (by decide)) (show tuPrI (iN_arcs.toInt, fN_from, fN_to, fN_room, fN_cost) (fun x => (fN_stop x).toInt.toNat) iN_stops.toInt.toNat l1_x11.toInt.toNat l2_x21.toInt.toNat (iI (l3_x31.toInt + 1)).toInt.toNat fN_price_j432 from by rw [show (iI (l3_x31.toInt + 1)).toInt.toNat = l3_x31.toInt.toNat + 1 from by rw [iI_t (by omega) (by omega)]; omega]; exact hPj) (show (iI (l3_x31.toInt + 1)).toInt ≤ iN_arcs.toInt from by rw [iI_t (by omega) (by omega)]; omega) (by have e9 : ((iI (l3_x31.toInt + 1))).toInt = (l3_x31.toInt + 1) := (iI_t (Int.le_trans (by decide) (Int.add_le_add (b_l3_x31.1) (Int.le_refl _))) (Int.le_trans (Int.add_le_add (b_l3_x31.2) (Int.le_refl _)) (by decide))); omega) hP hD hS hl
theorem dX2_costOver_0 : decode cX2_costOver 0 = .ok (.ldc 60, 2) := dk_18 (by decide +kernel)
theorem dX2_costOver_2 : decode cX2_costOver 2 = .ok (.aload_n 0, 1) := dk_42 (by decide +kernel)
theorem dX2_costOver_3 : decode cX2_costOver 3 = .ok (.getfield 39, 3) := dk_180 (by decide +kernel)
theorem dX2_costOver_6 : decode cX2_costOver 6 = .ok (.iload_n 2, 1) := dk_28 (by decide +kernel)
theorem dX2_costOver_7 : decode cX2_costOver 7 = .ok (.bipush 8, 2) := dk_16 (by decide +kernel)
theorem dX2_costOver_9 : decode cX2_costOver 9 = .ok (.imul, 1) := dk_104 (by decide +kernel)
theorem dX2_costOver_10 : decode cX2_costOver 10 = .ok (.iload_n 3, 1) := dk_29 (by decide +kernel)
theorem dX2_costOver_11 : decode cX2_costOver 11 = .ok (.iadd, 1) := dk_96 (by decide +kernel)
theorem dX2_costOver_12 : decode cX2_costOver 12 = .ok (.iaload, 1) := dk_46 (by decide +kernel)
theorem dX2_costOver_13 : decode cX2_costOver 13 = .ok (.aload_n 0, 1) := dk_42 (by decide +kernel)
theorem dX2_costOver_14 : decode cX2_costOver 14 = .ok (.getfield 42, 3) := dk_180 (by decide +kernel)
theorem dX2_costOver_17 : decode cX2_costOver 17 = .ok (.iload_n 1, 1) := dk_27 (by decide +kernel)
theorem dX2_costOver_18 : decode cX2_costOver 18 = .ok (.iconst 1, 1) := dk_4 (by decide +kernel)
theorem dX2_costOver_19 : decode cX2_costOver 19 = .ok (.iload_n 3, 1) := dk_29 (by decide +kernel)
theorem dX2_costOver_20 : decode cX2_costOver 20 = .ok (.iconst 1, 1) := dk_4 (by decide +kernel)
theorem dX2_costOver_21 : decode cX2_costOver 21 = .ok (.isub, 1) := dk_100 (by decide +kernel)
theorem dX2_costOver_22 : decode cX2_costOver 22 = .ok (.ishl, 1) := dk_120 (by decide +kernel)
theorem dX2_costOver_23 : decode cX2_costOver 23 = .ok (.iconst (-1), 1) := dk_2 (by decide +kernel)
theorem dX2_costOver_24 : decode cX2_costOver 24 = .ok (.ixor, 1) := dk_130 (by decide +kernel)
theorem dX2_costOver_25 : decode cX2_costOver 25 = .ok (.iand, 1) := dk_126 (by decide +kernel)
theorem dX2_costOver_26 : decode cX2_costOver 26 = .ok (.bipush 8, 2) := dk_16 (by decide +kernel)
theorem dX2_costOver_28 : decode cX2_costOver 28 = .ok (.imul, 1) := dk_104 (by decide +kernel)
theorem dX2_costOver_29 : decode cX2_costOver 29 = .ok (.iload_n 3, 1) := dk_29 (by decide +kernel)
theorem dX2_costOver_30 : decode cX2_costOver 30 = .ok (.iadd, 1) := dk_96 (by decide +kernel)
theorem dX2_costOver_31 : decode cX2_costOver 31 = .ok (.iaload, 1) := dk_46 (by decide +kernel)
theorem dX2_costOver_32 : decode cX2_costOver 32 = .ok (.iadd, 1) := dk_96 (by decide +kernel)
theorem dX2_costOver_33 : decode cX2_costOver 33 = .ok (.invokestatic 61, 3) := dk_184 (by decide +kernel)
theorem dX2_costOver_36 : decode cX2_costOver 36 = .ok (.ireturn, 1) := dk_172 (by decide +kernel)
def wsMX2_costOver : List Cond := .code yX2_costOver cX2_costOver 4 (some .int) :: ([.constant RX2 60 536870912, .fieldLink RX2 39 "OptimaWorks$NetDesk" "price" "[I", .fieldLink RX2 42 "OptimaWorks$NetDesk" "rest" "[I", .methodLink RX2 61 Lib.Math.min.name, .static Lib.Math.min.name, .initialized "java/lang/Math", .code Lib.Math.min.name Lib.Math.min.code 2 (some .int)] ++ wsX20)
theorem iwsMX2_costOver_in2 : ∀ w ∈ wsX20, w ∈ wsMX2_costOver := fun _ h => List.mem_cons_of_mem _ (List.mem_append_right _ h)
theorem gdwsMX2_costOver : wsMX2_costOver.all goodWord = true := gdC rfl (gdA (by decide +kernel : ([.constant RX2 60 536870912, .fieldLink RX2 39 "OptimaWorks$NetDesk" "price" "[I", .fieldLink RX2 42 "OptimaWorks$NetDesk" "rest" "[I", .methodLink RX2 61 Lib.Math.min.name, .static Lib.Math.min.name, .initialized "java/lang/Math", .code Lib.Math.min.name Lib.Math.min.code 2 (some .int)] : List Cond).all goodWord = true) gdwsX20)
set_option maxHeartbeats 4000000 in
set_option maxRecDepth 100000 in
/-- the cost over a stop -/
theorem m_X2_costOver (l : Launch) (dC : Nat → ClassId) (dI : Nat → Nat → Nat) (hN : Nat → Nat) (aN : Nat → Nat) (kN : Nat → ClassId) (iN_arcs : Int32) (fN_from : Nat → Int32) (fN_to : Nat → Int32) (fN_room : Nat → Int32) (fN_cost : Nat → Int32) (iN_reached : Int32) (fN_free : Nat → Int32) (fN_before : Nat → Int32) (fN_flow : Nat → Int32) (fN_length : Nat → Int32) (fN_stop : Nat → Int32) (iN_stops : Int32) (fN_price : Nat → Int32) (fN_rest : Nat → Int32) (p1 : Int32) (p2 : Int32) (p3 : Int32) (b_iN_arcs : 0 ≤ iN_arcs.toInt ∧ iN_arcs.toInt ≤ 40) (b_fN_from : ∀ q : Nat, 0 ≤ (fN_from q).toInt ∧ (fN_from q).toInt ≤ 11) (b_fN_to : ∀ q : Nat, 0 ≤ (fN_to q).toInt ∧ (fN_to q).toInt ≤ 11) (b_fN_before : ∀ q : Nat, 0 ≤ (fN_before q).toInt ∧ (fN_before q).toInt ≤ 79) (b_fN_stop : ∀ q : Nat, 0 ≤ (fN_stop q).toInt ∧ (fN_stop q).toInt ≤ 11) (b_iN_stops : 0 ≤ iN_stops.toInt ∧ iN_stops.toInt ≤ 8) (b_p1 : 0 ≤ p1.toInt ∧ p1.toInt ≤ 127) (b_p2 : 0 ≤ p2.toInt ∧ p2.toInt ≤ 7) (b_p3 : 1 ≤ p3.toInt ∧ p3.toInt ≤ 7) (hb1 : p1.toInt.toNat.testBit (p3.toInt.toNat - 1) = true) (hpb : 0 ≤ tuTab fN_price p2.toInt.toNat p3.toInt.toNat ∧ tuTab fN_price p2.toInt.toNat p3.toInt.toNat ≤ 536870912) (hrb : 0 ≤ tuTab fN_rest (p1.toInt.toNat - 2 ^ (p3.toInt.toNat - 1)) p3.toInt.toNat ∧ tuTab fN_rest (p1.toInt.toNat - 2 ^ (p3.toInt.toNat - 1)) p3.toInt.toNat ≤ 536870912) (sz : Nat) : Met l yX2_costOver wsMX2_costOver ({ frames := 1, cells := 0, slots := 0, locals := 13 }) (va_Pc [.ref (hN 0), .int p1, .int p2, .int p3] (fun U => U.heap.size = sz ∧ va_P (dC, dI) vwCl (WN hN aN kN iN_arcs fN_from fN_to fN_room fN_cost iN_reached fN_free fN_before fN_flow fN_length fN_stop iN_stops fN_price fN_rest) U.heap ∧ va_K (dC, dI) vwCl (tN kN) U ∧ va_D (fun _ => True) (WN hN aN kN iN_arcs fN_from fN_to fN_room fN_cost iN_reached fN_free fN_before fN_flow fN_length fN_stop iN_stops fN_price fN_rest))) (va_Qi (fun (r : Int32) (u : Unit) => (r.toInt = tuG (tuTab fN_price) (tuTab fN_rest) p1.toInt.toNat p2.toInt.toNat p3.toInt.toNat)) (fun (u : Unit) t => va_P (dC, dI) vwCl (WN hN aN kN iN_arcs fN_from fN_to fN_room fN_cost iN_reached fN_free fN_before fN_flow fN_length fN_stop iN_stops fN_price fN_rest) t.heap ∧ va_D (va_A (WN hN aN kN iN_arcs fN_from fN_to fN_room fN_cost iN_reached fN_free fN_before fN_flow fN_length fN_stop iN_stops fN_price fN_rest) sz) (WN hN aN kN iN_arcs fN_from fN_to fN_room fN_cost iN_reached fN_free fN_before fN_flow fN_length fN_stop iN_stops fN_price fN_rest)) (va_A (WN hN aN kN iN_arcs fN_from fN_to fN_room fN_cost iN_reached fN_free fN_before fN_flow fN_length fN_stop iN_stops fN_price fN_rest) sz)) 0 0 (va_A (WN hN aN kN iN_arcs fN_from fN_to fN_room fN_cost iN_reached fN_free fN_before fN_flow fN_length fN_stop iN_stops fN_price fN_rest) sz) := by
  refine Met.ofW (cc := cX2_costOver) (maxL := 4) (ret := (some .int)) (by decide) rfl ?_
  intro p e s m args below meth c s₁ B hml hv
  obtain ⟨rfl, hsz, hP, hK, hD0⟩ := hv
  have hx := B.exec
  have hb := B.bytes
  have hr := B.returns
  have hts := atoms_spec (ws := wsMX2_costOver) B.pre
  have hown : s.vm.findClass RX2 = some m.cls := findClass_of_methodNamed B.named
  have hlocks := B.notSynchronized
  subst hsz
  have hD := hD0.self (sz := s.heap.size)
  generalize hAe : va_A (WN hN aN kN iN_arcs fN_from fN_to fN_room fN_cost iN_reached fN_free fN_before fN_flow fN_length fN_stop iN_stops fN_price fN_rest) s.heap.size = A at hD ⊢
  have hA : ∀ q : Nat, s.heap.size ≤ q → A q := fun q h => by rw [← hAe]; exact Or.inr h
  have hS : va_S A s.heap s.heap [] := va_S.rf
  have hl := lv_entry ([.ref (hN 0), .int p1, .int p2, .int p3]) (n := 4) (Nat.le_of_ble_eq_true rfl)
  rw [lg_entry_eq]
  generalize (lg_sl ([.ref (hN 0), .int p1, .int p2, .int p3]) ++ List.replicate (4 - (lg_sl ([.ref (hN 0), .int p1, .int p2, .int p3])).length) Slot.unset).toArray = ls at hl ⊢
  have hl : lv_has ls 4 [(0, .ref (hN 0)), (1, .int p1), (2, .int p2), (3, .int p3)] := hl
  refine lv_ldc (v := 536870912) hx hb hown (hts (.constant RX2 60 536870912) (by decide +kernel)) dX2_costOver_0 ?_
  refine lv_aload_n hx hb dX2_costOver_2 rfl (lv_at hl 0 rfl) ?_
  refine va_get (D := (dC, dI)) (ci := 2) (v := .ref (aN 9)) (C := RX2) (T := TX2) (N := 14) hx hb hts iwsMX2_costOver_in2 hown hK hP 0 rfl rfl 12 (by decide) (hts (.fieldLink RX2 39 "OptimaWorks$NetDesk" "price" "[I") (by decide +kernel)) (fun _ h9 => h9) rfl dX2_costOver_3 ?_
  refine lv_iload_n hx hb dX2_costOver_6 rfl (lv_at hl 2 rfl) ?_
  refine lv_bipush (v := 8) hx hb dX2_costOver_7 (by decide) ?_
  refine lv_imul hx hb dX2_costOver_9 ?_
  refine lv_topi (fun y1 hy1 => ?_)
  obtain rfl : (iI (p2.toInt * 8)) = y1 := (hy1.trans (iI_mul2 (iI_of _) (by decide : (8 : Int32) = iI 8))).symm
  refine lv_iload_n hx hb dX2_costOver_10 rfl (lv_at hl 3 rfl) ?_
  refine lv_iadd hx hb dX2_costOver_11 ?_
  refine lv_topi (fun y2 hy2 => ?_)
  obtain rfl : (iI ((p2.toInt * 8) + p3.toInt)) = y2 := (hy2.trans (iI_add2 rfl (iI_of _))).symm
  refine va_iald (cA := kN 9) (n := 64) (f := fN_price) hx hb hK hP 10 9 rfl rfl (vp_iI (Int.le_trans (by decide) (Int.add_le_add (Int.mul_le_mul_of_nonneg_right (b_p2.1) (by decide)) (b_p3.1))) (Int.lt_of_le_of_lt (Int.add_le_add (Int.mul_le_mul_of_nonneg_right (b_p2.2) (by decide)) (b_p3.2)) (by decide)) (by decide)) dX2_costOver_12 ?_
  refine lv_topi (fun v3 hv3 => ?_)
  have b_v3 : v3.toInt ≤ v3.toInt := by rw [hv3]; exact Int.le_refl _
  have b1_v3 : v3 = fN_price ((iI ((p2.toInt * 8) + p3.toInt))).toNatClampNeg := hv3
  clear hv3
  have eP9 : v3.toInt = tuTab fN_price p2.toInt.toNat p3.toInt.toNat := (by rw [b1_v3]; show (fN_price (iI (p2.toInt * 8 + p3.toInt)).toInt.toNat).toInt = (fN_price _).toInt; rw [iI_t (by omega) (by omega), show 8 * p2.toInt.toNat + p3.toInt.toNat = (p2.toInt * 8 + p3.toInt).toNat from by omega])
  refine lv_aload_n hx hb dX2_costOver_13 rfl (lv_at hl 0 rfl) ?_
  refine va_get (D := (dC, dI)) (ci := 2) (v := .ref (aN 10)) (C := RX2) (T := TX2) (N := 14) hx hb hts iwsMX2_costOver_in2 hown hK hP 0 rfl rfl 13 (by decide) (hts (.fieldLink RX2 42 "OptimaWorks$NetDesk" "rest" "[I") (by decide +kernel)) (fun _ h9 => h9) rfl dX2_costOver_14 ?_
  refine lv_iload_n hx hb dX2_costOver_17 rfl (lv_at hl 1 rfl) ?_
  refine lv_iconst (v := 1) hx hb dX2_costOver_18 (by decide) ?_
  refine lv_iload_n hx hb dX2_costOver_19 rfl (lv_at hl 3 rfl) ?_
  refine lv_iconst (v := 1) hx hb dX2_costOver_20 (by decide) ?_
  refine lv_isub hx hb dX2_costOver_21 ?_
  refine lv_topi (fun y4 hy4 => ?_)
  obtain rfl : (iI (p3.toInt - 1)) = y4 := (hy4.trans (iI_sub2 (iI_of _) (by decide : (1 : Int32) = iI 1))).symm
  refine lv_ishl hx hb dX2_costOver_22 ?_
  refine lv_topi (fun v5 hv5 => ?_)
  have b_v5 : v5 = (1 : Int32) <<< ((iI (p3.toInt - 1)) &&& 31) := hv5
  clear hv5
  refine lv_iconst (v := (-1)) hx hb dX2_costOver_23 (by decide) ?_
  refine lv_ixor hx hb dX2_costOver_24 ?_
  refine lv_topi (fun v6 hv6 => ?_)
  have b_v6 : v6 = v5 ^^^ (-1) := hv6
  clear hv6
  refine lv_iand hx hb dX2_costOver_25 ?_
  refine lv_topi (fun v7 hv7 => ?_)
  have b_v7 : 0 ≤ v7.toInt ∧ v7.toInt ≤ p1.toInt := by rw [hv7]; exact and_posL rfl (by omega)
  have b1_v7 : v7.toInt = ((p1.toInt.toNat - 2 ^ (p3.toInt.toNat - 1) : Nat) : Int) := by rw [hv7]; exact tuAndT b_v5 b_v6 (by omega) (by omega) (by rw [iI_t (by omega) (by omega)]; omega) (by omega) (hb1)
  clear hv7
  refine lv_bipush (v := 8) hx hb dX2_costOver_26 (by decide) ?_
  refine lv_imul hx hb dX2_costOver_28 ?_
  refine lv_topi (fun y8 hy8 => ?_)
  obtain rfl : (iI (v7.toInt * 8)) = y8 := (hy8.trans (iI_mul2 (iI_of _) (by decide : (8 : Int32) = iI 8))).symm
  refine lv_iload_n hx hb dX2_costOver_29 rfl (lv_at hl 3 rfl) ?_
  refine lv_iadd hx hb dX2_costOver_30 ?_
  refine lv_topi (fun y9 hy9 => ?_)
  obtain rfl : (iI ((v7.toInt * 8) + p3.toInt)) = y9 := (hy9.trans (iI_add2 rfl (iI_of _))).symm
  refine va_iald (cA := kN 10) (n := 1024) (f := fN_rest) hx hb hK hP 11 10 rfl rfl (vp_iI (by omega) (by omega) (by decide)) dX2_costOver_31 ?_
  refine lv_topi (fun v10 hv10 => ?_)
  have b_v10 : v10.toInt ≤ v10.toInt := by rw [hv10]; exact Int.le_refl _
  have b1_v10 : v10 = fN_rest ((iI ((v7.toInt * 8) + p3.toInt))).toNatClampNeg := hv10
  clear hv10
  have eR9 : v10.toInt = tuTab fN_rest (p1.toInt.toNat - 2 ^ (p3.toInt.toNat - 1)) p3.toInt.toNat := (by rw [b1_v10]; show (fN_rest (iI (v7.toInt * 8 + p3.toInt)).toInt.toNat).toInt = (fN_rest _).toInt; rw [iI_t (by omega) (by omega), show 8 * (p1.toInt.toNat - 2 ^ (p3.toInt.toNat - 1)) + p3.toInt.toNat = (v7.toInt * 8 + p3.toInt).toNat from by omega])
  rw [← eP9] at hpb
  rw [← eR9] at hrb
  refine lv_iadd hx hb dX2_costOver_32 ?_
  refine lv_topi (fun y11 hy11 => ?_)
  obtain rfl : (iI (v3.toInt + v10.toInt)) = y11 := (hy11.trans (iI_add2 (iI_of _) (iI_of _))).symm
  refine va_mmin hx hb (by rw [hml]; exact hl.1.symm) hown (hts (.methodLink RX2 61 Lib.Math.min.name) (by decide +kernel)) (hts (.static Lib.Math.min.name) (by decide +kernel)) (hts (.initialized "java/lang/Math") (by decide +kernel)) (hts (.code Lib.Math.min.name Lib.Math.min.code 2 (some .int)) (by decide +kernel)) (by decide +kernel) (Nat.le_of_ble_eq_true rfl) (by decide +kernel) (by decide +kernel) dX2_costOver_33 ?_
  refine lv_topi (fun v12 hv12 => ?_)
  first | (have b_v12 : (v12.toInt ≤ 536870912 ∧ v12.toInt ≤ (v3.toInt + v10.toInt)) ∧ (v12.toInt = 536870912 ∨ v12.toInt = (v3.toInt + v10.toInt)) := by rw [hv12]; exact min_t (by decide : (536870912 : Int32).toInt = 536870912) (iI_t (by omega) (by omega))) | skip
  clear hv12
  refine W.widen (k := 0) (n := 0) (by decide +kernel) (by decide +kernel) ?_
  exact W.iret (v := v12) hx hb hr (fun t9_ ht hW => ⟨⟨v12, (), rfl, (by (try dsimp only); show _ = tuMin 536870912 (tuTab fN_price p2.toInt.toNat p3.toInt.toNat + tuTab fN_rest (p1.toInt.toNat - 2 ^ (p3.toInt.toNat - 1)) p3.toInt.toNat); rw [← eP9, ← eR9]; unfold tuMin; have h9 := b_v12; split <;> omega), by rw [ht]; exact hP, hD⟩, hS.F ht⟩) hS.2.2 dX2_costOver_36
theorem dX2_restFrom_0 : decode cX2_restFrom 0 = .ok (.iload_n 1, 1) := dk_27 (by decide +kernel)
theorem dX2_restFrom_1 : decode cX2_restFrom 1 = .ok (.ifCond .ne 13, 3) := dk_154 (by decide +kernel)
theorem dX2_restFrom_4 : decode cX2_restFrom 4 = .ok (.aload_n 0, 1) := dk_42 (by decide +kernel)
theorem dX2_restFrom_5 : decode cX2_restFrom 5 = .ok (.getfield 39, 3) := dk_180 (by decide +kernel)
theorem dX2_restFrom_8 : decode cX2_restFrom 8 = .ok (.iload_n 2, 1) := dk_28 (by decide +kernel)
theorem dX2_restFrom_9 : decode cX2_restFrom 9 = .ok (.bipush 8, 2) := dk_16 (by decide +kernel)
theorem dX2_restFrom_11 : decode cX2_restFrom 11 = .ok (.imul, 1) := dk_104 (by decide +kernel)
theorem dX2_restFrom_12 : decode cX2_restFrom 12 = .ok (.iaload, 1) := dk_46 (by decide +kernel)
theorem dX2_restFrom_13 : decode cX2_restFrom 13 = .ok (.ireturn, 1) := dk_172 (by decide +kernel)
theorem dX2_restFrom_14 : decode cX2_restFrom 14 = .ok (.ldc 60, 2) := dk_18 (by decide +kernel)
theorem dX2_restFrom_16 : decode cX2_restFrom 16 = .ok (.istore_n 3, 1) := dk_62 (by decide +kernel)
theorem dX2_restFrom_17 : decode cX2_restFrom 17 = .ok (.iconst 1, 1) := dk_4 (by decide +kernel)
theorem dX2_restFrom_18 : decode cX2_restFrom 18 = .ok (.istore 4, 2) := dk_54 (by decide +kernel)
theorem dX2_restFrom_20 : decode cX2_restFrom 20 = .ok (.iload 4, 2) := dk_21 (by decide +kernel)
theorem dX2_restFrom_22 : decode cX2_restFrom 22 = .ok (.aload_n 0, 1) := dk_42 (by decide +kernel)
theorem dX2_restFrom_23 : decode cX2_restFrom 23 = .ok (.getfield 98, 3) := dk_180 (by decide +kernel)
theorem dX2_restFrom_26 : decode cX2_restFrom 26 = .ok (.if_icmp .ge 33, 3) := dk_162 (by decide +kernel)
theorem dX2_restFrom_29 : decode cX2_restFrom 29 = .ok (.iload_n 1, 1) := dk_27 (by decide +kernel)
theorem dX2_restFrom_30 : decode cX2_restFrom 30 = .ok (.iload 4, 2) := dk_21 (by decide +kernel)
theorem dX2_restFrom_32 : decode cX2_restFrom 32 = .ok (.iconst 1, 1) := dk_4 (by decide +kernel)
theorem dX2_restFrom_33 : decode cX2_restFrom 33 = .ok (.isub, 1) := dk_100 (by decide +kernel)
theorem dX2_restFrom_34 : decode cX2_restFrom 34 = .ok (.ishr, 1) := dk_122 (by decide +kernel)
theorem dX2_restFrom_35 : decode cX2_restFrom 35 = .ok (.iconst 1, 1) := dk_4 (by decide +kernel)
theorem dX2_restFrom_36 : decode cX2_restFrom 36 = .ok (.iand, 1) := dk_126 (by decide +kernel)
theorem dX2_restFrom_37 : decode cX2_restFrom 37 = .ok (.ifCond .eq 16, 3) := dk_153 (by decide +kernel)
theorem dX2_restFrom_40 : decode cX2_restFrom 40 = .ok (.iload_n 3, 1) := dk_29 (by decide +kernel)
theorem dX2_restFrom_41 : decode cX2_restFrom 41 = .ok (.aload_n 0, 1) := dk_42 (by decide +kernel)
theorem dX2_restFrom_42 : decode cX2_restFrom 42 = .ok (.iload_n 1, 1) := dk_27 (by decide +kernel)
theorem dX2_restFrom_43 : decode cX2_restFrom 43 = .ok (.iload_n 2, 1) := dk_28 (by decide +kernel)
theorem dX2_restFrom_44 : decode cX2_restFrom 44 = .ok (.iload 4, 2) := dk_21 (by decide +kernel)
theorem dX2_restFrom_46 : decode cX2_restFrom 46 = .ok (.invokevirtual 107, 3) := dk_182 (by decide +kernel)
theorem dX2_restFrom_49 : decode cX2_restFrom 49 = .ok (.invokestatic 61, 3) := dk_184 (by decide +kernel)
theorem dX2_restFrom_52 : decode cX2_restFrom 52 = .ok (.istore_n 3, 1) := dk_62 (by decide +kernel)
theorem dX2_restFrom_53 : decode cX2_restFrom 53 = .ok (.iinc 4 1, 3) := dk_132 (by decide +kernel)
theorem dX2_restFrom_56 : decode cX2_restFrom 56 = .ok (.goto (-36), 3) := dk_167 (by decide +kernel)
theorem dX2_restFrom_59 : decode cX2_restFrom 59 = .ok (.iload_n 3, 1) := dk_29 (by decide +kernel)
theorem dX2_restFrom_60 : decode cX2_restFrom 60 = .ok (.ireturn, 1) := dk_172 (by decide +kernel)
def wsMX2_restFrom : List Cond := .code yX2_restFrom cX2_restFrom 5 (some .int) :: ([.constant RX2 60 536870912, .fieldLink RX2 98 "OptimaWorks$NetDesk" "stops" "I", .methodLink RX2 61 Lib.Math.min.name, .static Lib.Math.min.name, .initialized "java/lang/Math", .code Lib.Math.min.name Lib.Math.min.code 2 (some .int), .fieldLink RX2 39 "OptimaWorks$NetDesk" "price" "[I"] ++ wsX20 ++ (wsV RX2 107 RX2 yX2_costOver wsMX2_costOver))
theorem iwsMX2_restFrom_in2 : ∀ w ∈ wsX20, w ∈ wsMX2_restFrom := fun _ h => List.mem_cons_of_mem _ (List.mem_append_left _ (List.mem_append_right _ h))
theorem gwsMX2_restFrom_0 : GoodIn wsMX2_restFrom (wsV RX2 107 RX2 yX2_costOver wsMX2_costOver) := goodIn_sub (fun _ h => List.mem_cons_of_mem _ (List.mem_append_right _ h)) (gdV (by decide +kernel) gdwsMX2_costOver)
theorem gdwsMX2_restFrom : wsMX2_restFrom.all goodWord = true := gdC rfl (gdA (gdA (by decide +kernel : ([.constant RX2 60 536870912, .fieldLink RX2 98 "OptimaWorks$NetDesk" "stops" "I", .methodLink RX2 61 Lib.Math.min.name, .static Lib.Math.min.name, .initialized "java/lang/Math", .code Lib.Math.min.name Lib.Math.min.code 2 (some .int), .fieldLink RX2 39 "OptimaWorks$NetDesk" "price" "[I"] : List Cond).all goodWord = true) gdwsX20) (gdV (by decide +kernel) gdwsMX2_costOver))
set_option maxHeartbeats 4000000 in
set_option maxRecDepth 100000 in
/-- the least cost of the rest -/
theorem m_X2_restFrom (l : Launch) (dC : Nat → ClassId) (dI : Nat → Nat → Nat) (hN : Nat → Nat) (aN : Nat → Nat) (kN : Nat → ClassId) (iN_arcs : Int32) (fN_from : Nat → Int32) (fN_to : Nat → Int32) (fN_room : Nat → Int32) (fN_cost : Nat → Int32) (iN_reached : Int32) (fN_free : Nat → Int32) (fN_before : Nat → Int32) (fN_flow : Nat → Int32) (fN_length : Nat → Int32) (fN_stop : Nat → Int32) (iN_stops : Int32) (fN_price : Nat → Int32) (fN_rest : Nat → Int32) (p1 : Int32) (p2 : Int32) (b_iN_arcs : 0 ≤ iN_arcs.toInt ∧ iN_arcs.toInt ≤ 40) (b_fN_from : ∀ q : Nat, 0 ≤ (fN_from q).toInt ∧ (fN_from q).toInt ≤ 11) (b_fN_to : ∀ q : Nat, 0 ≤ (fN_to q).toInt ∧ (fN_to q).toInt ≤ 11) (b_fN_before : ∀ q : Nat, 0 ≤ (fN_before q).toInt ∧ (fN_before q).toInt ≤ 79) (b_fN_stop : ∀ q : Nat, 0 ≤ (fN_stop q).toInt ∧ (fN_stop q).toInt ≤ 11) (b_iN_stops : 0 ≤ iN_stops.toInt ∧ iN_stops.toInt ≤ 8) (b_p1 : 0 ≤ p1.toInt ∧ p1.toInt ≤ 127) (b_p2 : 0 ≤ p2.toInt ∧ p2.toInt ≤ 7) (hs1 : 1 ≤ iN_stops.toInt) (hat : p2.toInt < iN_stops.toInt) (hPb : ∀ x y, x < iN_stops.toInt.toNat → y < iN_stops.toInt.toNat → 0 ≤ tuTab fN_price x y ∧ tuTab fN_price x y ≤ 536870912) (hRb : ∀ y b, y < p1.toInt.toNat → b < iN_stops.toInt.toNat → 0 ≤ tuTab fN_rest y b ∧ tuTab fN_rest y b ≤ 536870912) (sz : Nat) : Met l yX2_restFrom wsMX2_restFrom ({ frames := 2, cells := 0, slots := 0, locals := 36 }) (va_Pc [.ref (hN 0), .int p1, .int p2] (fun U => U.heap.size = sz ∧ va_P (dC, dI) vwCl (WN hN aN kN iN_arcs fN_from fN_to fN_room fN_cost iN_reached fN_free fN_before fN_flow fN_length fN_stop iN_stops fN_price fN_rest) U.heap ∧ va_K (dC, dI) vwCl (tN kN) U ∧ va_D (fun _ => True) (WN hN aN kN iN_arcs fN_from fN_to fN_room fN_cost iN_reached fN_free fN_before fN_flow fN_length fN_stop iN_stops fN_price fN_rest))) (va_Qi (fun (r : Int32) (u : Unit) => (tuV1 (tuTab fN_price) iN_stops.toInt.toNat (tuTab fN_rest) p1.toInt.toNat p2.toInt.toNat r.toInt ∧ 0 ≤ r.toInt ∧ r.toInt ≤ 536870912)) (fun (u : Unit) t => va_P (dC, dI) vwCl (WN hN aN kN iN_arcs fN_from fN_to fN_room fN_cost iN_reached fN_free fN_before fN_flow fN_length fN_stop iN_stops fN_price fN_rest) t.heap ∧ va_D (va_A (WN hN aN kN iN_arcs fN_from fN_to fN_room fN_cost iN_reached fN_free fN_before fN_flow fN_length fN_stop iN_stops fN_price fN_rest) sz) (WN hN aN kN iN_arcs fN_from fN_to fN_room fN_cost iN_reached fN_free fN_before fN_flow fN_length fN_stop iN_stops fN_price fN_rest)) (va_A (WN hN aN kN iN_arcs fN_from fN_to fN_room fN_cost iN_reached fN_free fN_before fN_flow fN_length fN_stop iN_stops fN_price fN_rest) sz)) 0 0 (va_A (WN hN aN kN iN_arcs fN_from fN_to fN_room fN_cost iN_reached fN_free fN_before fN_flow fN_length fN_stop iN_stops fN_price fN_rest) sz) := by
  refine Met.ofW (cc := cX2_restFrom) (maxL := 5) (ret := (some .int)) (by decide) rfl ?_
  intro p e s m args below meth c s₁ B hml hv
  obtain ⟨rfl, hsz, hP, hK, hD0⟩ := hv
  have hx := B.exec
  have hb := B.bytes
  have hr := B.returns
  have hts := atoms_spec (ws := wsMX2_restFrom) B.pre
  have hown : s.vm.findClass RX2 = some m.cls := findClass_of_methodNamed B.named
  have hlocks := B.notSynchronized
  subst hsz
  have hD := hD0.self (sz := s.heap.size)
  generalize hAe : va_A (WN hN aN kN iN_arcs fN_from fN_to fN_room fN_cost iN_reached fN_free fN_before fN_flow fN_length fN_stop iN_stops fN_price fN_rest) s.heap.size = A at hD ⊢
  have hA : ∀ q : Nat, s.heap.size ≤ q → A q := fun q h => by rw [← hAe]; exact Or.inr h
  have hS : va_S A s.heap s.heap [] := va_S.rf
  have hl := lv_entry ([.ref (hN 0), .int p1, .int p2]) (n := 5) (Nat.le_of_ble_eq_true rfl)
  rw [lg_entry_eq]
  generalize (lg_sl ([.ref (hN 0), .int p1, .int p2]) ++ List.replicate (5 - (lg_sl ([.ref (hN 0), .int p1, .int p2])).length) Slot.unset).toArray = ls at hl ⊢
  have hl : lv_has ls 5 [(0, .ref (hN 0)), (1, .int p1), (2, .int p2)] := hl
  refine lv_iload_n hx hb dX2_restFrom_0 rfl (lv_at hl 1 rfl) ?_
  refine lv_if_ne (tgt := 14) hx hb dX2_restFrom_1 (by decide) (fun c_1 => ?_) (fun c_1 => ?_)
  · have t_1 : p1.toInt ≠ 0 := toI_ne c_1 rfl (by decide : (0 : Int32).toInt = 0)
    refine lv_ldc (v := 536870912) hx hb hown (hts (.constant RX2 60 536870912) (by decide +kernel)) dX2_restFrom_14 ?_
    refine lv_istore_n hx hb dX2_restFrom_16 rfl hl (by decide) rfl (fun ls (hl : lv_has ls _ ([(3, .int 536870912), (0, .ref (hN 0)), (1, .int p1), (2, .int p2)])) => ?_)
    refine lv_iconst (v := 1) hx hb dX2_restFrom_17 (by decide) ?_
    refine lv_istore hx hb dX2_restFrom_18 hl (by decide) rfl (fun ls (hl : lv_has ls _ ([(4, .int 1), (3, .int 536870912), (0, .ref (hN 0)), (1, .int p1), (2, .int p2)])) => ?_)
    have hl : lv_has _ _ ([(4, .int 1), (3, .int 536870912), (0, .ref (hN 0)), (1, .int p1), (2, .int p2)]) := lv_sub hl [0, 1, 2, 3, 4] rfl
    refine (fun (loop : ∀ (n9 : Nat) (l4_x20 : Int32) (l3_x20 : Int32) (H : Heap) (locs : List Loc) (ls : Array Slot), (1 ≤ l4_x20.toInt ∧ l4_x20.toInt ≤ 8) → (tuRs (tuTab fN_price) (tuTab fN_rest) p1.toInt.toNat p2.toInt.toNat l4_x20.toInt.toNat l3_x20.toInt) → (l4_x20.toInt ≤ iN_stops.toInt) → (8 - l4_x20.toInt < ((n9 : Nat) : Int)) → va_P (dC, dI) vwCl (WN hN aN kN iN_arcs fN_from fN_to fN_room fN_cost iN_reached fN_free fN_before fN_flow fN_length fN_stop iN_stops fN_price fN_rest) H → va_D A (WN hN aN kN iN_arcs fN_from fN_to fN_room fN_cost iN_reached fN_free fN_before fN_flow fN_length fN_stop iN_stops fN_price fN_rest) → va_S A s.heap H locs → lv_has ls 5 [(4, .int l4_x20), (3, .int l3_x20), (0, .ref (hN 0)), (1, .int p1), (2, .int p2)] → W p l e _ s m _ below meth c H locs 0 0 _ (F0 m 20 ls [])) => loop (8) 1 536870912 _ _ _ (show 1 ≤ (1 : Int32).toInt ∧ (1 : Int32).toInt ≤ 8 from by decide) (show tuRs (tuTab fN_price) (tuTab fN_rest) p1.toInt.toNat p2.toInt.toNat (1 : Int32).toInt.toNat (536870912 : Int32).toInt from tuRs.start (by decide) (by decide)) (show (1 : Int32).toInt ≤ iN_stops.toInt from by have h7 : (1 : Int32).toInt = 1 := (by decide); omega) ((by have e9 : (1 : Int32).toInt = 1 := (by decide : (1 : Int32).toInt = 1); omega)) hP hD hS hl) ?_
    intro n9
    induction n9 with
    | zero => intro l4_x20 l3_x20 H locs ls b_l4_x20 hRs hlb hf9; exact False.elim (by omega)
    | succ n9 ihx20 =>
      intro l4_x20 l3_x20 H locs ls b_l4_x20 hRs hlb hfx20 hP hD hS hl
      refine lv_iload hx hb dX2_restFrom_20 (lv_at hl 0 rfl) ?_
      refine lv_aload_n hx hb dX2_restFrom_22 rfl (lv_at hl 2 rfl) ?_
      refine va_get (D := (dC, dI)) (ci := 2) (v := .int iN_stops) (C := RX2) (T := TX2) (N := 14) hx hb hts iwsMX2_restFrom_in2 hown hK hP 0 rfl rfl 11 (by decide) (hts (.fieldLink RX2 98 "OptimaWorks$NetDesk" "stops" "I") (by decide +kernel)) (fun _ h9 => h9) rfl dX2_restFrom_23 ?_
      refine lv_icmp_ge (tgt := 59) hx hb dX2_restFrom_26 (by decide) (fun c_26 => ?_) (fun c_26 => ?_)
      · have t_26 : l4_x20.toInt ≥ iN_stops.toInt := toI_ge c_26 rfl rfl
        refine lv_iload_n hx hb dX2_restFrom_59 rfl (lv_at hl 1 rfl) ?_
        refine W.widen (k := 0) (n := 0) (by decide +kernel) (by decide +kernel) ?_
        exact W.iret (v := l3_x20) hx hb hr (fun t9_ ht hW => ⟨⟨l3_x20, (), rfl, (by (try dsimp only); exact (⟨tuRs.done hRs (by omega) (by omega) (by omega), hRs.1⟩)), by rw [ht]; exact hP, hD⟩, hS.F ht⟩) hS.2.2 dX2_restFrom_60
      · have t_26 : ¬ l4_x20.toInt ≥ iN_stops.toInt := toI_nge c_26 rfl rfl
        refine lv_iload_n hx hb dX2_restFrom_29 rfl (lv_at hl 3 rfl) ?_
        refine lv_iload hx hb dX2_restFrom_30 (lv_at hl 0 rfl) ?_
        refine lv_iconst (v := 1) hx hb dX2_restFrom_32 (by decide) ?_
        refine lv_isub hx hb dX2_restFrom_33 ?_
        refine lv_topi (fun y36 hy36 => ?_)
        obtain rfl : (iI (l4_x20.toInt - 1)) = y36 := (hy36.trans (iI_sub2 (iI_of _) (by decide : (1 : Int32) = iI 1))).symm
        refine lv_ishr hx hb dX2_restFrom_34 ?_
        refine lv_topi (fun v37 hv37 => ?_)
        have b_v37 : v37 = p1 >>> ((iI (l4_x20.toInt - 1)) &&& 31) := hv37
        clear hv37
        refine lv_iconst (v := 1) hx hb dX2_restFrom_35 (by decide) ?_
        refine lv_iand hx hb dX2_restFrom_36 ?_
        refine lv_topi (fun v38 hv38 => ?_)
        have b_v38 : (bt p1 (l4_x20.toInt - 1).toNat = true ∧ v38.toInt = 1) ∨ (bt p1 (l4_x20.toInt - 1).toNat = false ∧ v38.toInt = 0) := by rw [hv38]; exact sh_and1 b_v37 (iI_t (Int.le_trans (by decide) (Int.sub_le_sub (b_l4_x20.1) (Int.le_refl _))) (Int.le_trans (Int.sub_le_sub (b_l4_x20.2) (Int.le_refl _)) (by decide))) (by omega) (by omega)
        clear hv38
        refine W.cut (pc := 53) (fun H locs ls stk => ∃ (l3_j12 : Int32), (tuRs (tuTab fN_price) (tuTab fN_rest) p1.toInt.toNat p2.toInt.toNat (l4_x20.toInt.toNat + 1) l3_j12.toInt) ∧  stk = [] ∧ va_P (dC, dI) vwCl (WN hN aN kN iN_arcs fN_from fN_to fN_room fN_cost iN_reached fN_free fN_before fN_flow fN_length fN_stop iN_stops fN_price fN_rest) H ∧ va_D A (WN hN aN kN iN_arcs fN_from fN_to fN_room fN_cost iN_reached fN_free fN_before fN_flow fN_length fN_stop iN_stops fN_price fN_rest) ∧ va_S A s.heap H locs ∧ lv_has ls 5 [(4, .int l4_x20), (3, .int l3_j12), (0, .ref (hN 0)), (1, .int p1), (2, .int p2)]) (fun join12 => ?_) ?_
        · refine lv_if_eq (tgt := 53) hx hb dX2_restFrom_37 (by decide) (fun c_37 => ?_) (fun c_37 => ?_)
          · have t_37 : v38.toInt = 0 := toI_eq c_37 rfl (by decide : (0 : Int32).toInt = 0)
            have hl : lv_has _ _ ([(4, .int l4_x20), (3, .int l3_x20), (0, .ref (hN 0)), (1, .int p1), (2, .int p2)]) := lv_sub hl [0, 1, 2, 3, 4] rfl
            exact join12 _ _ _ _ ⟨l3_x20, (show tuRs (tuTab fN_price) (tuTab fN_rest) p1.toInt.toNat p2.toInt.toNat (l4_x20.toInt.toNat + 1) l3_x20.toInt from tuRs.skip hRs (by rw [show l4_x20.toInt.toNat - 1 = (l4_x20.toInt - 1).toNat from by omega, ← bt_tb (by omega) (by omega)]; exact bt_no b_v38 t_37)), rfl, hP, hD, hS, hl⟩
          · have t_37 : ¬ v38.toInt = 0 := toI_neq c_37 rfl (by decide : (0 : Int32).toInt = 0)
            refine lv_iload_n hx hb dX2_restFrom_40 rfl (lv_at hl 1 rfl) ?_
            refine lv_aload_n hx hb dX2_restFrom_41 rfl (lv_at hl 2 rfl) ?_
            refine lv_iload_n hx hb dX2_restFrom_42 rfl (lv_at hl 3 rfl) ?_
            refine lv_iload_n hx hb dX2_restFrom_43 rfl (lv_at hl 4 rfl) ?_
            refine lv_iload hx hb dX2_restFrom_44 (lv_at hl 0 rfl) ?_
            have hFc := allFree hD hS hA
            refine va_calli (va_runV (As := [.int p1, .int p2, .int l4_x20]) (rest := [.int l3_x20]) ⟨hx, hb, hml, hown, hts⟩ (m_X2_costOver l dC dI hN aN kN iN_arcs fN_from fN_to fN_room fN_cost iN_reached fN_free fN_before fN_flow fN_length fN_stop iN_stops fN_price fN_rest p1 p2 l4_x20 (b_iN_arcs) b_fN_from b_fN_to b_fN_before b_fN_stop (b_iN_stops) (b_p1) (b_p2) (by first | exact b_l4_x20 | with_reducible assumption | exact ⟨by omega, by omega⟩ | assumption) ((by rw [show l4_x20.toInt.toNat - 1 = (l4_x20.toInt - 1).toNat from by omega, ← bt_tb (by omega) (by omega)]; exact bt_yes b_v38 t_37)) (hPb _ _ (by omega) (by omega)) (hRb _ _ (tuOff_lt (tuBitNz (j := l4_x20.toInt.toNat - 1) (by rw [show l4_x20.toInt.toNat - 1 = (l4_x20.toInt - 1).toNat from by omega, ← bt_tb (by omega) (by omega)]; exact bt_yes b_v38 t_37))) (by omega)) H.size) (cwV 3 hts gwsMX2_restFrom_0 rfl rfl rfl hd_yX2_costOver_RX2 (by decide +kernel)) (fz_pre (va_recv hK hP (ci := 2) (q0 := 0) rfl rfl) hP hK hD) rfl rfl hl.1 rfl (lv_room (Nat.le_of_ble_eq_true rfl)) dX2_restFrom_46 (by decide +kernel)) hS (fun q _ h => hFc q h) hFc (fun r41 u t9_ H locs ht hvm hw9 hB9 hz1 hk1 hS => ?_)
            have f41_0 := hw9
            try dsimp only at f41_0
            have hP : va_P (dC, dI) vwCl (WN hN aN kN iN_arcs fN_from fN_to fN_room fN_cost iN_reached fN_free fN_before fN_flow fN_length fN_stop iN_stops fN_price fN_rest) H := fz_P ht hB9.1
            have hD := fz_sd hP (hB9.2.weaken (fun _ q _ h => hFc q.1 h)) rfl
            refine va_mmin hx hb (by rw [hml]; exact hl.1.symm) hown (hts (.methodLink RX2 61 Lib.Math.min.name) (by decide +kernel)) (hts (.static Lib.Math.min.name) (by decide +kernel)) (hts (.initialized "java/lang/Math") (by decide +kernel)) (hts (.code Lib.Math.min.name Lib.Math.min.code 2 (some .int)) (by decide +kernel)) (by decide +kernel) (Nat.le_of_ble_eq_true rfl) (by decide +kernel) (by decide +kernel) dX2_restFrom_49 ?_
            refine lv_topi (fun v42 hv42 => ?_)
            have b_v42 : (v42.toInt ≤ l3_x20.toInt ∧ v42.toInt ≤ r41.toInt) ∧ (v42.toInt = l3_x20.toInt ∨ v42.toInt = r41.toInt) := by rw [hv42]; exact min_t rfl rfl
            clear hv42
            refine lv_istore_n hx hb dX2_restFrom_52 rfl hl (by decide) rfl (fun ls (hl : lv_has ls _ ([(3, .int v42), (4, .int l4_x20), (0, .ref (hN 0)), (1, .int p1), (2, .int p2)])) => ?_)
            have hl : lv_has _ _ ([(4, .int l4_x20), (3, .int v42), (0, .ref (hN 0)), (1, .int p1), (2, .int p2)]) := lv_sub hl [1, 0, 2, 3, 4] rfl
            exact join12 _ _ _ _ ⟨v42, (show tuRs (tuTab fN_price) (tuTab fN_rest) p1.toInt.toNat p2.toInt.toNat (l4_x20.toInt.toNat + 1) v42.toInt from tuRs.take hRs (by omega) (by rw [show l4_x20.toInt.toNat - 1 = (l4_x20.toInt - 1).toNat from by omega, ← bt_tb (by omega) (by omega)]; exact bt_yes b_v38 t_37) f41_0 (by (have h9 := hs1); rw [f41_0]; exact tuG_0 (hPb _ _ (by omega) (by omega)).1 (hRb _ _ (tuOff_lt (by omega)) (by omega)).1) b_v42), rfl, hP, hD, hS, hl⟩
        · rintro H locs ls stk ⟨l3_j12, hRj, rfl, hP, hD, hS, hl⟩
          refine lv_iinc (v := (iI (l4_x20.toInt + 1))) hx hb dX2_restFrom_53 hl (k := 0) rfl (iI_add2 (iI_of _) (by decide : (1 : Int32) = iI 1)) (by decide) rfl (fun ls (hl : lv_has ls _ ([(4, .int (iI (l4_x20.toInt + 1))), (3, .int l3_j12), (0, .ref (hN 0)), (1, .int p1), (2, .int p2)])) => ?_)
          refine lv_goto (tgt := 20) hx hb dX2_restFrom_56 (by decide) ?_
          have hl : lv_has _ _ ([(4, .int (iI (l4_x20.toInt + 1))), (3, .int l3_j12), (0, .ref (hN 0)), (1, .int p1), (2, .int p2)]) := lv_sub hl [0, 1, 2, 3, 4] rfl
          exact ihx20 (iI (l4_x20.toInt + 1)) l3_j12 _ _ _ (iI_rng (Int.le_trans (by decide) (Int.add_le_add (b_l4_x20.1) (Int.le_refl _))) (by omega) (by decide) (by decide)) (show tuRs (tuTab fN_price) (tuTab fN_rest) p1.toInt.toNat p2.toInt.toNat (iI (l4_x20.toInt + 1)).toInt.toNat l3_j12.toInt from by rw [show (iI (l4_x20.toInt + 1)).toInt.toNat = l4_x20.toInt.toNat + 1 from by rw [iI_t (by omega) (by omega)]; omega]; exact hRj) (show (iI (l4_x20.toInt + 1)).toInt ≤ iN_stops.toInt from by rw [iI_t (by omega) (by omega)]; omega) (by have e9 : ((iI (l4_x20.toInt + 1))).toInt = (l4_x20.toInt + 1) := (iI_t (Int.le_trans (by decide) (Int.add_le_add (b_l4_x20.1) (Int.le_refl _))) (Int.le_trans (Int.add_le_add (b_l4_x20.2) (Int.le_refl _)) (by decide))); omega) hP hD hS hl
  · have t_1 : p1.toInt = 0 := toI_nne c_1 rfl (by decide : (0 : Int32).toInt = 0)
    refine lv_aload_n hx hb dX2_restFrom_4 rfl (lv_at hl 0 rfl) ?_
    refine va_get (D := (dC, dI)) (ci := 2) (v := .ref (aN 9)) (C := RX2) (T := TX2) (N := 14) hx hb hts iwsMX2_restFrom_in2 hown hK hP 0 rfl rfl 12 (by decide) (hts (.fieldLink RX2 39 "OptimaWorks$NetDesk" "price" "[I") (by decide +kernel)) (fun _ h9 => h9) rfl dX2_restFrom_5 ?_
    refine lv_iload_n hx hb dX2_restFrom_8 rfl (lv_at hl 2 rfl) ?_
    refine lv_bipush (v := 8) hx hb dX2_restFrom_9 (by decide) ?_
    refine lv_imul hx hb dX2_restFrom_11 ?_
    refine lv_topi (fun y43 hy43 => ?_)
    obtain rfl : (iI (p2.toInt * 8)) = y43 := (hy43.trans (iI_mul2 (iI_of _) (by decide : (8 : Int32) = iI 8))).symm
    refine va_iald (cA := kN 9) (n := 64) (f := fN_price) hx hb hK hP 10 9 rfl rfl (vp_iI (Int.le_trans (by decide) (Int.mul_le_mul_of_nonneg_right (b_p2.1) (by decide))) (Int.lt_of_le_of_lt (Int.mul_le_mul_of_nonneg_right (b_p2.2) (by decide)) (by decide)) (by decide)) dX2_restFrom_12 ?_
    refine lv_topi (fun v44 hv44 => ?_)
    have b_v44 : v44.toInt ≤ v44.toInt := by rw [hv44]; exact Int.le_refl _
    have b1_v44 : v44 = fN_price ((iI (p2.toInt * 8))).toNatClampNeg := hv44
    clear hv44
    refine W.widen (k := 0) (n := 0) (by decide +kernel) (by decide +kernel) ?_
    exact W.iret (v := v44) hx hb hr (fun t9_ ht hW => ⟨⟨v44, (), rfl, (by (try dsimp only); exact (⟨⟨fun _ => by rw [b1_v44]; show (fN_price (iI (p2.toInt * 8)).toInt.toNat).toInt = (fN_price (8 * p2.toInt.toNat + 0)).toInt; rw [iI_t (by omega) (by omega), show (p2.toInt * 8).toNat = 8 * p2.toInt.toNat + 0 from by omega], fun h9 => absurd (by omega) h9⟩, by rw [show v44.toInt = tuTab fN_price p2.toInt.toNat 0 from by rw [b1_v44]; show (fN_price (iI (p2.toInt * 8)).toInt.toNat).toInt = (fN_price (8 * p2.toInt.toNat + 0)).toInt; rw [iI_t (by omega) (by omega), show (p2.toInt * 8).toNat = 8 * p2.toInt.toNat + 0 from by omega]]; exact hPb _ _ (by omega) (by omega)⟩)), by rw [ht]; exact hP, hD⟩, hS.F ht⟩) hS.2.2 dX2_restFrom_13
theorem dX2_nextStop_0 : decode cX2_nextStop 0 = .ok (.iconst 1, 1) := dk_4 (by decide +kernel)
theorem dX2_nextStop_1 : decode cX2_nextStop 1 = .ok (.istore_n 3, 1) := dk_62 (by decide +kernel)
theorem dX2_nextStop_2 : decode cX2_nextStop 2 = .ok (.iload_n 3, 1) := dk_29 (by decide +kernel)
theorem dX2_nextStop_3 : decode cX2_nextStop 3 = .ok (.aload_n 0, 1) := dk_42 (by decide +kernel)
theorem dX2_nextStop_4 : decode cX2_nextStop 4 = .ok (.getfield 98, 3) := dk_180 (by decide +kernel)
theorem dX2_nextStop_7 : decode cX2_nextStop 7 = .ok (.if_icmp .ge 42, 3) := dk_162 (by decide +kernel)
theorem dX2_nextStop_10 : decode cX2_nextStop 10 = .ok (.iload_n 1, 1) := dk_27 (by decide +kernel)
theorem dX2_nextStop_11 : decode cX2_nextStop 11 = .ok (.iload_n 3, 1) := dk_29 (by decide +kernel)
theorem dX2_nextStop_12 : decode cX2_nextStop 12 = .ok (.iconst 1, 1) := dk_4 (by decide +kernel)
theorem dX2_nextStop_13 : decode cX2_nextStop 13 = .ok (.isub, 1) := dk_100 (by decide +kernel)
theorem dX2_nextStop_14 : decode cX2_nextStop 14 = .ok (.ishr, 1) := dk_122 (by decide +kernel)
theorem dX2_nextStop_15 : decode cX2_nextStop 15 = .ok (.iconst 1, 1) := dk_4 (by decide +kernel)
theorem dX2_nextStop_16 : decode cX2_nextStop 16 = .ok (.iand, 1) := dk_126 (by decide +kernel)
theorem dX2_nextStop_17 : decode cX2_nextStop 17 = .ok (.ifCond .eq 26, 3) := dk_153 (by decide +kernel)
theorem dX2_nextStop_20 : decode cX2_nextStop 20 = .ok (.aload_n 0, 1) := dk_42 (by decide +kernel)
theorem dX2_nextStop_21 : decode cX2_nextStop 21 = .ok (.iload_n 1, 1) := dk_27 (by decide +kernel)
theorem dX2_nextStop_22 : decode cX2_nextStop 22 = .ok (.iload_n 2, 1) := dk_28 (by decide +kernel)
theorem dX2_nextStop_23 : decode cX2_nextStop 23 = .ok (.iload_n 3, 1) := dk_29 (by decide +kernel)
theorem dX2_nextStop_24 : decode cX2_nextStop 24 = .ok (.invokevirtual 107, 3) := dk_182 (by decide +kernel)
theorem dX2_nextStop_27 : decode cX2_nextStop 27 = .ok (.aload_n 0, 1) := dk_42 (by decide +kernel)
theorem dX2_nextStop_28 : decode cX2_nextStop 28 = .ok (.getfield 42, 3) := dk_180 (by decide +kernel)
theorem dX2_nextStop_31 : decode cX2_nextStop 31 = .ok (.iload_n 1, 1) := dk_27 (by decide +kernel)
theorem dX2_nextStop_32 : decode cX2_nextStop 32 = .ok (.bipush 8, 2) := dk_16 (by decide +kernel)
theorem dX2_nextStop_34 : decode cX2_nextStop 34 = .ok (.imul, 1) := dk_104 (by decide +kernel)
theorem dX2_nextStop_35 : decode cX2_nextStop 35 = .ok (.iload_n 2, 1) := dk_28 (by decide +kernel)
theorem dX2_nextStop_36 : decode cX2_nextStop 36 = .ok (.iadd, 1) := dk_96 (by decide +kernel)
theorem dX2_nextStop_37 : decode cX2_nextStop 37 = .ok (.iaload, 1) := dk_46 (by decide +kernel)
theorem dX2_nextStop_38 : decode cX2_nextStop 38 = .ok (.if_icmp .ne 5, 3) := dk_160 (by decide +kernel)
theorem dX2_nextStop_41 : decode cX2_nextStop 41 = .ok (.iload_n 3, 1) := dk_29 (by decide +kernel)
theorem dX2_nextStop_42 : decode cX2_nextStop 42 = .ok (.ireturn, 1) := dk_172 (by decide +kernel)
theorem dX2_nextStop_43 : decode cX2_nextStop 43 = .ok (.iinc 3 1, 3) := dk_132 (by decide +kernel)
theorem dX2_nextStop_46 : decode cX2_nextStop 46 = .ok (.goto (-44), 3) := dk_167 (by decide +kernel)
theorem dX2_nextStop_49 : decode cX2_nextStop 49 = .ok (.iconst 1, 1) := dk_4 (by decide +kernel)
theorem dX2_nextStop_50 : decode cX2_nextStop 50 = .ok (.aload_n 0, 1) := dk_42 (by decide +kernel)
theorem dX2_nextStop_51 : decode cX2_nextStop 51 = .ok (.getfield 98, 3) := dk_180 (by decide +kernel)
theorem dX2_nextStop_54 : decode cX2_nextStop 54 = .ok (.iconst 1, 1) := dk_4 (by decide +kernel)
theorem dX2_nextStop_55 : decode cX2_nextStop 55 = .ok (.isub, 1) := dk_100 (by decide +kernel)
theorem dX2_nextStop_56 : decode cX2_nextStop 56 = .ok (.invokestatic 89, 3) := dk_184 (by decide +kernel)
theorem dX2_nextStop_59 : decode cX2_nextStop 59 = .ok (.ireturn, 1) := dk_172 (by decide +kernel)
def wsMX2_nextStop : List Cond := .code yX2_nextStop cX2_nextStop 4 (some .int) :: ([.fieldLink RX2 98 "OptimaWorks$NetDesk" "stops" "I", .methodLink RX2 89 Lib.Math.max.name, .static Lib.Math.max.name, .initialized "java/lang/Math", .code Lib.Math.max.name Lib.Math.max.code 2 (some .int), .fieldLink RX2 42 "OptimaWorks$NetDesk" "rest" "[I"] ++ wsX20 ++ (wsV RX2 107 RX2 yX2_costOver wsMX2_costOver))
theorem iwsMX2_nextStop_in2 : ∀ w ∈ wsX20, w ∈ wsMX2_nextStop := fun _ h => List.mem_cons_of_mem _ (List.mem_append_left _ (List.mem_append_right _ h))
theorem gwsMX2_nextStop_0 : GoodIn wsMX2_nextStop (wsV RX2 107 RX2 yX2_costOver wsMX2_costOver) := goodIn_sub (fun _ h => List.mem_cons_of_mem _ (List.mem_append_right _ h)) (gdV (by decide +kernel) gdwsMX2_costOver)
theorem gdwsMX2_nextStop : wsMX2_nextStop.all goodWord = true := gdC rfl (gdA (gdA (by decide +kernel : ([.fieldLink RX2 98 "OptimaWorks$NetDesk" "stops" "I", .methodLink RX2 89 Lib.Math.max.name, .static Lib.Math.max.name, .initialized "java/lang/Math", .code Lib.Math.max.name Lib.Math.max.code 2 (some .int), .fieldLink RX2 42 "OptimaWorks$NetDesk" "rest" "[I"] : List Cond).all goodWord = true) gdwsX20) (gdV (by decide +kernel) gdwsMX2_costOver))
theorem hm_m_X2_nextStop_0 : (.fieldLink RX2 98 "OptimaWorks$NetDesk" "stops" "I" : Cond) ∈ wsMX2_nextStop := by decide +kernel
set_option maxHeartbeats 4000000 in
set_option maxRecDepth 100000 in
/-- the next stop -/
theorem m_X2_nextStop (l : Launch) (dC : Nat → ClassId) (dI : Nat → Nat → Nat) (hN : Nat → Nat) (aN : Nat → Nat) (kN : Nat → ClassId) (iN_arcs : Int32) (fN_from : Nat → Int32) (fN_to : Nat → Int32) (fN_room : Nat → Int32) (fN_cost : Nat → Int32) (iN_reached : Int32) (fN_free : Nat → Int32) (fN_before : Nat → Int32) (fN_flow : Nat → Int32) (fN_length : Nat → Int32) (fN_stop : Nat → Int32) (iN_stops : Int32) (fN_price : Nat → Int32) (fN_rest : Nat → Int32) (p1 : Int32) (p2 : Int32) (b_iN_arcs : 0 ≤ iN_arcs.toInt ∧ iN_arcs.toInt ≤ 40) (b_fN_from : ∀ q : Nat, 0 ≤ (fN_from q).toInt ∧ (fN_from q).toInt ≤ 11) (b_fN_to : ∀ q : Nat, 0 ≤ (fN_to q).toInt ∧ (fN_to q).toInt ≤ 11) (b_fN_before : ∀ q : Nat, 0 ≤ (fN_before q).toInt ∧ (fN_before q).toInt ≤ 79) (b_fN_stop : ∀ q : Nat, 0 ≤ (fN_stop q).toInt ∧ (fN_stop q).toInt ≤ 11) (b_iN_stops : 0 ≤ iN_stops.toInt ∧ iN_stops.toInt ≤ 8) (b_p1 : 0 ≤ p1.toInt ∧ p1.toInt ≤ 127) (b_p2 : 0 ≤ p2.toInt ∧ p2.toInt ≤ 7) (hs1 : 1 ≤ iN_stops.toInt) (hat : p2.toInt < iN_stops.toInt) (hPb : ∀ x y, x < iN_stops.toInt.toNat → y < iN_stops.toInt.toNat → 0 ≤ tuTab fN_price x y ∧ tuTab fN_price x y ≤ 536870912) (hRb : ∀ y b, y < p1.toInt.toNat → b < iN_stops.toInt.toNat → 0 ≤ tuTab fN_rest y b ∧ tuTab fN_rest y b ≤ 536870912) (sz : Nat) : Met l yX2_nextStop wsMX2_nextStop ({ frames := 2, cells := 0, slots := 0, locals := 36 }) (va_Pc [.ref (hN 0), .int p1, .int p2] (fun U => U.heap.size = sz ∧ va_P (dC, dI) vwCl (WN hN aN kN iN_arcs fN_from fN_to fN_room fN_cost iN_reached fN_free fN_before fN_flow fN_length fN_stop iN_stops fN_price fN_rest) U.heap ∧ va_K (dC, dI) vwCl (tN kN) U ∧ va_D (fun _ => True) (WN hN aN kN iN_arcs fN_from fN_to fN_room fN_cost iN_reached fN_free fN_before fN_flow fN_length fN_stop iN_stops fN_price fN_rest))) (va_Qi (fun (r : Int32) (u : Unit) => (1 ≤ r.toInt ∧ r.toInt ≤ 7) ∧ ((∃ b : Nat, 1 ≤ b ∧ b < iN_stops.toInt.toNat ∧ tuQ (tuTab fN_price) (tuTab fN_rest) p1.toInt.toNat p2.toInt.toNat b = true) → 1 ≤ r.toInt ∧ r.toInt < iN_stops.toInt ∧ tuQ (tuTab fN_price) (tuTab fN_rest) p1.toInt.toNat p2.toInt.toNat r.toInt.toNat = true ∧ ∀ c : Nat, 1 ≤ c → (c : Int) < r.toInt → tuQ (tuTab fN_price) (tuTab fN_rest) p1.toInt.toNat p2.toInt.toNat c = false)) (fun (u : Unit) t => va_P (dC, dI) vwCl (WN hN aN kN iN_arcs fN_from fN_to fN_room fN_cost iN_reached fN_free fN_before fN_flow fN_length fN_stop iN_stops fN_price fN_rest) t.heap ∧ va_D (va_A (WN hN aN kN iN_arcs fN_from fN_to fN_room fN_cost iN_reached fN_free fN_before fN_flow fN_length fN_stop iN_stops fN_price fN_rest) sz) (WN hN aN kN iN_arcs fN_from fN_to fN_room fN_cost iN_reached fN_free fN_before fN_flow fN_length fN_stop iN_stops fN_price fN_rest)) (va_A (WN hN aN kN iN_arcs fN_from fN_to fN_room fN_cost iN_reached fN_free fN_before fN_flow fN_length fN_stop iN_stops fN_price fN_rest) sz)) 0 0 (va_A (WN hN aN kN iN_arcs fN_from fN_to fN_room fN_cost iN_reached fN_free fN_before fN_flow fN_length fN_stop iN_stops fN_price fN_rest) sz) := by
  refine Met.ofW (cc := cX2_nextStop) (maxL := 4) (ret := (some .int)) (by decide) rfl ?_
  intro p e s m args below meth c s₁ B hml hv
  obtain ⟨rfl, hsz, hP, hK, hD0⟩ := hv
  have hx := B.exec
  have hb := B.bytes
  have hr := B.returns
  have hts := atoms_spec (ws := wsMX2_nextStop) B.pre
  have hown : s.vm.findClass RX2 = some m.cls := findClass_of_methodNamed B.named
  have hlocks := B.notSynchronized
  subst hsz
  have hD := hD0.self (sz := s.heap.size)
  generalize hAe : va_A (WN hN aN kN iN_arcs fN_from fN_to fN_room fN_cost iN_reached fN_free fN_before fN_flow fN_length fN_stop iN_stops fN_price fN_rest) s.heap.size = A at hD ⊢
  have hA : ∀ q : Nat, s.heap.size ≤ q → A q := fun q h => by rw [← hAe]; exact Or.inr h
  have hS : va_S A s.heap s.heap [] := va_S.rf
  have hl := lv_entry ([.ref (hN 0), .int p1, .int p2]) (n := 4) (Nat.le_of_ble_eq_true rfl)
  rw [lg_entry_eq]
  generalize (lg_sl ([.ref (hN 0), .int p1, .int p2]) ++ List.replicate (4 - (lg_sl ([.ref (hN 0), .int p1, .int p2])).length) Slot.unset).toArray = ls at hl ⊢
  have hl : lv_has ls 4 [(0, .ref (hN 0)), (1, .int p1), (2, .int p2)] := hl
  refine lv_iconst (v := 1) hx hb dX2_nextStop_0 (by decide) ?_
  refine lv_istore_n hx hb dX2_nextStop_1 rfl hl (by decide) rfl (fun ls (hl : lv_has ls _ ([(3, .int 1), (0, .ref (hN 0)), (1, .int p1), (2, .int p2)])) => ?_)
  have hl : lv_has _ _ ([(3, .int 1), (0, .ref (hN 0)), (1, .int p1), (2, .int p2)]) := lv_sub hl [0, 1, 2, 3] rfl
  refine (fun (loop : ∀ (n9 : Nat) (l3_x2 : Int32) (H : Heap) (locs : List Loc) (ls : Array Slot), (1 ≤ l3_x2.toInt ∧ l3_x2.toInt ≤ 8) → (∀ c : Nat, 1 ≤ c → (c : Int) < l3_x2.toInt → tuQ (tuTab fN_price) (tuTab fN_rest) p1.toInt.toNat p2.toInt.toNat c = false) → (8 - l3_x2.toInt < ((n9 : Nat) : Int)) → va_P (dC, dI) vwCl (WN hN aN kN iN_arcs fN_from fN_to fN_room fN_cost iN_reached fN_free fN_before fN_flow fN_length fN_stop iN_stops fN_price fN_rest) H → va_D A (WN hN aN kN iN_arcs fN_from fN_to fN_room fN_cost iN_reached fN_free fN_before fN_flow fN_length fN_stop iN_stops fN_price fN_rest) → va_S A s.heap H locs → lv_has ls 4 [(3, .int l3_x2), (0, .ref (hN 0)), (1, .int p1), (2, .int p2)] → W p l e _ s m _ below meth c H locs 0 0 _ (F0 m 2 ls [])) => loop (8) 1 _ _ _ (show 1 ≤ (1 : Int32).toInt ∧ (1 : Int32).toInt ≤ 8 from by decide) (show ∀ c : Nat, 1 ≤ c → (c : Int) < (1 : Int32).toInt → tuQ (tuTab fN_price) (tuTab fN_rest) p1.toInt.toNat p2.toInt.toNat c = false from fun c h1 h2 => absurd h2 (by have h7 : (1 : Int32).toInt = 1 := (by decide); omega)) ((by have e9 : (1 : Int32).toInt = 1 := (by decide : (1 : Int32).toInt = 1); omega)) hP hD hS hl) ?_
  intro n9
  induction n9 with
  | zero => intro l3_x2 H locs ls b_l3_x2 hNo hf9; exact False.elim (by omega)
  | succ n9 ihx2 =>
    intro l3_x2 H locs ls b_l3_x2 hNo hfx2 hP hD hS hl
    refine lv_iload_n hx hb dX2_nextStop_2 rfl (lv_at hl 0 rfl) ?_
    refine lv_aload_n hx hb dX2_nextStop_3 rfl (lv_at hl 1 rfl) ?_
    refine va_get (D := (dC, dI)) (ci := 2) (v := .int iN_stops) (C := RX2) (T := TX2) (N := 14) hx hb hts iwsMX2_nextStop_in2 hown hK hP 0 rfl rfl 11 (by decide) (hts _ hm_m_X2_nextStop_0) (fun _ h9 => h9) rfl dX2_nextStop_4 ?_
    refine lv_icmp_ge (tgt := 49) hx hb dX2_nextStop_7 (by decide) (fun c_7 => ?_) (fun c_7 => ?_)
    · have t_7 : l3_x2.toInt ≥ iN_stops.toInt := toI_ge c_7 rfl rfl
      refine lv_iconst (v := 1) hx hb dX2_nextStop_49 (by decide) ?_
      refine lv_aload_n hx hb dX2_nextStop_50 rfl (lv_at hl 1 rfl) ?_
      refine va_get (D := (dC, dI)) (ci := 2) (v := .int iN_stops) (C := RX2) (T := TX2) (N := 14) hx hb hts iwsMX2_nextStop_in2 hown hK hP 0 rfl rfl 11 (by decide) (hts _ hm_m_X2_nextStop_0) (fun _ h9 => h9) rfl dX2_nextStop_51 ?_
      refine lv_iconst (v := 1) hx hb dX2_nextStop_54 (by decide) ?_
      refine lv_isub hx hb dX2_nextStop_55 ?_
      refine lv_topi (fun y19 hy19 => ?_)
      obtain rfl : (iI (iN_stops.toInt - 1)) = y19 := (hy19.trans (iI_sub2 (iI_of _) (by decide : (1 : Int32) = iI 1))).symm
      refine va_mmax hx hb (by rw [hml]; exact hl.1.symm) hown (hts (.methodLink RX2 89 Lib.Math.max.name) (by decide +kernel)) (hts (.static Lib.Math.max.name) (by decide +kernel)) (hts (.initialized "java/lang/Math") (by decide +kernel)) (hts (.code Lib.Math.max.name Lib.Math.max.code 2 (some .int)) (by decide +kernel)) (by decide +kernel) (Nat.le_of_ble_eq_true rfl) (by decide +kernel) (by decide +kernel) dX2_nextStop_56 ?_
      refine lv_topi (fun v20 hv20 => ?_)
      have b_v20 : (1 ≤ v20.toInt ∧ (iN_stops.toInt - 1) ≤ v20.toInt) ∧ (v20.toInt = 1 ∨ v20.toInt = (iN_stops.toInt - 1)) := by rw [hv20]; exact max_t (by decide : (1 : Int32).toInt = 1) (iI_t (Int.le_trans (by decide) (Int.sub_le_sub (b_iN_stops.1) (Int.le_refl _))) (Int.le_trans (Int.sub_le_sub (b_iN_stops.2) (Int.le_refl _)) (by decide)))
      clear hv20
      refine W.widen (k := 0) (n := 0) (by decide +kernel) (by decide +kernel) ?_
      exact W.iret (v := v20) hx hb hr (fun t9_ ht hW => ⟨⟨v20, (), rfl, ⟨(by first | exact b_v20 | with_reducible assumption | exact ⟨by omega, by omega⟩ | assumption), (by (try dsimp only); exact (fun ⟨c9, h1, h2, h3⟩ => absurd h3 (by rw [hNo c9 h1 (by omega)]; decide)))⟩, by rw [ht]; exact hP, hD⟩, hS.F ht⟩) hS.2.2 dX2_nextStop_59
    · have t_7 : ¬ l3_x2.toInt ≥ iN_stops.toInt := toI_nge c_7 rfl rfl
      refine lv_iload_n hx hb dX2_nextStop_10 rfl (lv_at hl 2 rfl) ?_
      refine lv_iload_n hx hb dX2_nextStop_11 rfl (lv_at hl 0 rfl) ?_
      refine lv_iconst (v := 1) hx hb dX2_nextStop_12 (by decide) ?_
      refine lv_isub hx hb dX2_nextStop_13 ?_
      refine lv_topi (fun y21 hy21 => ?_)
      obtain rfl : (iI (l3_x2.toInt - 1)) = y21 := (hy21.trans (iI_sub2 (iI_of _) (by decide : (1 : Int32) = iI 1))).symm
      refine lv_ishr hx hb dX2_nextStop_14 ?_
      refine lv_topi (fun v22 hv22 => ?_)
      have b_v22 : v22 = p1 >>> ((iI (l3_x2.toInt - 1)) &&& 31) := hv22
      clear hv22
      refine lv_iconst (v := 1) hx hb dX2_nextStop_15 (by decide) ?_
      refine lv_iand hx hb dX2_nextStop_16 ?_
      refine lv_topi (fun v23 hv23 => ?_)
      have b_v23 : (bt p1 (l3_x2.toInt - 1).toNat = true ∧ v23.toInt = 1) ∨ (bt p1 (l3_x2.toInt - 1).toNat = false ∧ v23.toInt = 0) := by rw [hv23]; exact sh_and1 b_v22 (iI_t (Int.le_trans (by decide) (Int.sub_le_sub (b_l3_x2.1) (Int.le_refl _))) (Int.le_trans (Int.sub_le_sub (b_l3_x2.2) (Int.le_refl _)) (by decide))) (by omega) (by omega)
      clear hv23
      refine lv_if_eq (tgt := 43) hx hb dX2_nextStop_17 (by decide) (fun c_17 => ?_) (fun c_17 => ?_)
      · have t_17 : v23.toInt = 0 := toI_eq c_17 rfl (by decide : (0 : Int32).toInt = 0)
        refine lv_iinc (v := (iI (l3_x2.toInt + 1))) hx hb dX2_nextStop_43 hl (k := 0) rfl (iI_add2 (iI_of _) (by decide : (1 : Int32) = iI 1)) (by decide) rfl (fun ls (hl : lv_has ls _ ([(3, .int (iI (l3_x2.toInt + 1))), (0, .ref (hN 0)), (1, .int p1), (2, .int p2)])) => ?_)
        refine lv_goto (tgt := 2) hx hb dX2_nextStop_46 (by decide) ?_
        have hl : lv_has _ _ ([(3, .int (iI (l3_x2.toInt + 1))), (0, .ref (hN 0)), (1, .int p1), (2, .int p2)]) := lv_sub hl [0, 1, 2, 3] rfl
        exact ihx2 (iI (l3_x2.toInt + 1)) _ _ _ (iI_rng (Int.le_trans (by decide) (Int.add_le_add (b_l3_x2.1) (Int.le_refl _))) (by omega) (by decide) (by decide)) (show ∀ c : Nat, 1 ≤ c → (c : Int) < (iI (l3_x2.toInt + 1)).toInt → tuQ (tuTab fN_price) (tuTab fN_rest) p1.toInt.toNat p2.toInt.toNat c = false from tuSeen.step hNo (by omega) (by first | exact tuQ_no1 (by rw [show l3_x2.toInt.toNat - 1 = (l3_x2.toInt - 1).toNat from by omega, ← bt_tb (by omega) (by omega)]; exact bt_no b_v23 t_17) | exact tuQ_no2 (by rw [← f15_0, show tuTab fN_rest p1.toInt.toNat p2.toInt.toNat = v18.toInt from (by rw [b1_v18]; show (fN_rest (8 * p1.toInt.toNat + p2.toInt.toNat)).toInt = (fN_rest (iI (p1.toInt * 8 + p2.toInt)).toInt.toNat).toInt; rw [iI_t (by omega) (by omega), show 8 * p1.toInt.toNat + p2.toInt.toNat = (p1.toInt * 8 + p2.toInt).toNat from by omega])]; exact t_38)) (iI_t (by omega) (by omega))) (by have e9 : ((iI (l3_x2.toInt + 1))).toInt = (l3_x2.toInt + 1) := (iI_t (Int.le_trans (by decide) (Int.add_le_add (b_l3_x2.1) (Int.le_refl _))) (Int.le_trans (Int.add_le_add (b_l3_x2.2) (Int.le_refl _)) (by decide))); omega) hP hD hS hl
      · have t_17 : ¬ v23.toInt = 0 := toI_neq c_17 rfl (by decide : (0 : Int32).toInt = 0)
        refine lv_aload_n hx hb dX2_nextStop_20 rfl (lv_at hl 1 rfl) ?_
        refine lv_iload_n hx hb dX2_nextStop_21 rfl (lv_at hl 2 rfl) ?_
        refine lv_iload_n hx hb dX2_nextStop_22 rfl (lv_at hl 3 rfl) ?_
        refine lv_iload_n hx hb dX2_nextStop_23 rfl (lv_at hl 0 rfl) ?_
        have hFc := allFree hD hS hA
        refine va_calli (va_runV (As := [.int p1, .int p2, .int l3_x2]) (rest := []) ⟨hx, hb, hml, hown, hts⟩ (m_X2_costOver l dC dI hN aN kN iN_arcs fN_from fN_to fN_room fN_cost iN_reached fN_free fN_before fN_flow fN_length fN_stop iN_stops fN_price fN_rest p1 p2 l3_x2 (b_iN_arcs) b_fN_from b_fN_to b_fN_before b_fN_stop (b_iN_stops) (b_p1) (b_p2) (by first | exact b_l3_x2 | with_reducible assumption | exact ⟨by omega, by omega⟩ | assumption) ((by rw [show l3_x2.toInt.toNat - 1 = (l3_x2.toInt - 1).toNat from by omega, ← bt_tb (by omega) (by omega)]; exact bt_yes b_v23 t_17)) (hPb _ _ (by omega) (by omega)) (hRb _ _ (tuOff_lt (tuBitNz (j := l3_x2.toInt.toNat - 1) (by rw [show l3_x2.toInt.toNat - 1 = (l3_x2.toInt - 1).toNat from by omega, ← bt_tb (by omega) (by omega)]; exact bt_yes b_v23 t_17))) (by omega)) H.size) (cwV 3 hts gwsMX2_nextStop_0 rfl rfl rfl hd_yX2_costOver_RX2 (by decide +kernel)) (fz_pre (va_recv hK hP (ci := 2) (q0 := 0) rfl rfl) hP hK hD) rfl rfl hl.1 rfl (lv_room (Nat.le_of_ble_eq_true rfl)) dX2_nextStop_24 (by decide +kernel)) hS (fun q _ h => hFc q h) hFc (fun r24 u t9_ H locs ht hvm hw9 hB9 hz1 hk1 hS => ?_)
        have f24_0 := hw9
        try dsimp only at f24_0
        have hP : va_P (dC, dI) vwCl (WN hN aN kN iN_arcs fN_from fN_to fN_room fN_cost iN_reached fN_free fN_before fN_flow fN_length fN_stop iN_stops fN_price fN_rest) H := fz_P ht hB9.1
        have hD := fz_sd hP (hB9.2.weaken (fun _ q _ h => hFc q.1 h)) rfl
        refine lv_aload_n hx hb dX2_nextStop_27 rfl (lv_at hl 1 rfl) ?_
        refine va_get (D := (dC, dI)) (ci := 2) (v := .ref (aN 10)) (C := RX2) (T := TX2) (N := 14) hx hb hts iwsMX2_nextStop_in2 hown hK hP 0 rfl rfl 13 (by decide) (hts (.fieldLink RX2 42 "OptimaWorks$NetDesk" "rest" "[I") (by decide +kernel)) (fun _ h9 => h9) rfl dX2_nextStop_28 ?_
        refine lv_iload_n hx hb dX2_nextStop_31 rfl (lv_at hl 2 rfl) ?_
        refine lv_bipush (v := 8) hx hb dX2_nextStop_32 (by decide) ?_
        refine lv_imul hx hb dX2_nextStop_34 ?_
        refine lv_topi (fun y25 hy25 => ?_)
        obtain rfl : (iI (p1.toInt * 8)) = y25 := (hy25.trans (iI_mul2 (iI_of _) (by decide : (8 : Int32) = iI 8))).symm
        refine lv_iload_n hx hb dX2_nextStop_35 rfl (lv_at hl 3 rfl) ?_
        refine lv_iadd hx hb dX2_nextStop_36 ?_
        refine lv_topi (fun y26 hy26 => ?_)
        obtain rfl : (iI ((p1.toInt * 8) + p2.toInt)) = y26 := (hy26.trans (iI_add2 rfl (iI_of _))).symm
        refine va_iald (cA := kN 10) (n := 1024) (f := fN_rest) hx hb hK hP 11 10 rfl rfl (vp_iI (Int.le_trans (by decide) (Int.add_le_add (Int.mul_le_mul_of_nonneg_right (b_p1.1) (by decide)) (b_p2.1))) (Int.lt_of_le_of_lt (Int.add_le_add (Int.mul_le_mul_of_nonneg_right (b_p1.2) (by decide)) (b_p2.2)) (by decide)) (by decide)) dX2_nextStop_37 ?_
        refine lv_topi (fun v27 hv27 => ?_)
        have b_v27 : v27.toInt ≤ v27.toInt := by rw [hv27]; exact Int.le_refl _
        have b1_v27 : v27 = fN_rest ((iI ((p1.toInt * 8) + p2.toInt))).toNatClampNeg := hv27
        clear hv27
        refine lv_icmp_ne (tgt := 43) hx hb dX2_nextStop_38 (by decide) (fun c_38 => ?_) (fun c_38 => ?_)
        · have t_38 : r24.toInt ≠ v27.toInt := toI_ne c_38 rfl rfl
          refine lv_iinc (v := (iI (l3_x2.toInt + 1))) hx hb dX2_nextStop_43 hl (k := 0) rfl (iI_add2 (iI_of _) (by decide : (1 : Int32) = iI 1)) (by decide) rfl (fun ls (hl : lv_has ls _ ([(3, .int (iI (l3_x2.toInt + 1))), (0, .ref (hN 0)), (1, .int p1), (2, .int p2)])) => ?_)
          refine lv_goto (tgt := 2) hx hb dX2_nextStop_46 (by decide) ?_
          have hl : lv_has _ _ ([(3, .int (iI (l3_x2.toInt + 1))), (0, .ref (hN 0)), (1, .int p1), (2, .int p2)]) := lv_sub hl [0, 1, 2, 3] rfl
          exact ihx2 (iI (l3_x2.toInt + 1)) _ _ _ (iI_rng (Int.le_trans (by decide) (Int.add_le_add (b_l3_x2.1) (Int.le_refl _))) (by omega) (by decide) (by decide)) (show ∀ c : Nat, 1 ≤ c → (c : Int) < (iI (l3_x2.toInt + 1)).toInt → tuQ (tuTab fN_price) (tuTab fN_rest) p1.toInt.toNat p2.toInt.toNat c = false from tuSeen.step hNo (by omega) (by first | exact tuQ_no1 (by rw [show l3_x2.toInt.toNat - 1 = (l3_x2.toInt - 1).toNat from by omega, ← bt_tb (by omega) (by omega)]; exact bt_no b_v23 t_17) | exact tuQ_no2 (by rw [← f24_0, show tuTab fN_rest p1.toInt.toNat p2.toInt.toNat = v27.toInt from (by rw [b1_v27]; show (fN_rest (8 * p1.toInt.toNat + p2.toInt.toNat)).toInt = (fN_rest (iI (p1.toInt * 8 + p2.toInt)).toInt.toNat).toInt; rw [iI_t (by omega) (by omega), show 8 * p1.toInt.toNat + p2.toInt.toNat = (p1.toInt * 8 + p2.toInt).toNat from by omega])]; exact t_38)) (iI_t (by omega) (by omega))) (by have e9 : ((iI (l3_x2.toInt + 1))).toInt = (l3_x2.toInt + 1) := (iI_t (Int.le_trans (by decide) (Int.add_le_add (b_l3_x2.1) (Int.le_refl _))) (Int.le_trans (Int.add_le_add (b_l3_x2.2) (Int.le_refl _)) (by decide))); omega) hP hD hS hl
        · have t_38 : r24.toInt = v27.toInt := toI_nne c_38 rfl rfl
          refine lv_iload_n hx hb dX2_nextStop_41 rfl (lv_at hl 0 rfl) ?_
          refine W.widen (k := 0) (n := 0) (by decide +kernel) (by decide +kernel) ?_
          exact W.iret (v := l3_x2) hx hb hr (fun t9_ ht hW => ⟨⟨l3_x2, (), rfl, ⟨(by first | exact b_l3_x2 | with_reducible assumption | exact ⟨by omega, by omega⟩ | assumption), (by (try dsimp only); exact (fun _ => ⟨by omega, by omega, tuQ_yes (by rw [show l3_x2.toInt.toNat - 1 = (l3_x2.toInt - 1).toNat from by omega, ← bt_tb (by omega) (by omega)]; exact bt_yes b_v23 t_17) (by rw [← f24_0, show tuTab fN_rest p1.toInt.toNat p2.toInt.toNat = v27.toInt from (by rw [b1_v27]; show (fN_rest (8 * p1.toInt.toNat + p2.toInt.toNat)).toInt = (fN_rest (iI (p1.toInt * 8 + p2.toInt)).toInt.toNat).toInt; rw [iI_t (by omega) (by omega), show 8 * p1.toInt.toNat + p2.toInt.toNat = (p1.toInt * 8 + p2.toInt).toNat from by omega])]; exact t_38), hNo⟩))⟩, by rw [ht]; exact hP, hD⟩, hS.F ht⟩) hS.2.2 dX2_nextStop_42
theorem dX2_round_0 : decode cX2_round 0 = .ok (.aload_n 0, 1) := dk_42 (by decide +kernel)
theorem dX2_round_1 : decode cX2_round 1 = .ok (.iload_n 1, 1) := dk_27 (by decide +kernel)
theorem dX2_round_2 : decode cX2_round 2 = .ok (.invokevirtual 92, 3) := dk_182 (by decide +kernel)
theorem dX2_round_5 : decode cX2_round 5 = .ok (.aload_n 0, 1) := dk_42 (by decide +kernel)
theorem dX2_round_6 : decode cX2_round 6 = .ok (.invokevirtual 95, 3) := dk_182 (by decide +kernel)
theorem dX2_round_9 : decode cX2_round 9 = .ok (.iconst 1, 1) := dk_4 (by decide +kernel)
theorem dX2_round_10 : decode cX2_round 10 = .ok (.aload_n 0, 1) := dk_42 (by decide +kernel)
theorem dX2_round_11 : decode cX2_round 11 = .ok (.getfield 98, 3) := dk_180 (by decide +kernel)
theorem dX2_round_14 : decode cX2_round 14 = .ok (.iconst 1, 1) := dk_4 (by decide +kernel)
theorem dX2_round_15 : decode cX2_round 15 = .ok (.isub, 1) := dk_100 (by decide +kernel)
theorem dX2_round_16 : decode cX2_round 16 = .ok (.ishl, 1) := dk_120 (by decide +kernel)
theorem dX2_round_17 : decode cX2_round 17 = .ok (.iconst 1, 1) := dk_4 (by decide +kernel)
theorem dX2_round_18 : decode cX2_round 18 = .ok (.isub, 1) := dk_100 (by decide +kernel)
theorem dX2_round_19 : decode cX2_round 19 = .ok (.istore_n 3, 1) := dk_62 (by decide +kernel)
theorem dX2_round_20 : decode cX2_round 20 = .ok (.iconst 0, 1) := dk_3 (by decide +kernel)
theorem dX2_round_21 : decode cX2_round 21 = .ok (.istore 4, 2) := dk_54 (by decide +kernel)
theorem dX2_round_23 : decode cX2_round 23 = .ok (.iload 4, 2) := dk_21 (by decide +kernel)
theorem dX2_round_25 : decode cX2_round 25 = .ok (.iload_n 3, 1) := dk_29 (by decide +kernel)
theorem dX2_round_26 : decode cX2_round 26 = .ok (.if_icmp .gt 48, 3) := dk_163 (by decide +kernel)
theorem dX2_round_29 : decode cX2_round 29 = .ok (.iconst 0, 1) := dk_3 (by decide +kernel)
theorem dX2_round_30 : decode cX2_round 30 = .ok (.istore 5, 2) := dk_54 (by decide +kernel)
theorem dX2_round_32 : decode cX2_round 32 = .ok (.iload 5, 2) := dk_21 (by decide +kernel)
theorem dX2_round_34 : decode cX2_round 34 = .ok (.aload_n 0, 1) := dk_42 (by decide +kernel)
theorem dX2_round_35 : decode cX2_round 35 = .ok (.getfield 98, 3) := dk_180 (by decide +kernel)
theorem dX2_round_38 : decode cX2_round 38 = .ok (.if_icmp .ge 30, 3) := dk_162 (by decide +kernel)
theorem dX2_round_41 : decode cX2_round 41 = .ok (.aload_n 0, 1) := dk_42 (by decide +kernel)
theorem dX2_round_42 : decode cX2_round 42 = .ok (.getfield 42, 3) := dk_180 (by decide +kernel)
theorem dX2_round_45 : decode cX2_round 45 = .ok (.iload 4, 2) := dk_21 (by decide +kernel)
theorem dX2_round_47 : decode cX2_round 47 = .ok (.bipush 8, 2) := dk_16 (by decide +kernel)
theorem dX2_round_49 : decode cX2_round 49 = .ok (.imul, 1) := dk_104 (by decide +kernel)
theorem dX2_round_50 : decode cX2_round 50 = .ok (.iload 5, 2) := dk_21 (by decide +kernel)
theorem dX2_round_52 : decode cX2_round 52 = .ok (.iadd, 1) := dk_96 (by decide +kernel)
theorem dX2_round_53 : decode cX2_round 53 = .ok (.aload_n 0, 1) := dk_42 (by decide +kernel)
theorem dX2_round_54 : decode cX2_round 54 = .ok (.iload 4, 2) := dk_21 (by decide +kernel)
theorem dX2_round_56 : decode cX2_round 56 = .ok (.iload 5, 2) := dk_21 (by decide +kernel)
theorem dX2_round_58 : decode cX2_round 58 = .ok (.invokevirtual 101, 3) := dk_182 (by decide +kernel)
theorem dX2_round_61 : decode cX2_round 61 = .ok (.iastore, 1) := dk_79 (by decide +kernel)
theorem dX2_round_62 : decode cX2_round 62 = .ok (.iinc 5 1, 3) := dk_132 (by decide +kernel)
theorem dX2_round_65 : decode cX2_round 65 = .ok (.goto (-33), 3) := dk_167 (by decide +kernel)
theorem dX2_round_68 : decode cX2_round 68 = .ok (.iinc 4 1, 3) := dk_132 (by decide +kernel)
theorem dX2_round_71 : decode cX2_round 71 = .ok (.goto (-48), 3) := dk_167 (by decide +kernel)
theorem dX2_round_74 : decode cX2_round 74 = .ok (.aload_n 0, 1) := dk_42 (by decide +kernel)
theorem dX2_round_75 : decode cX2_round 75 = .ok (.getfield 42, 3) := dk_180 (by decide +kernel)
theorem dX2_round_78 : decode cX2_round 78 = .ok (.iload_n 3, 1) := dk_29 (by decide +kernel)
theorem dX2_round_79 : decode cX2_round 79 = .ok (.bipush 8, 2) := dk_16 (by decide +kernel)
theorem dX2_round_81 : decode cX2_round 81 = .ok (.imul, 1) := dk_104 (by decide +kernel)
theorem dX2_round_82 : decode cX2_round 82 = .ok (.iaload, 1) := dk_46 (by decide +kernel)
theorem dX2_round_83 : decode cX2_round 83 = .ok (.istore 4, 2) := dk_54 (by decide +kernel)
theorem dX2_round_85 : decode cX2_round 85 = .ok (.iload 4, 2) := dk_21 (by decide +kernel)
theorem dX2_round_87 : decode cX2_round 87 = .ok (.ldc 60, 2) := dk_18 (by decide +kernel)
theorem dX2_round_89 : decode cX2_round 89 = .ok (.if_icmp .ge 9, 3) := dk_162 (by decide +kernel)
theorem dX2_round_92 : decode cX2_round 92 = .ok (.iload_n 2, 1) := dk_28 (by decide +kernel)
theorem dX2_round_93 : decode cX2_round 93 = .ok (.bipush (-2), 2) := dk_16 (by decide +kernel)
theorem dX2_round_95 : decode cX2_round 95 = .ok (.if_icmp .ne 17, 3) := dk_160 (by decide +kernel)
theorem dX2_round_98 : decode cX2_round 98 = .ok (.iload 4, 2) := dk_21 (by decide +kernel)
theorem dX2_round_100 : decode cX2_round 100 = .ok (.ldc 60, 2) := dk_18 (by decide +kernel)
theorem dX2_round_102 : decode cX2_round 102 = .ok (.if_icmp .lt 7, 3) := dk_161 (by decide +kernel)
theorem dX2_round_105 : decode cX2_round 105 = .ok (.iconst (-1), 1) := dk_2 (by decide +kernel)
theorem dX2_round_106 : decode cX2_round 106 = .ok (.goto 5, 3) := dk_167 (by decide +kernel)
theorem dX2_round_109 : decode cX2_round 109 = .ok (.iload 4, 2) := dk_21 (by decide +kernel)
theorem dX2_round_111 : decode cX2_round 111 = .ok (.ireturn, 1) := dk_172 (by decide +kernel)
theorem dX2_round_112 : decode cX2_round 112 = .ok (.iload_n 2, 1) := dk_28 (by decide +kernel)
theorem dX2_round_113 : decode cX2_round 113 = .ok (.ifCond .lt 11, 3) := dk_155 (by decide +kernel)
theorem dX2_round_116 : decode cX2_round 116 = .ok (.iload_n 2, 1) := dk_28 (by decide +kernel)
theorem dX2_round_117 : decode cX2_round 117 = .ok (.aload_n 0, 1) := dk_42 (by decide +kernel)
theorem dX2_round_118 : decode cX2_round 118 = .ok (.getfield 98, 3) := dk_180 (by decide +kernel)
theorem dX2_round_121 : decode cX2_round 121 = .ok (.if_icmp .lt 5, 3) := dk_161 (by decide +kernel)
theorem dX2_round_124 : decode cX2_round 124 = .ok (.iconst (-1), 1) := dk_2 (by decide +kernel)
theorem dX2_round_125 : decode cX2_round 125 = .ok (.ireturn, 1) := dk_172 (by decide +kernel)
theorem dX2_round_126 : decode cX2_round 126 = .ok (.iload_n 3, 1) := dk_29 (by decide +kernel)
theorem dX2_round_127 : decode cX2_round 127 = .ok (.istore 5, 2) := dk_54 (by decide +kernel)
theorem dX2_round_129 : decode cX2_round 129 = .ok (.iconst 0, 1) := dk_3 (by decide +kernel)
theorem dX2_round_130 : decode cX2_round 130 = .ok (.istore 6, 2) := dk_54 (by decide +kernel)
theorem dX2_round_132 : decode cX2_round 132 = .ok (.iconst 0, 1) := dk_3 (by decide +kernel)
theorem dX2_round_133 : decode cX2_round 133 = .ok (.istore 7, 2) := dk_54 (by decide +kernel)
theorem dX2_round_135 : decode cX2_round 135 = .ok (.iload 7, 2) := dk_21 (by decide +kernel)
theorem dX2_round_137 : decode cX2_round 137 = .ok (.iload_n 2, 1) := dk_28 (by decide +kernel)
theorem dX2_round_138 : decode cX2_round 138 = .ok (.if_icmp .ge 32, 3) := dk_162 (by decide +kernel)
theorem dX2_round_141 : decode cX2_round 141 = .ok (.aload_n 0, 1) := dk_42 (by decide +kernel)
theorem dX2_round_142 : decode cX2_round 142 = .ok (.iload 5, 2) := dk_21 (by decide +kernel)
theorem dX2_round_144 : decode cX2_round 144 = .ok (.iload 6, 2) := dk_21 (by decide +kernel)
theorem dX2_round_146 : decode cX2_round 146 = .ok (.invokevirtual 104, 3) := dk_182 (by decide +kernel)
theorem dX2_round_149 : decode cX2_round 149 = .ok (.istore 6, 2) := dk_54 (by decide +kernel)
theorem dX2_round_151 : decode cX2_round 151 = .ok (.iload 5, 2) := dk_21 (by decide +kernel)
theorem dX2_round_153 : decode cX2_round 153 = .ok (.iconst 1, 1) := dk_4 (by decide +kernel)
theorem dX2_round_154 : decode cX2_round 154 = .ok (.iload 6, 2) := dk_21 (by decide +kernel)
theorem dX2_round_156 : decode cX2_round 156 = .ok (.iconst 1, 1) := dk_4 (by decide +kernel)
theorem dX2_round_157 : decode cX2_round 157 = .ok (.isub, 1) := dk_100 (by decide +kernel)
theorem dX2_round_158 : decode cX2_round 158 = .ok (.ishl, 1) := dk_120 (by decide +kernel)
theorem dX2_round_159 : decode cX2_round 159 = .ok (.iconst (-1), 1) := dk_2 (by decide +kernel)
theorem dX2_round_160 : decode cX2_round 160 = .ok (.ixor, 1) := dk_130 (by decide +kernel)
theorem dX2_round_161 : decode cX2_round 161 = .ok (.iand, 1) := dk_126 (by decide +kernel)
theorem dX2_round_162 : decode cX2_round 162 = .ok (.istore 5, 2) := dk_54 (by decide +kernel)
theorem dX2_round_164 : decode cX2_round 164 = .ok (.iinc 7 1, 3) := dk_132 (by decide +kernel)
theorem dX2_round_167 : decode cX2_round 167 = .ok (.goto (-32), 3) := dk_167 (by decide +kernel)
theorem dX2_round_170 : decode cX2_round 170 = .ok (.aload_n 0, 1) := dk_42 (by decide +kernel)
theorem dX2_round_171 : decode cX2_round 171 = .ok (.getfield 36, 3) := dk_180 (by decide +kernel)
theorem dX2_round_174 : decode cX2_round 174 = .ok (.iload 6, 2) := dk_21 (by decide +kernel)
theorem dX2_round_176 : decode cX2_round 176 = .ok (.iaload, 1) := dk_46 (by decide +kernel)
theorem dX2_round_177 : decode cX2_round 177 = .ok (.ireturn, 1) := dk_172 (by decide +kernel)
def wsMX2_round : List Cond := .code yX2_round cX2_round 8 (some .int) :: ([.fieldLink RX2 98 "OptimaWorks$NetDesk" "stops" "I", .fieldLink RX2 42 "OptimaWorks$NetDesk" "rest" "[I", .constant RX2 60 536870912, .fieldLink RX2 36 "OptimaWorks$NetDesk" "stop" "[I"] ++ wsX20 ++ (wsV RX2 92 RX2 yX2_takeStops wsMX2_takeStops) ++ (wsV RX2 95 RX2 yX2_takePrices wsMX2_takePrices) ++ (wsV RX2 101 RX2 yX2_restFrom wsMX2_restFrom) ++ (wsV RX2 104 RX2 yX2_nextStop wsMX2_nextStop))
theorem iwsMX2_round_in2 : ∀ w ∈ wsX20, w ∈ wsMX2_round := fun _ h => List.mem_cons_of_mem _ (List.mem_append_left _ (List.mem_append_left _ (List.mem_append_left _ (List.mem_append_left _ (List.mem_append_right _ h)))))
theorem gwsMX2_round_0 : GoodIn wsMX2_round (wsV RX2 92 RX2 yX2_takeStops wsMX2_takeStops) := goodIn_sub (fun _ h => List.mem_cons_of_mem _ (List.mem_append_left _ (List.mem_append_left _ (List.mem_append_left _ (List.mem_append_right _ h))))) (gdV (by decide +kernel) gdwsMX2_takeStops)
theorem gwsMX2_round_1 : GoodIn wsMX2_round (wsV RX2 95 RX2 yX2_takePrices wsMX2_takePrices) := goodIn_sub (fun _ h => List.mem_cons_of_mem _ (List.mem_append_left _ (List.mem_append_left _ (List.mem_append_right _ h)))) (gdV (by decide +kernel) gdwsMX2_takePrices)
theorem gwsMX2_round_2 : GoodIn wsMX2_round (wsV RX2 101 RX2 yX2_restFrom wsMX2_restFrom) := goodIn_sub (fun _ h => List.mem_cons_of_mem _ (List.mem_append_left _ (List.mem_append_right _ h))) (gdV (by decide +kernel) gdwsMX2_restFrom)
theorem gwsMX2_round_3 : GoodIn wsMX2_round (wsV RX2 104 RX2 yX2_nextStop wsMX2_nextStop) := goodIn_sub (fun _ h => List.mem_cons_of_mem _ (List.mem_append_right _ h)) (gdV (by decide +kernel) gdwsMX2_nextStop)
theorem gdwsMX2_round : wsMX2_round.all goodWord = true := gdC rfl (gdA (gdA (gdA (gdA (gdA (by decide +kernel : ([.fieldLink RX2 98 "OptimaWorks$NetDesk" "stops" "I", .fieldLink RX2 42 "OptimaWorks$NetDesk" "rest" "[I", .constant RX2 60 536870912, .fieldLink RX2 36 "OptimaWorks$NetDesk" "stop" "[I"] : List Cond).all goodWord = true) gdwsX20) (gdV (by decide +kernel) gdwsMX2_takeStops)) (gdV (by decide +kernel) gdwsMX2_takePrices)) (gdV (by decide +kernel) gdwsMX2_restFrom)) (gdV (by decide +kernel) gdwsMX2_nextStop))
theorem hm_m_X2_round_0 : (.fieldLink RX2 98 "OptimaWorks$NetDesk" "stops" "I" : Cond) ∈ wsMX2_round := by decide +kernel
theorem hm_m_X2_round_1 : (.fieldLink RX2 42 "OptimaWorks$NetDesk" "rest" "[I" : Cond) ∈ wsMX2_round := by decide +kernel
theorem hm_m_X2_round_2 : (.constant RX2 60 536870912 : Cond) ∈ wsMX2_round := by decide +kernel
set_option maxHeartbeats 4000000 in
set_option maxRecDepth 100000 in
/-- a tour -/
theorem m_X2_round (l : Launch) (dC : Nat → ClassId) (dI : Nat → Nat → Nat) (hN : Nat → Nat) (aN : Nat → Nat) (kN : Nat → ClassId) (iN_arcs : Int32) (fN_from : Nat → Int32) (fN_to : Nat → Int32) (fN_room : Nat → Int32) (fN_cost : Nat → Int32) (iN_reached : Int32) (fN_free : Nat → Int32) (fN_before : Nat → Int32) (fN_flow : Nat → Int32) (fN_length : Nat → Int32) (fN_stop : Nat → Int32) (iN_stops : Int32) (fN_price : Nat → Int32) (fN_rest : Nat → Int32) (p1 : Int32) (p2 : Int32) (b_iN_arcs : 0 ≤ iN_arcs.toInt ∧ iN_arcs.toInt ≤ 40) (b_fN_from : ∀ q : Nat, 0 ≤ (fN_from q).toInt ∧ (fN_from q).toInt ≤ 11) (b_fN_to : ∀ q : Nat, 0 ≤ (fN_to q).toInt ∧ (fN_to q).toInt ≤ 11) (b_fN_before : ∀ q : Nat, 0 ≤ (fN_before q).toInt ∧ (fN_before q).toInt ≤ 79) (b_fN_stop : ∀ q : Nat, 0 ≤ (fN_stop q).toInt ∧ (fN_stop q).toInt ≤ 11) (b_iN_stops : 0 ≤ iN_stops.toInt ∧ iN_stops.toInt ≤ 8) (b_p1 : 1 ≤ p1.toInt ∧ p1.toInt ≤ 4095) (hVal : tVal (iN_arcs.toInt, fN_from, fN_to, fN_room, fN_cost)) (h28 : 2 ≤ (cntB (bI p1) 12) ∧ (cntB (bI p1) 12) ≤ 8) (sz : Nat) : Met l yX2_round wsMX2_round ({ frames := 3, cells := 0, slots := 0, locals := 60 }) (va_Pc [.ref (hN 0), .int p1, .int p2] (fun U => U.heap.size = sz ∧ va_P (dC, dI) vwCl (WN hN aN kN iN_arcs fN_from fN_to fN_room fN_cost iN_reached fN_free fN_before fN_flow fN_length fN_stop iN_stops fN_price fN_rest) U.heap ∧ va_K (dC, dI) vwCl (tN kN) U ∧ va_D (fun _ => True) (WN hN aN kN iN_arcs fN_from fN_to fN_room fN_cost iN_reached fN_free fN_before fN_flow fN_length fN_stop iN_stops fN_price fN_rest))) (va_Qi (fun (r : Int32) (u : (Nat → Int32) × (Int32) × (Nat → Int32) × (Nat → Int32)) => (∀ q : Nat, 0 ≤ ((u.1) q).toInt ∧ ((u.1) q).toInt ≤ 11) ∧ (0 ≤ (u.2.1).toInt ∧ (u.2.1).toInt ≤ 8) ∧ (tuA (iN_arcs.toInt, fN_from, fN_to, fN_room, fN_cost) (bI p1) p2.toInt r.toInt)) (fun (u : (Nat → Int32) × (Int32) × (Nat → Int32) × (Nat → Int32)) t => va_P (dC, dI) vwCl (WN hN aN kN iN_arcs fN_from fN_to fN_room fN_cost iN_reached fN_free fN_before fN_flow fN_length (u.1) (u.2.1) (u.2.2.1) (u.2.2.2)) t.heap ∧ va_D (va_A (WN hN aN kN iN_arcs fN_from fN_to fN_room fN_cost iN_reached fN_free fN_before fN_flow fN_length fN_stop iN_stops fN_price fN_rest) sz) (WN hN aN kN iN_arcs fN_from fN_to fN_room fN_cost iN_reached fN_free fN_before fN_flow fN_length (u.1) (u.2.1) (u.2.2.1) (u.2.2.2))) (va_A (WN hN aN kN iN_arcs fN_from fN_to fN_room fN_cost iN_reached fN_free fN_before fN_flow fN_length fN_stop iN_stops fN_price fN_rest) sz)) 0 0 (va_A (WN hN aN kN iN_arcs fN_from fN_to fN_room fN_cost iN_reached fN_free fN_before fN_flow fN_length fN_stop iN_stops fN_price fN_rest) sz) := by
  refine Met.ofW (cc := cX2_round) (maxL := 8) (ret := (some .int)) (by decide) rfl ?_
  intro p e s m args below meth c s₁ B hml hv
  obtain ⟨rfl, hsz, hP, hK, hD0⟩ := hv
  have hx := B.exec
  have hb := B.bytes
  have hr := B.returns
  have hts := atoms_spec (ws := wsMX2_round) B.pre
  have hown : s.vm.findClass RX2 = some m.cls := findClass_of_methodNamed B.named
  have hlocks := B.notSynchronized
  subst hsz
  have hD := hD0.self (sz := s.heap.size)
  generalize hAe : va_A (WN hN aN kN iN_arcs fN_from fN_to fN_room fN_cost iN_reached fN_free fN_before fN_flow fN_length fN_stop iN_stops fN_price fN_rest) s.heap.size = A at hD ⊢
  have hA : ∀ q : Nat, s.heap.size ≤ q → A q := fun q h => by rw [← hAe]; exact Or.inr h
  have hS : va_S A s.heap s.heap [] := va_S.rf
  have hl := lv_entry ([.ref (hN 0), .int p1, .int p2]) (n := 8) (Nat.le_of_ble_eq_true rfl)
  rw [lg_entry_eq]
  generalize (lg_sl ([.ref (hN 0), .int p1, .int p2]) ++ List.replicate (8 - (lg_sl ([.ref (hN 0), .int p1, .int p2])).length) Slot.unset).toArray = ls at hl ⊢
  have hl : lv_has ls 8 [(0, .ref (hN 0)), (1, .int p1), (2, .int p2)] := hl
  refine lv_aload_n hx hb dX2_round_0 rfl (lv_at hl 0 rfl) ?_
  refine lv_iload_n hx hb dX2_round_1 rfl (lv_at hl 1 rfl) ?_
  have hFc := allFree hD hS hA
  refine va_callv (va_runV (As := [.int p1]) (rest := []) ⟨hx, hb, hml, hown, hts⟩ (m_X2_takeStops l dC dI hN aN kN iN_arcs fN_from fN_to fN_room fN_cost iN_reached fN_free fN_before fN_flow fN_length fN_stop iN_stops fN_price fN_rest p1 (b_iN_arcs) b_fN_from b_fN_to b_fN_before b_fN_stop (b_iN_stops) (b_p1) (h28.2) s.heap.size) (cwV 1 hts gwsMX2_round_0 rfl rfl rfl hd_yX2_takeStops_RX2 (by decide +kernel)) (fz_pre (va_recv hK hP (ci := 2) (q0 := 0) rfl rfl) hP hK hD) rfl rfl hl.1 rfl (lv_room (Nat.le_of_ble_eq_true rfl)) dX2_round_2 (by decide +kernel)) hS (fun q _ h => hFc q h) hFc (fun u t9_ H locs ht hvm hw9 hB9 hz1 hk1 hS => ?_)
  revert u hw9 hB9
  refine fz_p2 ?_
  intro fN_stop_1 iN_stops_1 hw9 hB9
  try dsimp only at hw9 hB9
  revert hw9
  refine fz_a4 ?_
  intro b_fN_stop_1 b_iN_stops_1 f1_0 f1_1
  have hP : va_P (dC, dI) vwCl (WN hN aN kN iN_arcs fN_from fN_to fN_room fN_cost iN_reached fN_free fN_before fN_flow fN_length fN_stop_1 iN_stops_1 fN_price fN_rest) H := fz_P ht hB9.1
  have hD := fz_sd hP (hB9.2.weaken (fun _ q _ h => hFc q.1 h)) rfl
  have hSt1 := f1_0
  have hSt2 := f1_1
  have hSs := hSt2.1
  refine lv_aload_n hx hb dX2_round_5 rfl (lv_at hl 0 rfl) ?_
  have hFc := allFree hD hS hA
  refine va_callv (va_runV (As := []) (rest := []) ⟨hx, hb, hml, hown, hts⟩ (m_X2_takePrices l dC dI hN aN kN iN_arcs fN_from fN_to fN_room fN_cost iN_reached fN_free fN_before fN_flow fN_length fN_stop_1 iN_stops_1 fN_price fN_rest (b_iN_arcs) b_fN_from b_fN_to b_fN_before b_fN_stop_1 (b_iN_stops_1) H.size) (cwV 0 hts gwsMX2_round_1 rfl rfl rfl hd_yX2_takePrices_RX2 (by decide +kernel)) (fz_pre (va_recv hK hP (ci := 2) (q0 := 0) rfl rfl) hP hK hD) rfl rfl hl.1 rfl (lv_room (Nat.le_of_ble_eq_true rfl)) dX2_round_6 (by decide +kernel)) hS (fun q _ h => hFc q h) hFc (fun fN_price_2 t9_ H locs ht hvm hw9 hB9 hz1 hk1 hS => ?_)
  have f2_0 := hw9
  try dsimp only at f2_0
  have hP : va_P (dC, dI) vwCl (WN hN aN kN iN_arcs fN_from fN_to fN_room fN_cost iN_reached fN_free fN_before fN_flow fN_length fN_stop_1 iN_stops_1 fN_price_2 fN_rest) H := fz_P ht hB9.1
  have hD := fz_sd hP (hB9.2.weaken (fun _ q _ h => hFc q.1 h)) rfl
  have hPr0 := f2_0
  have eN : iN_stops_1.toInt.toNat = (cntB (bI p1) 12) := by omega
  have hPr : ∀ x y, x < (cntB (bI p1) 12) → y < (cntB (bI p1) 12) → tuTab fN_price_2 x y = (fun x y => tuL (iN_arcs.toInt, fN_from, fN_to, fN_room, fN_cost) (tuK (bI p1) x) (tuK (bI p1) y) (iN_arcs.toInt, fN_from, fN_to, fN_room, fN_cost).1.toNat) x y := fun x y hx hy => (hPr0 x y (by omega) (by omega)).trans (by rw [hSt2.2 x hx, hSt2.2 y hy]; rfl)
  have hPP : tuP (fun x y => tuL (iN_arcs.toInt, fN_from, fN_to, fN_room, fN_cost) (tuK (bI p1) x) (tuK (bI p1) y) (iN_arcs.toInt, fN_from, fN_to, fN_room, fN_cost).1.toNat) := tuPd hVal (by (try dsimp only); omega) (bI p1)
  have hPb9 : ∀ x y, x < (cntB (bI p1) 12) → y < (cntB (bI p1) 12) → 0 ≤ tuTab fN_price_2 x y ∧ tuTab fN_price_2 x y ≤ 536870912 := fun x y hx hy => by rw [hPr x y hx hy]; (have h9 := hPP x y); unfold tuR at h9; omega
  refine lv_iconst (v := 1) hx hb dX2_round_9 (by decide) ?_
  refine lv_aload_n hx hb dX2_round_10 rfl (lv_at hl 0 rfl) ?_
  refine va_get (D := (dC, dI)) (ci := 2) (v := .int iN_stops_1) (C := RX2) (T := TX2) (N := 14) hx hb hts iwsMX2_round_in2 hown hK hP 0 rfl rfl 11 (by decide) (hts _ hm_m_X2_round_0) (fun _ h9 => h9) rfl dX2_round_11 ?_
  refine lv_iconst (v := 1) hx hb dX2_round_14 (by decide) ?_
  refine lv_isub hx hb dX2_round_15 ?_
  refine lv_topi (fun y3 hy3 => ?_)
  obtain rfl : (iI (iN_stops_1.toInt - 1)) = y3 := (hy3.trans (iI_sub2 (iI_of _) (by decide : (1 : Int32) = iI 1))).symm
  refine lv_ishl hx hb dX2_round_16 ?_
  refine lv_topi (fun v4 hv4 => ?_)
  have b_v4 : 1 ≤ v4.toInt ∧ v4.toInt ≤ 128 := by rw [hv4]; exact shl1_t (k := 7) (iI_t (Int.le_trans (by decide) (Int.sub_le_sub (b_iN_stops_1.1) (Int.le_refl _))) (Int.le_trans (Int.sub_le_sub (b_iN_stops_1.2) (Int.le_refl _)) (by decide))) (by omega) (by omega) (by decide)
  have b1_v4 : v4.toInt = ((2 ^ ((cntB (bI p1) 12) - 1) : Nat) : Int) := by rw [hv4]; exact tuShl (by rw [iI_t (by omega) (by omega)]; omega) (by omega)
  clear hv4
  refine lv_iconst (v := 1) hx hb dX2_round_17 (by decide) ?_
  refine lv_isub hx hb dX2_round_18 ?_
  refine lv_topi (fun y5 hy5 => ?_)
  obtain rfl : (iI (v4.toInt - 1)) = y5 := (hy5.trans (iI_sub2 (iI_of _) (by decide : (1 : Int32) = iI 1))).symm
  refine lv_istore_n hx hb dX2_round_19 rfl hl (by decide) rfl (fun ls (hl : lv_has ls _ ([(3, .int (iI (v4.toInt - 1))), (0, .ref (hN 0)), (1, .int p1), (2, .int p2)])) => ?_)
  refine lv_iconst (v := 0) hx hb dX2_round_20 (by decide) ?_
  refine lv_istore hx hb dX2_round_21 hl (by decide) rfl (fun ls (hl : lv_has ls _ ([(4, .int 0), (3, .int (iI (v4.toInt - 1))), (0, .ref (hN 0)), (1, .int p1), (2, .int p2)])) => ?_)
  have hl : lv_has _ _ ([(4, .int 0), (3, .int (iI (v4.toInt - 1))), (0, .ref (hN 0)), (1, .int p1), (2, .int p2)]) := lv_sub hl [0, 1, 2, 3, 4] rfl
  refine (fun (loop : ∀ (n9 : Nat) (fN_rest_x23 : Nat → Int32) (l4_x23 : Int32) (H : Heap) (locs : List Loc) (ls : Array Slot), (0 ≤ l4_x23.toInt ∧ l4_x23.toInt ≤ 128) → (tuTb (fun x y => tuL (iN_arcs.toInt, fN_from, fN_to, fN_room, fN_cost) (tuK (bI p1) x) (tuK (bI p1) y) (iN_arcs.toInt, fN_from, fN_to, fN_room, fN_cost).1.toNat) (cntB (bI p1) 12) fN_rest_x23 l4_x23.toInt.toNat 0) → (128 - l4_x23.toInt < ((n9 : Nat) : Int)) → va_P (dC, dI) vwCl (WN hN aN kN iN_arcs fN_from fN_to fN_room fN_cost iN_reached fN_free fN_before fN_flow fN_length fN_stop_1 iN_stops_1 fN_price_2 fN_rest_x23) H → va_D A (WN hN aN kN iN_arcs fN_from fN_to fN_room fN_cost iN_reached fN_free fN_before fN_flow fN_length fN_stop_1 iN_stops_1 fN_price_2 fN_rest_x23) → va_S A s.heap H locs → lv_has ls 8 [(4, .int l4_x23), (3, .int (iI (v4.toInt - 1))), (0, .ref (hN 0)), (1, .int p1), (2, .int p2)] → W p l e _ s m _ below meth c H locs 0 0 _ (F0 m 23 ls [])) => loop (129) fN_rest 0 _ _ _ (show 0 ≤ (0 : Int32).toInt ∧ (0 : Int32).toInt ≤ 128 from by decide) (show tuTb (fun x y => tuL (iN_arcs.toInt, fN_from, fN_to, fN_room, fN_cost) (tuK (bI p1) x) (tuK (bI p1) y) (iN_arcs.toInt, fN_from, fN_to, fN_room, fN_cost).1.toNat) (cntB (bI p1) 12) fN_rest (0 : Int32).toInt.toNat 0 from tuTb.start (by decide) rfl) ((by have e9 : (0 : Int32).toInt = 0 := (by decide : (0 : Int32).toInt = 0); omega)) hP hD hS hl) ?_
  intro n9
  induction n9 with
  | zero => intro fN_rest_x23 l4_x23 H locs ls b_l4_x23 hTa hf9; exact False.elim (by omega)
  | succ n9 ihx23 =>
    intro fN_rest_x23 l4_x23 H locs ls b_l4_x23 hTa hfx23 hP hD hS hl
    refine lv_iload hx hb dX2_round_23 (lv_at hl 0 rfl) ?_
    refine lv_iload_n hx hb dX2_round_25 rfl (lv_at hl 1 rfl) ?_
    refine lv_icmp_gt (tgt := 74) hx hb dX2_round_26 (by decide) (fun c_26 => ?_) (fun c_26 => ?_)
    · have t_26 : l4_x23.toInt > (v4.toInt - 1) := toI_gt c_26 rfl (iI_t (Int.le_trans (by decide) (Int.sub_le_sub (b_v4.1) (Int.le_refl _))) (Int.le_trans (Int.sub_le_sub (b_v4.2) (Int.le_refl _)) (by decide)))
      have hTT : tuT (fun x y => tuL (iN_arcs.toInt, fN_from, fN_to, fN_room, fN_cost) (tuK (bI p1) x) (tuK (bI p1) y) (iN_arcs.toInt, fN_from, fN_to, fN_room, fN_cost).1.toNat) (cntB (bI p1) 12) (tuTab fN_rest_x23) := tuTb.done hTa (by omega)
      refine lv_aload_n hx hb dX2_round_74 rfl (lv_at hl 2 rfl) ?_
      refine va_get (D := (dC, dI)) (ci := 2) (v := .ref (aN 10)) (C := RX2) (T := TX2) (N := 14) hx hb hts iwsMX2_round_in2 hown hK hP 0 rfl rfl 13 (by decide) (hts _ hm_m_X2_round_1) (fun _ h9 => h9) rfl dX2_round_75 ?_
      refine lv_iload_n hx hb dX2_round_78 rfl (lv_at hl 1 rfl) ?_
      refine lv_bipush (v := 8) hx hb dX2_round_79 (by decide) ?_
      refine lv_imul hx hb dX2_round_81 ?_
      refine lv_topi (fun y196 hy196 => ?_)
      obtain rfl : (iI ((v4.toInt - 1) * 8)) = y196 := (hy196.trans (iI_mul2 rfl (by decide : (8 : Int32) = iI 8))).symm
      refine va_iald (cA := kN 10) (n := 1024) (f := fN_rest_x23) hx hb hK hP 11 10 rfl rfl (vp_iI (Int.le_trans (by decide) (Int.mul_le_mul_of_nonneg_right (Int.sub_le_sub (b_v4.1) (Int.le_refl _)) (by decide))) (Int.lt_of_le_of_lt (Int.mul_le_mul_of_nonneg_right (Int.sub_le_sub (b_v4.2) (Int.le_refl _)) (by decide)) (by decide)) (by decide)) dX2_round_82 ?_
      refine lv_topi (fun v197 hv197 => ?_)
      have b_v197 : v197.toInt = tuTab fN_rest_x23 (2 ^ ((cntB (bI p1) 12) - 1) - 1) 0 := by rw [hv197]; exact (by show (fN_rest_x23 (iI ((v4.toInt - 1) * 8)).toInt.toNat).toInt = (fN_rest_x23 (8 * (2 ^ ((cntB (bI p1) 12) - 1) - 1) + 0)).toInt; rw [iI_t (by omega) (by omega)]; congr 2; omega)
      clear hv197
      refine lv_istore hx hb dX2_round_83 hl (by decide) rfl (fun ls (hl : lv_has ls _ ([(4, .int v197), (3, .int (iI (v4.toInt - 1))), (0, .ref (hN 0)), (1, .int p1), (2, .int p2)])) => ?_)
      refine lv_iload hx hb dX2_round_85 (lv_at hl 0 rfl) ?_
      refine lv_ldc (v := 536870912) hx hb hown (hts _ hm_m_X2_round_2) dX2_round_87 ?_
      refine lv_icmp_ge (tgt := 98) hx hb dX2_round_89 (by decide) (fun c_89 => ?_) (fun c_89 => ?_)
      · have t_89 : v197.toInt ≥ 536870912 := toI_ge c_89 rfl (by decide : (536870912 : Int32).toInt = 536870912)
        refine lv_iload hx hb dX2_round_98 (lv_at hl 0 rfl) ?_
        refine lv_ldc (v := 536870912) hx hb hown (hts _ hm_m_X2_round_2) dX2_round_100 ?_
        refine W.cut (pc := 111) (fun H locs ls stk => ∃ (k0_j11 : Int32), ((k0_j11.toInt = -1 ∧ ¬ v197.toInt < 536870912) ∨ (v197.toInt < 536870912 ∧ k0_j11.toInt = v197.toInt)) ∧  stk = [.int k0_j11] ∧ va_P (dC, dI) vwCl (WN hN aN kN iN_arcs fN_from fN_to fN_room fN_cost iN_reached fN_free fN_before fN_flow fN_length fN_stop_1 iN_stops_1 fN_price_2 fN_rest_x23) H ∧ va_D A (WN hN aN kN iN_arcs fN_from fN_to fN_room fN_cost iN_reached fN_free fN_before fN_flow fN_length fN_stop_1 iN_stops_1 fN_price_2 fN_rest_x23) ∧ va_S A s.heap H locs ∧ lv_has ls 8 [(4, .int v197), (3, .int (iI (v4.toInt - 1))), (0, .ref (hN 0)), (1, .int p1), (2, .int p2)]) (fun join11 => ?_) ?_
        · refine lv_icmp_lt (tgt := 109) hx hb dX2_round_102 (by decide) (fun c_102 => ?_) (fun c_102 => ?_)
          · have t_102 : v197.toInt < 536870912 := toI_lt c_102 rfl (by decide : (536870912 : Int32).toInt = 536870912)
            refine lv_iload hx hb dX2_round_109 (lv_at hl 0 rfl) ?_
            have hl : lv_has _ _ ([(4, .int v197), (3, .int (iI (v4.toInt - 1))), (0, .ref (hN 0)), (1, .int p1), (2, .int p2)]) := lv_sub hl [0, 1, 2, 3, 4] rfl
            exact join11 _ _ _ _ ⟨v197, (show (v197.toInt = -1 ∧ ¬ v197.toInt < 536870912) ∨ (v197.toInt < 536870912 ∧ v197.toInt = v197.toInt) from by first | exact Or.inl ⟨by decide, by omega⟩ | exact Or.inr ⟨by omega, rfl⟩), rfl, hP, hD, hS, hl⟩
          · have t_102 : ¬ v197.toInt < 536870912 := toI_nlt c_102 rfl (by decide : (536870912 : Int32).toInt = 536870912)
            refine lv_iconst (v := (-1)) hx hb dX2_round_105 (by decide) ?_
            refine lv_goto (tgt := 111) hx hb dX2_round_106 (by decide) ?_
            have hl : lv_has _ _ ([(4, .int v197), (3, .int (iI (v4.toInt - 1))), (0, .ref (hN 0)), (1, .int p1), (2, .int p2)]) := lv_sub hl [0, 1, 2, 3, 4] rfl
            exact join11 _ _ _ _ ⟨(-1), (show (((-1) : Int32).toInt = -1 ∧ ¬ v197.toInt < 536870912) ∨ (v197.toInt < 536870912 ∧ ((-1) : Int32).toInt = v197.toInt) from by first | exact Or.inl ⟨by decide, by omega⟩ | exact Or.inr ⟨by omega, rfl⟩), rfl, hP, hD, hS, hl⟩
        · rintro H locs ls stk ⟨k0_j11, hk9, rfl, hP, hD, hS, hl⟩
          refine W.widen (k := 0) (n := 0) (by decide +kernel) (by decide +kernel) ?_
          exact W.iret (v := k0_j11) hx hb hr (fun t9_ ht hW => ⟨⟨k0_j11, (fN_stop_1, iN_stops_1, fN_price_2, fN_rest_x23), rfl, ⟨b_fN_stop_1, b_iN_stops_1, (by (try dsimp only); exact (hk9.elim (fun h9 => tuA.none hVal (by (try dsimp only); omega) (by omega) (by omega) hTT (by (have h8 := h9.2); omega) h9.1) (fun h9 => tuA.cost hVal (by (try dsimp only); omega) (by omega) (by omega) hTT (by (have h8 := h9.1); omega) (by (have h8 := h9.1); omega) (h9.2.trans b_v197))))⟩, by rw [ht]; exact hP, hD⟩, hS.F ht⟩) hS.2.2 dX2_round_111
      · have t_89 : ¬ v197.toInt ≥ 536870912 := toI_nge c_89 rfl (by decide : (536870912 : Int32).toInt = 536870912)
        refine lv_iload_n hx hb dX2_round_92 rfl (lv_at hl 4 rfl) ?_
        refine lv_bipush (v := (-2)) hx hb dX2_round_93 (by decide) ?_
        refine lv_icmp_ne (tgt := 112) hx hb dX2_round_95 (by decide) (fun c_95 => ?_) (fun c_95 => ?_)
        · have t_95 : p2.toInt ≠ (-2) := toI_ne c_95 rfl (by decide : ((-2) : Int32).toInt = (-2))
          refine lv_iload_n hx hb dX2_round_112 rfl (lv_at hl 4 rfl) ?_
          refine lv_if_lt (tgt := 124) hx hb dX2_round_113 (by decide) (fun c_113 => ?_) (fun c_113 => ?_)
          · have t_113 : p2.toInt < 0 := toI_lt c_113 rfl (by decide : (0 : Int32).toInt = 0)
            refine lv_iconst (v := (-1)) hx hb dX2_round_124 (by decide) ?_
            refine W.widen (k := 0) (n := 0) (by decide +kernel) (by decide +kernel) ?_
            exact W.iret (v := (-1)) hx hb hr (fun t9_ ht hW => ⟨⟨((-1) : Int32), (fN_stop_1, iN_stops_1, fN_price_2, fN_rest_x23), rfl, ⟨b_fN_stop_1, b_iN_stops_1, (by (try dsimp only); exact (tuA.out hVal (by (try dsimp only); omega) (by omega) (by omega) hTT (by omega) (by omega) (by omega) (by decide)))⟩, by rw [ht]; exact hP, hD⟩, hS.F ht⟩) hS.2.2 dX2_round_125
          · have t_113 : ¬ p2.toInt < 0 := toI_nlt c_113 rfl (by decide : (0 : Int32).toInt = 0)
            refine lv_iload_n hx hb dX2_round_116 rfl (lv_at hl 4 rfl) ?_
            refine lv_aload_n hx hb dX2_round_117 rfl (lv_at hl 2 rfl) ?_
            refine va_get (D := (dC, dI)) (ci := 2) (v := .int iN_stops_1) (C := RX2) (T := TX2) (N := 14) hx hb hts iwsMX2_round_in2 hown hK hP 0 rfl rfl 11 (by decide) (hts _ hm_m_X2_round_0) (fun _ h9 => h9) rfl dX2_round_118 ?_
            refine lv_icmp_lt (tgt := 126) hx hb dX2_round_121 (by decide) (fun c_121 => ?_) (fun c_121 => ?_)
            · have t_121 : p2.toInt < iN_stops_1.toInt := toI_lt c_121 rfl rfl
              have hlt9 : tuTab fN_rest_x23 (2 ^ ((cntB (bI p1) 12) - 1) - 1) 0 < 536870912 := by omega
              have hOv := tuO_v hPP hTT (by omega) (by omega) hlt9
              refine lv_iload_n hx hb dX2_round_126 rfl (lv_at hl 1 rfl) ?_
              refine lv_istore hx hb dX2_round_127 hl (by decide) rfl (fun ls (hl : lv_has ls _ ([(5, .int (iI (v4.toInt - 1))), (4, .int v197), (3, .int (iI (v4.toInt - 1))), (0, .ref (hN 0)), (1, .int p1), (2, .int p2)])) => ?_)
              refine lv_iconst (v := 0) hx hb dX2_round_129 (by decide) ?_
              refine lv_istore hx hb dX2_round_130 hl (by decide) rfl (fun ls (hl : lv_has ls _ ([(6, .int 0), (5, .int (iI (v4.toInt - 1))), (4, .int v197), (3, .int (iI (v4.toInt - 1))), (0, .ref (hN 0)), (1, .int p1), (2, .int p2)])) => ?_)
              refine lv_iconst (v := 0) hx hb dX2_round_132 (by decide) ?_
              refine lv_istore hx hb dX2_round_133 hl (by decide) rfl (fun ls (hl : lv_has ls _ ([(7, .int 0), (6, .int 0), (5, .int (iI (v4.toInt - 1))), (4, .int v197), (3, .int (iI (v4.toInt - 1))), (0, .ref (hN 0)), (1, .int p1), (2, .int p2)])) => ?_)
              have hl : lv_has _ _ ([(7, .int 0), (6, .int 0), (5, .int (iI (v4.toInt - 1))), (4, .int v197), (3, .int (iI (v4.toInt - 1))), (0, .ref (hN 0)), (1, .int p1), (2, .int p2)]) := lv_sub hl [0, 1, 2, 3, 4, 5, 6, 7] rfl
              refine (fun (loop : ∀ (n9 : Nat) (l7_x135 : Int32) (l6_x135 : Int32) (l5_x135 : Int32) (H : Heap) (locs : List Loc) (ls : Array Slot), (0 ≤ l7_x135.toInt ∧ l7_x135.toInt ≤ 8) → (0 ≤ l6_x135.toInt ∧ l6_x135.toInt ≤ 7) → (0 ≤ l5_x135.toInt ∧ l5_x135.toInt ≤ 127) → (l5_x135.toInt.toNat = tuF (cntB (bI p1) 12) (tuO (fun x y => tuL (iN_arcs.toInt, fN_from, fN_to, fN_room, fN_cost) (tuK (bI p1) x) (tuK (bI p1) y) (iN_arcs.toInt, fN_from, fN_to, fN_room, fN_cost).1.toNat) (cntB (bI p1) 12) (tuTab fN_rest_x23)) l7_x135.toInt.toNat ∧ l6_x135.toInt.toNat = tuO (fun x y => tuL (iN_arcs.toInt, fN_from, fN_to, fN_room, fN_cost) (tuK (bI p1) x) (tuK (bI p1) y) (iN_arcs.toInt, fN_from, fN_to, fN_room, fN_cost).1.toNat) (cntB (bI p1) 12) (tuTab fN_rest_x23) l7_x135.toInt.toNat) → (l7_x135.toInt ≤ p2.toInt) → (8 - l7_x135.toInt < ((n9 : Nat) : Int)) → va_P (dC, dI) vwCl (WN hN aN kN iN_arcs fN_from fN_to fN_room fN_cost iN_reached fN_free fN_before fN_flow fN_length fN_stop_1 iN_stops_1 fN_price_2 fN_rest_x23) H → va_D A (WN hN aN kN iN_arcs fN_from fN_to fN_room fN_cost iN_reached fN_free fN_before fN_flow fN_length fN_stop_1 iN_stops_1 fN_price_2 fN_rest_x23) → va_S A s.heap H locs → lv_has ls 8 [(7, .int l7_x135), (6, .int l6_x135), (5, .int l5_x135), (4, .int v197), (3, .int (iI (v4.toInt - 1))), (0, .ref (hN 0)), (1, .int p1), (2, .int p2)] → W p l e _ s m _ below meth c H locs 0 0 _ (F0 m 135 ls [])) => loop (9) 0 0 (iI (v4.toInt - 1)) _ _ _ (show 0 ≤ (0 : Int32).toInt ∧ (0 : Int32).toInt ≤ 8 from by decide) (show 0 ≤ (0 : Int32).toInt ∧ (0 : Int32).toInt ≤ 7 from by decide) (iI_rng (Int.le_trans (by decide) (Int.sub_le_sub (b_v4.1) (Int.le_refl _))) (Int.le_trans (Int.sub_le_sub (b_v4.2) (Int.le_refl _)) (by decide)) (by decide) (by decide)) (show (iI (v4.toInt - 1)).toInt.toNat = tuF (cntB (bI p1) 12) (tuO (fun x y => tuL (iN_arcs.toInt, fN_from, fN_to, fN_room, fN_cost) (tuK (bI p1) x) (tuK (bI p1) y) (iN_arcs.toInt, fN_from, fN_to, fN_room, fN_cost).1.toNat) (cntB (bI p1) 12) (tuTab fN_rest_x23)) (0 : Int32).toInt.toNat ∧ (0 : Int32).toInt.toNat = tuO (fun x y => tuL (iN_arcs.toInt, fN_from, fN_to, fN_room, fN_cost) (tuK (bI p1) x) (tuK (bI p1) y) (iN_arcs.toInt, fN_from, fN_to, fN_room, fN_cost).1.toNat) (cntB (bI p1) 12) (tuTab fN_rest_x23) (0 : Int32).toInt.toNat from ⟨by (have h9 : tuF (cntB (bI p1) 12) (tuO (fun x y => tuL (iN_arcs.toInt, fN_from, fN_to, fN_room, fN_cost) (tuK (bI p1) x) (tuK (bI p1) y) (iN_arcs.toInt, fN_from, fN_to, fN_room, fN_cost).1.toNat) (cntB (bI p1) 12) (tuTab fN_rest_x23)) 0 = 2 ^ ((cntB (bI p1) 12) - 1) - 1 := rfl); rw [show (0 : Int32).toInt.toNat = 0 from by decide, h9, iI_t (by omega) (by omega)]; omega, rfl⟩) (show (0 : Int32).toInt ≤ p2.toInt from by have h7 : (0 : Int32).toInt = 0 := (by decide); omega) ((by have e9 : (0 : Int32).toInt = 0 := (by decide : (0 : Int32).toInt = 0); omega)) hP hD hS hl) ?_
              intro n9
              induction n9 with
              | zero => intro l7_x135 l6_x135 l5_x135 H locs ls b_l7_x135 b_l6_x135 b_l5_x135 hWy hwi hf9; exact False.elim (by omega)
              | succ n9 ihx135 =>
                intro l7_x135 l6_x135 l5_x135 H locs ls b_l7_x135 b_l6_x135 b_l5_x135 hWy hwi hfx135 hP hD hS hl
                refine lv_iload hx hb dX2_round_135 (lv_at hl 0 rfl) ?_
                refine lv_iload_n hx hb dX2_round_137 rfl (lv_at hl 7 rfl) ?_
                refine lv_icmp_ge (tgt := 170) hx hb dX2_round_138 (by decide) (fun c_138 => ?_) (fun c_138 => ?_)
                · have t_138 : l7_x135.toInt ≥ p2.toInt := toI_ge c_138 rfl rfl
                  have hl6 : l6_x135.toInt.toNat < (cntB (bI p1) 12) := by rw [hWy.2]; exact hOv.2.1 _ (by omega)
                  have hl5 : l5_x135.toInt.toNat < 2 ^ ((cntB (bI p1) 12) - 1) := by rw [hWy.1]; exact tuF_lt (by omega) _
                  refine lv_aload_n hx hb dX2_round_170 rfl (lv_at hl 5 rfl) ?_
                  refine va_get (D := (dC, dI)) (ci := 2) (v := .ref (aN 8)) (C := RX2) (T := TX2) (N := 14) hx hb hts iwsMX2_round_in2 hown hK hP 0 rfl rfl 10 (by decide) (hts (.fieldLink RX2 36 "OptimaWorks$NetDesk" "stop" "[I") (by decide +kernel)) (fun _ h9 => h9) rfl dX2_round_171 ?_
                  refine lv_iload hx hb dX2_round_174 (lv_at hl 1 rfl) ?_
                  refine va_iald (cA := kN 8) (n := 8) (f := fN_stop_1) hx hb hK hP 9 8 rfl rfl (vp_in_iff.mpr ⟨b_l6_x135.1, (Int.lt_of_le_of_lt (b_l6_x135.2) (by decide))⟩) dX2_round_176 ?_
                  refine lv_topi (fun v225 hv225 => ?_)
                  have b_v225 : 0 ≤ v225.toInt ∧ v225.toInt ≤ 11 := by rw [hv225]; exact b_fN_stop_1 _
                  have b1_v225 : v225 = fN_stop_1 (l6_x135).toNatClampNeg := hv225
                  clear hv225
                  refine W.widen (k := 0) (n := 0) (by decide +kernel) (by decide +kernel) ?_
                  exact W.iret (v := v225) hx hb hr (fun t9_ ht hW => ⟨⟨v225, (fN_stop_1, iN_stops_1, fN_price_2, fN_rest_x23), rfl, ⟨b_fN_stop_1, b_iN_stops_1, (by (try dsimp only); exact (tuA.stop hVal (by (try dsimp only); omega) (by omega) (by omega) hTT hlt9 (by omega) (by rw [show p2.toInt.toNat = l7_x135.toInt.toNat from by omega, ← hWy.2, ← hSt2.2 _ hl6]; exact (by rw [b1_v225]; rfl))))⟩, by rw [ht]; exact hP, hD⟩, hS.F ht⟩) hS.2.2 dX2_round_177
                · have t_138 : ¬ l7_x135.toInt ≥ p2.toInt := toI_nge c_138 rfl rfl
                  have hl6 : l6_x135.toInt.toNat < (cntB (bI p1) 12) := by rw [hWy.2]; exact hOv.2.1 _ (by omega)
                  have hl5 : l5_x135.toInt.toNat < 2 ^ ((cntB (bI p1) 12) - 1) := by rw [hWy.1]; exact tuF_lt (by omega) _
                  refine lv_aload_n hx hb dX2_round_141 rfl (lv_at hl 5 rfl) ?_
                  refine lv_iload hx hb dX2_round_142 (lv_at hl 2 rfl) ?_
                  refine lv_iload hx hb dX2_round_144 (lv_at hl 1 rfl) ?_
                  have hFc := allFree hD hS hA
                  refine va_calli (va_runV (As := [.int l5_x135, .int l6_x135]) (rest := []) ⟨hx, hb, hml, hown, hts⟩ (m_X2_nextStop l dC dI hN aN kN iN_arcs fN_from fN_to fN_room fN_cost iN_reached fN_free fN_before fN_flow fN_length fN_stop_1 iN_stops_1 fN_price_2 fN_rest_x23 l5_x135 l6_x135 (b_iN_arcs) b_fN_from b_fN_to b_fN_before b_fN_stop_1 (b_iN_stops_1) (b_l5_x135) (b_l6_x135) ((by omega)) ((by omega)) ((fun x y hx hy => hPb9 x y (by omega) (by omega))) ((fun y b hy hb => (hTa y b (by omega) (by omega)).2)) H.size) (cwV 2 hts gwsMX2_round_3 rfl rfl rfl hd_yX2_nextStop_RX2 (by decide +kernel)) (fz_pre (va_recv hK hP (ci := 2) (q0 := 0) rfl rfl) hP hK hD) rfl rfl hl.1 rfl (lv_room (Nat.le_of_ble_eq_true rfl)) dX2_round_146 (by decide +kernel)) hS (fun q _ h => hFc q h) hFc (fun r226 u t9_ H locs ht hvm hw9 hB9 hz1 hk1 hS => ?_)
                  revert hw9
                  refine fz_a2 ?_
                  intro b_r226 f226_0
                  have hP : va_P (dC, dI) vwCl (WN hN aN kN iN_arcs fN_from fN_to fN_room fN_cost iN_reached fN_free fN_before fN_flow fN_length fN_stop_1 iN_stops_1 fN_price_2 fN_rest_x23) H := fz_P ht hB9.1
                  have hD := fz_sd hP (hB9.2.weaken (fun _ q _ h => hFc q.1 h)) rfl
                  have hstp := tuO_step (k := l7_x135.toInt.toNat) (x := l5_x135.toInt.toNat) (a := l6_x135.toInt.toNat) (r := r226.toInt.toNat) (Q := tuTab fN_price_2) hPP hTT (by omega) (by omega) hlt9 (by omega) hWy.1 hWy.2 (fun b hb => hPr _ b (by omega) hb) (fun h9 => by (have h8 := f226_0 (by rw [eN]; exact h9)); exact ⟨by omega, by omega, h8.2.2.1, fun c h1 h2 => h8.2.2.2 c h1 (by omega)⟩)
                  obtain ⟨hs1, hs2, hs3, hs4, hs5⟩ := hstp
                  refine lv_istore hx hb dX2_round_149 hl (by decide) rfl (fun ls (hl : lv_has ls _ ([(6, .int r226), (7, .int l7_x135), (5, .int l5_x135), (4, .int v197), (3, .int (iI (v4.toInt - 1))), (0, .ref (hN 0)), (1, .int p1), (2, .int p2)])) => ?_)
                  refine lv_iload hx hb dX2_round_151 (lv_at hl 2 rfl) ?_
                  refine lv_iconst (v := 1) hx hb dX2_round_153 (by decide) ?_
                  refine lv_iload hx hb dX2_round_154 (lv_at hl 0 rfl) ?_
                  refine lv_iconst (v := 1) hx hb dX2_round_156 (by decide) ?_
                  refine lv_isub hx hb dX2_round_157 ?_
                  refine lv_topi (fun y227 hy227 => ?_)
                  obtain rfl : (iI (r226.toInt - 1)) = y227 := (hy227.trans (iI_sub2 (iI_of _) (by decide : (1 : Int32) = iI 1))).symm
                  refine lv_ishl hx hb dX2_round_158 ?_
                  refine lv_topi (fun v228 hv228 => ?_)
                  have b_v228 : v228 = (1 : Int32) <<< ((iI (r226.toInt - 1)) &&& 31) := hv228
                  clear hv228
                  refine lv_iconst (v := (-1)) hx hb dX2_round_159 (by decide) ?_
                  refine lv_ixor hx hb dX2_round_160 ?_
                  refine lv_topi (fun v229 hv229 => ?_)
                  have b_v229 : v229 = v228 ^^^ (-1) := hv229
                  clear hv229
                  refine lv_iand hx hb dX2_round_161 ?_
                  refine lv_topi (fun v230 hv230 => ?_)
                  have b_v230 : 0 ≤ v230.toInt ∧ v230.toInt ≤ l5_x135.toInt := by rw [hv230]; exact and_posL rfl (by omega)
                  have b1_v230 : v230.toInt = ((l5_x135.toInt.toNat - 2 ^ (r226.toInt.toNat - 1) : Nat) : Int) := by rw [hv230]; exact tuAndT b_v228 b_v229 (by omega) (by omega) (by rw [iI_t (by omega) (by omega)]; omega) (by omega) (hs4)
                  clear hv230
                  refine lv_istore hx hb dX2_round_162 hl (by decide) rfl (fun ls (hl : lv_has ls _ ([(5, .int v230), (6, .int r226), (7, .int l7_x135), (4, .int v197), (3, .int (iI (v4.toInt - 1))), (0, .ref (hN 0)), (1, .int p1), (2, .int p2)])) => ?_)
                  refine lv_iinc (v := (iI (l7_x135.toInt + 1))) hx hb dX2_round_164 hl (k := 2) rfl (iI_add2 (iI_of _) (by decide : (1 : Int32) = iI 1)) (by decide) rfl (fun ls (hl : lv_has ls _ ([(7, .int (iI (l7_x135.toInt + 1))), (5, .int v230), (6, .int r226), (4, .int v197), (3, .int (iI (v4.toInt - 1))), (0, .ref (hN 0)), (1, .int p1), (2, .int p2)])) => ?_)
                  refine lv_goto (tgt := 135) hx hb dX2_round_167 (by decide) ?_
                  have hl : lv_has _ _ ([(7, .int (iI (l7_x135.toInt + 1))), (6, .int r226), (5, .int v230), (4, .int v197), (3, .int (iI (v4.toInt - 1))), (0, .ref (hN 0)), (1, .int p1), (2, .int p2)]) := lv_sub hl [0, 2, 1, 3, 4, 5, 6, 7] rfl
                  exact ihx135 (iI (l7_x135.toInt + 1)) r226 v230 _ _ _ (iI_rng (Int.le_trans (by decide) (Int.add_le_add (b_l7_x135.1) (Int.le_refl _))) (by omega) (by decide) (by decide)) (by first | exact b_r226 | with_reducible assumption | exact ⟨by omega, by omega⟩ | assumption) (by first | exact b_v230 | with_reducible assumption | exact ⟨by omega, by omega⟩ | assumption) (show v230.toInt.toNat = tuF (cntB (bI p1) 12) (tuO (fun x y => tuL (iN_arcs.toInt, fN_from, fN_to, fN_room, fN_cost) (tuK (bI p1) x) (tuK (bI p1) y) (iN_arcs.toInt, fN_from, fN_to, fN_room, fN_cost).1.toNat) (cntB (bI p1) 12) (tuTab fN_rest_x23)) (iI (l7_x135.toInt + 1)).toInt.toNat ∧ r226.toInt.toNat = tuO (fun x y => tuL (iN_arcs.toInt, fN_from, fN_to, fN_room, fN_cost) (tuK (bI p1) x) (tuK (bI p1) y) (iN_arcs.toInt, fN_from, fN_to, fN_room, fN_cost).1.toNat) (cntB (bI p1) 12) (tuTab fN_rest_x23) (iI (l7_x135.toInt + 1)).toInt.toNat from by rw [show (iI (l7_x135.toInt + 1)).toInt.toNat = l7_x135.toInt.toNat + 1 from by rw [iI_t (by omega) (by omega)]; omega]; exact ⟨by rw [← hs5]; omega, hs1⟩) (show (iI (l7_x135.toInt + 1)).toInt ≤ p2.toInt from by rw [iI_t (by omega) (by omega)]; omega) (by have e9 : ((iI (l7_x135.toInt + 1))).toInt = (l7_x135.toInt + 1) := (iI_t (Int.le_trans (by decide) (Int.add_le_add (b_l7_x135.1) (Int.le_refl _))) (Int.le_trans (Int.add_le_add (b_l7_x135.2) (Int.le_refl _)) (by decide))); omega) hP hD hS hl
            · have t_121 : ¬ p2.toInt < iN_stops_1.toInt := toI_nlt c_121 rfl rfl
              refine lv_iconst (v := (-1)) hx hb dX2_round_124 (by decide) ?_
              refine W.widen (k := 0) (n := 0) (by decide +kernel) (by decide +kernel) ?_
              exact W.iret (v := (-1)) hx hb hr (fun t9_ ht hW => ⟨⟨((-1) : Int32), (fN_stop_1, iN_stops_1, fN_price_2, fN_rest_x23), rfl, ⟨b_fN_stop_1, b_iN_stops_1, (by (try dsimp only); exact (tuA.out hVal (by (try dsimp only); omega) (by omega) (by omega) hTT (by omega) (by omega) (by omega) (by decide)))⟩, by rw [ht]; exact hP, hD⟩, hS.F ht⟩) hS.2.2 dX2_round_125
        · have t_95 : p2.toInt = (-2) := toI_nne c_95 rfl (by decide : ((-2) : Int32).toInt = (-2))
          refine lv_iload hx hb dX2_round_98 (lv_at hl 0 rfl) ?_
          refine lv_ldc (v := 536870912) hx hb hown (hts _ hm_m_X2_round_2) dX2_round_100 ?_
          refine W.cut (pc := 111) (fun H locs ls stk => ∃ (k0_j12 : Int32), ((k0_j12.toInt = -1 ∧ ¬ v197.toInt < 536870912) ∨ (v197.toInt < 536870912 ∧ k0_j12.toInt = v197.toInt)) ∧  stk = [.int k0_j12] ∧ va_P (dC, dI) vwCl (WN hN aN kN iN_arcs fN_from fN_to fN_room fN_cost iN_reached fN_free fN_before fN_flow fN_length fN_stop_1 iN_stops_1 fN_price_2 fN_rest_x23) H ∧ va_D A (WN hN aN kN iN_arcs fN_from fN_to fN_room fN_cost iN_reached fN_free fN_before fN_flow fN_length fN_stop_1 iN_stops_1 fN_price_2 fN_rest_x23) ∧ va_S A s.heap H locs ∧ lv_has ls 8 [(4, .int v197), (3, .int (iI (v4.toInt - 1))), (0, .ref (hN 0)), (1, .int p1), (2, .int p2)]) (fun join12 => ?_) ?_
          · refine lv_icmp_lt (tgt := 109) hx hb dX2_round_102 (by decide) (fun c_102 => ?_) (fun c_102 => ?_)
            · have t_102 : v197.toInt < 536870912 := toI_lt c_102 rfl (by decide : (536870912 : Int32).toInt = 536870912)
              refine lv_iload hx hb dX2_round_109 (lv_at hl 0 rfl) ?_
              have hl : lv_has _ _ ([(4, .int v197), (3, .int (iI (v4.toInt - 1))), (0, .ref (hN 0)), (1, .int p1), (2, .int p2)]) := lv_sub hl [0, 1, 2, 3, 4] rfl
              exact join12 _ _ _ _ ⟨v197, (show (v197.toInt = -1 ∧ ¬ v197.toInt < 536870912) ∨ (v197.toInt < 536870912 ∧ v197.toInt = v197.toInt) from by first | exact Or.inl ⟨by decide, by omega⟩ | exact Or.inr ⟨by omega, rfl⟩), rfl, hP, hD, hS, hl⟩
            · have t_102 : ¬ v197.toInt < 536870912 := toI_nlt c_102 rfl (by decide : (536870912 : Int32).toInt = 536870912)
              refine lv_iconst (v := (-1)) hx hb dX2_round_105 (by decide) ?_
              refine lv_goto (tgt := 111) hx hb dX2_round_106 (by decide) ?_
              have hl : lv_has _ _ ([(4, .int v197), (3, .int (iI (v4.toInt - 1))), (0, .ref (hN 0)), (1, .int p1), (2, .int p2)]) := lv_sub hl [0, 1, 2, 3, 4] rfl
              exact join12 _ _ _ _ ⟨(-1), (show (((-1) : Int32).toInt = -1 ∧ ¬ v197.toInt < 536870912) ∨ (v197.toInt < 536870912 ∧ ((-1) : Int32).toInt = v197.toInt) from by first | exact Or.inl ⟨by decide, by omega⟩ | exact Or.inr ⟨by omega, rfl⟩), rfl, hP, hD, hS, hl⟩
          · rintro H locs ls stk ⟨k0_j12, hk9, rfl, hP, hD, hS, hl⟩
            refine W.widen (k := 0) (n := 0) (by decide +kernel) (by decide +kernel) ?_
            exact W.iret (v := k0_j12) hx hb hr (fun t9_ ht hW => ⟨⟨k0_j12, (fN_stop_1, iN_stops_1, fN_price_2, fN_rest_x23), rfl, ⟨b_fN_stop_1, b_iN_stops_1, (by (try dsimp only); exact (hk9.elim (fun h9 => tuA.none hVal (by (try dsimp only); omega) (by omega) (by omega) hTT (by (have h8 := h9.2); omega) h9.1) (fun h9 => tuA.cost hVal (by (try dsimp only); omega) (by omega) (by omega) hTT (by (have h8 := h9.1); omega) (by (have h8 := h9.1); omega) (h9.2.trans b_v197))))⟩, by rw [ht]; exact hP, hD⟩, hS.F ht⟩) hS.2.2 dX2_round_111
    · have t_26 : ¬ l4_x23.toInt > (v4.toInt - 1) := toI_ngt c_26 rfl (iI_t (Int.le_trans (by decide) (Int.sub_le_sub (b_v4.1) (Int.le_refl _))) (Int.le_trans (Int.sub_le_sub (b_v4.2) (Int.le_refl _)) (by decide)))
      refine lv_iconst (v := 0) hx hb dX2_round_29 (by decide) ?_
      refine lv_istore hx hb dX2_round_30 hl (by decide) rfl (fun ls (hl : lv_has ls _ ([(5, .int 0), (4, .int l4_x23), (3, .int (iI (v4.toInt - 1))), (0, .ref (hN 0)), (1, .int p1), (2, .int p2)])) => ?_)
      have hl : lv_has _ _ ([(5, .int 0), (4, .int l4_x23), (3, .int (iI (v4.toInt - 1))), (0, .ref (hN 0)), (1, .int p1), (2, .int p2)]) := lv_sub hl [0, 1, 2, 3, 4, 5] rfl
      refine (fun (loop : ∀ (n9 : Nat) (fN_rest_x32 : Nat → Int32) (l5_x32 : Int32) (H : Heap) (locs : List Loc) (ls : Array Slot), (0 ≤ l5_x32.toInt ∧ l5_x32.toInt ≤ 127) → (tuTb (fun x y => tuL (iN_arcs.toInt, fN_from, fN_to, fN_room, fN_cost) (tuK (bI p1) x) (tuK (bI p1) y) (iN_arcs.toInt, fN_from, fN_to, fN_room, fN_cost).1.toNat) (cntB (bI p1) 12) fN_rest_x32 l4_x23.toInt.toNat l5_x32.toInt.toNat) → (127 - l5_x32.toInt < ((n9 : Nat) : Int)) → va_P (dC, dI) vwCl (WN hN aN kN iN_arcs fN_from fN_to fN_room fN_cost iN_reached fN_free fN_before fN_flow fN_length fN_stop_1 iN_stops_1 fN_price_2 fN_rest_x32) H → va_D A (WN hN aN kN iN_arcs fN_from fN_to fN_room fN_cost iN_reached fN_free fN_before fN_flow fN_length fN_stop_1 iN_stops_1 fN_price_2 fN_rest_x32) → va_S A s.heap H locs → lv_has ls 8 [(5, .int l5_x32), (4, .int l4_x23), (3, .int (iI (v4.toInt - 1))), (0, .ref (hN 0)), (1, .int p1), (2, .int p2)] → W p l e _ s m _ below meth c H locs 0 0 _ (F0 m 32 ls [])) => loop (128) fN_rest_x23 0 _ _ _ (show 0 ≤ (0 : Int32).toInt ∧ (0 : Int32).toInt ≤ 127 from by decide) (show tuTb (fun x y => tuL (iN_arcs.toInt, fN_from, fN_to, fN_room, fN_cost) (tuK (bI p1) x) (tuK (bI p1) y) (iN_arcs.toInt, fN_from, fN_to, fN_room, fN_cost).1.toNat) (cntB (bI p1) 12) fN_rest_x23 l4_x23.toInt.toNat (0 : Int32).toInt.toNat from by rw [show (0 : Int32).toInt.toNat = 0 from by decide]; exact hTa) ((by have e9 : (0 : Int32).toInt = 0 := (by decide : (0 : Int32).toInt = 0); omega)) hP hD hS hl) ?_
      intro n9
      induction n9 with
      | zero => intro fN_rest_x32 l5_x32 H locs ls b_l5_x32 hTb hf9; exact False.elim (by omega)
      | succ n9 ihx32 =>
        intro fN_rest_x32 l5_x32 H locs ls b_l5_x32 hTb hfx32 hP hD hS hl
        refine lv_iload hx hb dX2_round_32 (lv_at hl 0 rfl) ?_
        refine lv_aload_n hx hb dX2_round_34 rfl (lv_at hl 3 rfl) ?_
        refine va_get (D := (dC, dI)) (ci := 2) (v := .int iN_stops_1) (C := RX2) (T := TX2) (N := 14) hx hb hts iwsMX2_round_in2 hown hK hP 0 rfl rfl 11 (by decide) (hts _ hm_m_X2_round_0) (fun _ h9 => h9) rfl dX2_round_35 ?_
        refine lv_icmp_ge (tgt := 68) hx hb dX2_round_38 (by decide) (fun c_38 => ?_) (fun c_38 => ?_)
        · have t_38 : l5_x32.toInt ≥ iN_stops_1.toInt := toI_ge c_38 rfl rfl
          refine lv_iinc (v := (iI (l4_x23.toInt + 1))) hx hb dX2_round_68 hl (k := 1) rfl (iI_add2 (iI_of _) (by decide : (1 : Int32) = iI 1)) (by decide) rfl (fun ls (hl : lv_has ls _ ([(4, .int (iI (l4_x23.toInt + 1))), (5, .int l5_x32), (3, .int (iI (v4.toInt - 1))), (0, .ref (hN 0)), (1, .int p1), (2, .int p2)])) => ?_)
          refine lv_goto (tgt := 23) hx hb dX2_round_71 (by decide) ?_
          have hl : lv_has _ _ ([(4, .int (iI (l4_x23.toInt + 1))), (3, .int (iI (v4.toInt - 1))), (0, .ref (hN 0)), (1, .int p1), (2, .int p2)]) := lv_sub hl [0, 2, 3, 4, 5] rfl
          exact ihx23 fN_rest_x32 (iI (l4_x23.toInt + 1)) _ _ _ (iI_rng (Int.le_trans (by decide) (Int.add_le_add (b_l4_x23.1) (Int.le_refl _))) (by omega) (by decide) (by decide)) (show tuTb (fun x y => tuL (iN_arcs.toInt, fN_from, fN_to, fN_room, fN_cost) (tuK (bI p1) x) (tuK (bI p1) y) (iN_arcs.toInt, fN_from, fN_to, fN_room, fN_cost).1.toNat) (cntB (bI p1) 12) fN_rest_x32 (iI (l4_x23.toInt + 1)).toInt.toNat 0 from by rw [show (iI (l4_x23.toInt + 1)).toInt.toNat = l4_x23.toInt.toNat + 1 from by rw [iI_t (by omega) (by omega)]; omega]; exact tuTb.row hTb (by omega) rfl rfl) (by have e9 : ((iI (l4_x23.toInt + 1))).toInt = (l4_x23.toInt + 1) := (iI_t (Int.le_trans (by decide) (Int.add_le_add (b_l4_x23.1) (Int.le_refl _))) (Int.le_trans (Int.add_le_add (b_l4_x23.2) (Int.le_refl _)) (by decide))); omega) hP hD hS hl
        · have t_38 : ¬ l5_x32.toInt ≥ iN_stops_1.toInt := toI_nge c_38 rfl rfl
          refine lv_aload_n hx hb dX2_round_41 rfl (lv_at hl 3 rfl) ?_
          refine va_get (D := (dC, dI)) (ci := 2) (v := .ref (aN 10)) (C := RX2) (T := TX2) (N := 14) hx hb hts iwsMX2_round_in2 hown hK hP 0 rfl rfl 13 (by decide) (hts _ hm_m_X2_round_1) (fun _ h9 => h9) rfl dX2_round_42 ?_
          refine lv_iload hx hb dX2_round_45 (lv_at hl 1 rfl) ?_
          refine lv_bipush (v := 8) hx hb dX2_round_47 (by decide) ?_
          refine lv_imul hx hb dX2_round_49 ?_
          refine lv_topi (fun y251 hy251 => ?_)
          obtain rfl : (iI (l4_x23.toInt * 8)) = y251 := (hy251.trans (iI_mul2 (iI_of _) (by decide : (8 : Int32) = iI 8))).symm
          refine lv_iload hx hb dX2_round_50 (lv_at hl 0 rfl) ?_
          refine lv_iadd hx hb dX2_round_52 ?_
          refine lv_topi (fun y252 hy252 => ?_)
          obtain rfl : (iI ((l4_x23.toInt * 8) + l5_x32.toInt)) = y252 := (hy252.trans (iI_add2 rfl (iI_of _))).symm
          refine lv_aload_n hx hb dX2_round_53 rfl (lv_at hl 3 rfl) ?_
          refine lv_iload hx hb dX2_round_54 (lv_at hl 1 rfl) ?_
          refine lv_iload hx hb dX2_round_56 (lv_at hl 0 rfl) ?_
          have hFc := allFree hD hS hA
          refine va_calli (va_runV (As := [.int l4_x23, .int l5_x32]) (rest := [.int (iI ((l4_x23.toInt * 8) + l5_x32.toInt)), .ref (aN 10)]) ⟨hx, hb, hml, hown, hts⟩ (m_X2_restFrom l dC dI hN aN kN iN_arcs fN_from fN_to fN_room fN_cost iN_reached fN_free fN_before fN_flow fN_length fN_stop_1 iN_stops_1 fN_price_2 fN_rest_x32 l4_x23 l5_x32 (b_iN_arcs) b_fN_from b_fN_to b_fN_before b_fN_stop_1 (b_iN_stops_1) (by first | exact b_l4_x23 | with_reducible assumption | exact ⟨by omega, by omega⟩ | assumption) (by first | exact b_l5_x32 | with_reducible assumption | exact ⟨by omega, by omega⟩ | assumption) ((by omega)) ((by omega)) ((fun x y hx hy => hPb9 x y (by omega) (by omega))) ((fun y b hy hb => (hTb y b (by omega) (Or.inl hy)).2)) H.size) (cwV 2 hts gwsMX2_round_2 rfl rfl rfl hd_yX2_restFrom_RX2 (by decide +kernel)) (fz_pre (va_recv hK hP (ci := 2) (q0 := 0) rfl rfl) hP hK hD) rfl rfl hl.1 rfl (lv_room (Nat.le_of_ble_eq_true rfl)) dX2_round_58 (by decide +kernel)) hS (fun q _ h => hFc q h) hFc (fun r253 u t9_ H locs ht hvm hw9 hB9 hz1 hk1 hS => ?_)
          have f253_0 := hw9
          try dsimp only at f253_0
          have hP : va_P (dC, dI) vwCl (WN hN aN kN iN_arcs fN_from fN_to fN_room fN_cost iN_reached fN_free fN_before fN_flow fN_length fN_stop_1 iN_stops_1 fN_price_2 fN_rest_x32) H := fz_P ht hB9.1
          have hD := fz_sd hP (hB9.2.weaken (fun _ q _ h => hFc q.1 h)) rfl
          refine va_iast (cA := kN 10) (n := 1024) (f := fN_rest_x32) hx hb hK hP hD hS 11 10 rfl rfl (vp_iI (Int.le_trans (by decide) (Int.add_le_add (Int.mul_le_mul_of_nonneg_right (b_l4_x23.1) (by decide)) (b_l5_x32.1))) (by omega) (by decide)) dX2_round_61 (fun H locs hP hD hS => ?_)
          obtain ⟨u254, hu254⟩ : ∃ f9, f9 = upd fN_rest_x32 ((iI ((l4_x23.toInt * 8) + l5_x32.toInt))).toNatClampNeg r253 := ⟨_, rfl⟩
          have hP : va_P (dC, dI) vwCl (WN hN aN kN iN_arcs fN_from fN_to fN_room fN_cost iN_reached fN_free fN_before fN_flow fN_length fN_stop_1 iN_stops_1 fN_price_2 u254) H := by rw [hu254]; exact hP
          have hD : va_D A (WN hN aN kN iN_arcs fN_from fN_to fN_room fN_cost iN_reached fN_free fN_before fN_flow fN_length fN_stop_1 iN_stops_1 fN_price_2 u254) := by rw [hu254]; exact hD
          have b_u254 : u254 = upd fN_rest_x32 ((iI ((l4_x23.toInt * 8) + l5_x32.toInt))).toNatClampNeg r253 := hu254
          clear hu254
          refine lv_iinc (v := (iI (l5_x32.toInt + 1))) hx hb dX2_round_62 hl (k := 0) rfl (iI_add2 (iI_of _) (by decide : (1 : Int32) = iI 1)) (by decide) rfl (fun ls (hl : lv_has ls _ ([(5, .int (iI (l5_x32.toInt + 1))), (4, .int l4_x23), (3, .int (iI (v4.toInt - 1))), (0, .ref (hN 0)), (1, .int p1), (2, .int p2)])) => ?_)
          refine lv_goto (tgt := 32) hx hb dX2_round_65 (by decide) ?_
          have hl : lv_has _ _ ([(5, .int (iI (l5_x32.toInt + 1))), (4, .int l4_x23), (3, .int (iI (v4.toInt - 1))), (0, .ref (hN 0)), (1, .int p1), (2, .int p2)]) := lv_sub hl [0, 1, 2, 3, 4, 5] rfl
          exact ihx32 u254 (iI (l5_x32.toInt + 1)) _ _ _ (iI_rng (Int.le_trans (by decide) (Int.add_le_add (b_l5_x32.1) (Int.le_refl _))) (by omega) (by decide) (by decide)) (show tuTb (fun x y => tuL (iN_arcs.toInt, fN_from, fN_to, fN_room, fN_cost) (tuK (bI p1) x) (tuK (bI p1) y) (iN_arcs.toInt, fN_from, fN_to, fN_room, fN_cost).1.toNat) (cntB (bI p1) 12) u254 l4_x23.toInt.toNat (iI (l5_x32.toInt + 1)).toInt.toNat from by rw [show (iI (l5_x32.toInt + 1)).toInt.toNat = l5_x32.toInt.toNat + 1 from by rw [iI_t (by omega) (by omega)]; omega]; exact tuTb.put hTb (by omega) (by omega) (by show (iI ((l4_x23.toInt * 8) + l5_x32.toInt)).toInt.toNat = _; rw [iI_t (by omega) (by omega)]; omega) b_u254 (by (have h9 := f253_0.1); rw [eN] at h9; exact h9.cgP (by omega) (fun b hb => hPr _ b (by omega) hb)) f253_0.2) (by have e9 : ((iI (l5_x32.toInt + 1))).toInt = (l5_x32.toInt + 1) := (iI_t (Int.le_trans (by decide) (Int.add_le_add (b_l5_x32.1) (Int.le_refl _))) (Int.le_trans (Int.add_le_add (b_l5_x32.2) (Int.le_refl _)) (by decide))); omega) hP hD hS hl
end
section
/-! flows: what the class has left between two nodes -/
def mB : Bool → Bool → Int → Int
  | true, false, x => x
  | _, _, _ => 0
theorem mB_add (b c : Bool) (x k : Int) : mB b c (x + k) = mB b c x + mB b c k := by
  cases b
  · cases c
    · rfl
    · rfl
  · cases c
    · rfl
    · rfl
theorem mB_0 (b c : Bool) : mB b c 0 = 0 := by
  cases b
  · cases c
    · rfl
    · rfl
  · cases c
    · rfl
    · rfl
theorem mB_pos (b c : Bool) {x : Int} (h : 0 ≤ x) : 0 ≤ mB b c x := by
  cases b
  · cases c
    · exact Int.le_refl _
    · exact Int.le_refl _
  · cases c
    · exact h
    · exact Int.le_refl _
theorem mB_rs (b c : Bool) (r : Int) : rsB b c r 0 = mB b c r := by
  cases b
  · cases c
    · rfl
    · rfl
  · cases c
    · show r - 0 = r
      omega
    · rfl
theorem mB_two (b c : Bool) (w : Int) : mB b c (-w) + mB c b w = - (sB b w - sB c w) := by
  cases b
  · cases c
    · show (0 : Int) + 0 = - (0 - 0)
      omega
    · show 0 + w = - (0 - w)
      omega
  · cases c
    · show -w + 0 = - (w - 0)
      omega
    · show (0 : Int) + 0 = - (w - w)
      omega
def rsM (F : Nat → Int) (S : Nat → Bool) : Nat → Int
  | 0 => 0
  | q + 1 => rsM F S q + mB (S (q / 12)) (S (q % 12)) (F q)
theorem rsM_same {F G : Nat → Int} {S : Nat → Bool} : ∀ {m : Nat}, (∀ q, q < m → G q = F q) → rsM G S m = rsM F S m := by
  intro m
  induction m with
  | zero => intro _; rfl
  | succ m ih =>
    intro h
    show rsM G S m + mB _ _ (G m) = rsM F S m + mB _ _ (F m)
    rw [ih (fun q hq => h q (by omega)), h m (by omega)]
theorem rsM_put {F G : Nat → Int} {S : Nat → Bool} {q : Nat} {k : Int} : ∀ {m : Nat}, q < m → G q = F q + k → (∀ p, p ≠ q → G p = F p) → rsM G S m = rsM F S m + mB (S (q / 12)) (S (q % 12)) k := by
  intro m
  induction m with
  | zero => intro h; exact absurd h (Nat.not_lt_zero q)
  | succ m ih =>
    intro hq h1 h2
    show rsM G S m + mB (S (m / 12)) (S (m % 12)) (G m) = rsM F S m + mB (S (m / 12)) (S (m % 12)) (F m) + mB (S (q / 12)) (S (q % 12)) k
    by_cases e : q = m
    · subst e
      rw [rsM_same (fun p hp => h2 p (by omega)), h1, mB_add]
      omega
    · rw [ih (by omega) h1 h2, h2 m (Ne.symm e)]
      omega
theorem rsM_0 {F : Nat → Int} {S : Nat → Bool} : ∀ {m : Nat}, (∀ q, q < m → F q = 0) → rsM F S m = 0 := by
  intro m
  induction m with
  | zero => intro _; rfl
  | succ m ih =>
    intro h
    show rsM F S m + mB _ _ (F m) = 0
    rw [ih (fun q hq => h q (by omega)), h m (by omega), mB_0]
    rfl
theorem rsM_pos {F : Nat → Int} {S : Nat → Bool} : ∀ {m : Nat}, (∀ q, q < m → 0 ≤ F q) → 0 ≤ rsM F S m := by
  intro m
  induction m with
  | zero => intro _; exact Int.le_refl _
  | succ m ih =>
    intro h
    show 0 ≤ rsM F S m + mB (S (m / 12)) (S (m % 12)) (F m)
    have h1 := ih (fun q hq => h q (by omega))
    have h2 := mB_pos (S (m / 12)) (S (m % 12)) (h m (by omega))
    omega
theorem rsM_cell {F : Nat → Int} {S : Nat → Bool} {q : Nat} (h1 : S (q / 12) = true) (h2 : S (q % 12) = false) : ∀ {m : Nat}, (∀ p, p < m → 0 ≤ F p) → q < m → F q ≤ rsM F S m := by
  intro m
  induction m with
  | zero => intro _ h; exact absurd h (Nat.not_lt_zero q)
  | succ m ih =>
    intro h hq
    show F q ≤ rsM F S m + mB (S (m / 12)) (S (m % 12)) (F m)
    have h3 := rsM_pos (F := F) (S := S) (m := m) (fun p hp => h p (by omega))
    have h4 := mB_pos (S (m / 12)) (S (m % 12)) (h m (by omega))
    by_cases e : q = m
    · subst e
      rw [h1, h2]
      show F q ≤ rsM F S q + F q
      omega
    · have := ih (fun p hp => h p (by omega)) (by omega)
      omega
theorem rsM_zero {F : Nat → Int} {S : Nat → Bool} : ∀ {m : Nat}, (∀ q, q < m → S (q / 12) = true → S (q % 12) = false → F q = 0) → rsM F S m = 0 := by
  intro m
  induction m with
  | zero => intro _; rfl
  | succ m ih =>
    intro h
    show rsM F S m + mB (S (m / 12)) (S (m % 12)) (F m) = 0
    rw [ih (fun q hq => h q (by omega))]
    have h9 := h m (by omega)
    cases e1 : S (m / 12)
    · cases e2 : S (m % 12)
      · rfl
      · rfl
    · cases e2 : S (m % 12)
      · show 0 + F m = 0
        rw [h9 e1 e2]
        rfl
      · rfl
theorem rsM_none {F : Nat → Int} {S : Nat → Bool} {m : Nat} (h : ∀ q, q < m → 0 ≤ F q) (h0 : rsM F S m = 0) {q : Nat} (hq : q < m) (h1 : S (q / 12) = true) (h2 : S (q % 12) = false) : F q = 0 := by
  have h3 := rsM_cell h1 h2 h hq
  have h4 := h q hq
  omega
/-- the cell of a pair -/
theorem cell_d {x y : Nat} (hy : y < 12) : (12 * x + y) / 12 = x ∧ (12 * x + y) % 12 = y := by omega
/-- what is left, and how much went from s to t -/
def mI (d : NtD) (s t : Nat) (F : Nat → Int32) (v : Int) : Prop := (∀ q, q < 144 → 0 ≤ (F q).toInt) ∧ ∀ S, rsM (fI F) S 144 = cpA d S d.1.toNat - (sW S s v - sW S t v)
theorem cpA_all {d : NtD} (h : tRm d) (h0 : 0 ≤ d.1) (h40 : d.1 ≤ 40) (S : Nat → Bool) : cpA d S d.1.toNat ≤ 40000 := by
  have h1 := cpA_le (d := d) (S := S) (m := d.1.toNat) (fun a ha => by have h9 := h a (by omega); exact ⟨h9.1, h9.2.1⟩)
  omega
theorem mI.lim {d : NtD} {s t : Nat} {F : Nat → Int32} {v : Int} (h : mI d s t F v) (hr : tRm d) (h0 : 0 ≤ d.1) (h40 : d.1 ≤ 40) (hts : t ≠ s) : v ≤ 40000 := by
  have h1 := h.2 (fun n => decide (n = s))
  rw [sW_in (decide_eq_true rfl), sW_out (decide_eq_false hts)] at h1
  have h2 := rsM_pos (F := fI F) (S := fun n => decide (n = s)) (m := 144) h.1
  have h3 := cpA_all hr h0 h40 (fun n => decide (n = s))
  omega
theorem sW_bd (S : Nat → Bool) (n : Nat) {v : Int} (h : 0 ≤ v) : 0 ≤ sW S n v ∧ sW S n v ≤ v := by
  unfold sW
  cases S n
  · exact ⟨Int.le_refl _, h⟩
  · exact ⟨h, Int.le_refl _⟩
theorem mI.hi {d : NtD} {s t : Nat} {F : Nat → Int32} {v : Int} (h : mI d s t F v) (hr : tRm d) (h0 : 0 ≤ d.1) (h40 : d.1 ≤ 40) (hv : 0 ≤ v) (hv2 : v ≤ 40000) (S : Nat → Bool) : rsM (fI F) S 144 ≤ 80000 := by
  have h1 := h.2 S
  have h3 := cpA_all hr h0 h40 S
  have h4 := sW_bd S s hv
  have h5 := sW_bd S t hv
  omega
/-- filling the table -/
def mG (d : NtD) (F : Nat → Int32) (i : Nat) : Prop := (∀ q, q < 144 → 0 ≤ (F q).toInt ∧ (F q).toInt ≤ 1000 * (i : Int)) ∧ ∀ S, rsM (fI F) S 144 = cpA d S i
theorem mG.start {d : NtD} {F : Nat → Int32} {i : Nat} (hi : i = 0) (h : ∀ q, q < 144 → F q = 0) : mG d F i := by
  subst hi
  have hz : ∀ q, q < 144 → (F q).toInt = 0 := fun q hq => by rw [h q hq]; decide
  exact ⟨fun q hq => by rw [hz q hq]; exact ⟨Int.le_refl _, Int.le_refl _⟩, fun S => rsM_0 hz⟩
theorem mG.step {d : NtD} {F G : Nat → Int32} {i c : Nat} {x y : Int32} (h : mG d F i) (hi : (i : Int) < d.1) (hr : tRm d) (hv : tVal d) (hc : c = 12 * tFr d i + tTo d i) (hx : x = F c) (hG : G = upd F c y) (hy : y.toInt = x.toInt + tRo d i) : mG d G (i + 1) := by
  have h1 := hr i hi
  have h2 := hv i hi
  have hc2 : c < 144 := by omega
  have hg : ∀ q, (G q).toInt = if q = c then (F c).toInt + tRo d i else (F q).toInt := fun q => by
    rw [hG]
    unfold upd
    by_cases e : q = c
    · rw [if_pos e, if_pos e, hy, hx]
    · rw [if_neg e, if_neg e]
  refine ⟨fun q hq => ?_, fun S => ?_⟩
  · have h3 := h.1 q hq
    have h4 := h.1 c hc2
    rw [hg q]
    by_cases e : q = c
    · rw [if_pos e]; omega
    · rw [if_neg e]; omega
  · rw [rsM_put (F := fI F) (G := fI G) (q := c) (k := tRo d i) hc2 (by show (G c).toInt = (F c).toInt + tRo d i; rw [hg c, if_pos rfl]) (fun p hp => by show (G p).toInt = (F p).toInt; rw [hg p, if_neg hp]), h.2 S]
    have e1 := cell_d (x := tFr d i) (y := tTo d i) h2.2.1
    rw [hc, e1.1, e1.2, ← mB_rs]
    rfl
theorem mG.done {d : NtD} {F : Nat → Int32} {i s t : Nat} (h : mG d F i) (hi : (i : Int) = d.1) : mI d s t F 0 := by
  have e : i = d.1.toNat := by omega
  refine ⟨fun q hq => (h.1 q hq).1, fun S => ?_⟩
  rw [h.2 S, sW_0, sW_0, e]
  omega
/-- a walk back over the arcs that were taken -/
def pIt (f : Nat → Int32) (t : Nat) : Nat → Nat
  | 0 => t
  | k + 1 => (f (pIt f t k)).toInt.toNat
/-- what reach tells: each node but the first has one before it, nearer, with room between -/
def RcL (s : Nat) (F f : Nat → Int32) (R : Int32) (lev : Nat → Nat) : Prop := (∀ j, j < 12 → bt R j = true → j = s ∨ ((f j).toInt.toNat < 12 ∧ 0 ≤ (f j).toInt ∧ bt R (f j).toInt.toNat = true ∧ lev (f j).toInt.toNat < lev j ∧ 0 < (F (12 * (f j).toInt.toNat + j)).toInt)) ∧ (∀ j, j < 12 → bt R j = true → lev j + 1 ≤ cntB (bt R) 12) ∧ (∀ j, bt R j = true → j < 12) ∧ bt R s = true
def ClF (F : Nat → Int32) (R : Int32) (i m : Nat) : Prop := ∀ j, j < m → 0 < (F (12 * i + j)).toInt → bt R j = true
/-- reach at the head of a turn -/
def RQ1 (s : Nat) (F f : Nat → Int32) (R E : Int32) (k : Int) : Prop := (∃ lev, RcL s F f R lev) ∧ (∀ i, i < 12 → bt R i = true → bt E i = false → ClF F R i 12) ∧ (∀ i, bt E i = true → i < 12) ∧ ((∃ i, bt E i = true) → k + 1 ≤ (cntB (bt R) 12 : Int))
/-- reach within a turn, at the node i -/
def RQ2 (s : Nat) (F f : Nat → Int32) (R E G : Int32) (k : Int) (i : Nat) : Prop := (∃ lev, RcL s F f R lev) ∧ (∀ q, q < 12 → bt R q = true → bt G q = false → (bt E q = false ∨ q < i) → ClF F R q 12) ∧ (∀ q, bt G q = true → q < 12) ∧ k + 1 ≤ (cntB (bt R) 12 : Int) ∧ ((∃ q, bt G q = true) → k + 2 ≤ (cntB (bt R) 12 : Int))
def RQ3 (s : Nat) (F f : Nat → Int32) (R E G : Int32) (k : Int) (i j : Nat) : Prop := RQ2 s F f R E G k i ∧ (bt E i = true → ClF F R i j)
/-- reach at its end -/
def RE (s : Nat) (F f : Nat → Int32) (R : Int32) : Prop := (∃ lev, RcL s F f R lev) ∧ ∀ i, i < 12 → bt R i = true → ClF F R i 12
theorem bt_bit {i : Int32} {j : Nat} (h0 : 0 ≤ i.toInt) (h1 : i.toInt ≤ 11) : bt ((1 : Int32) <<< (i &&& 31)) j = decide (j = i.toInt.toNat) := by
  have h := bI_1 (i := i.toInt.toNat) (j := j) (by omega)
  rw [nI_tz h0] at h
  exact h
theorem RQ1.first {s : Nat} {F f : Nat → Int32} {p R E : Int32} {k : Int} (h0 : 0 ≤ p.toInt) (h1 : p.toInt ≤ 11) (hs : s = p.toInt.toNat) (hR : R = (1 : Int32) <<< (p &&& 31)) (hE : E = R) (hk : k = 0) : RQ1 s F f R E k := by
  subst hE hk
  have hb : ∀ j, bt E j = decide (j = s) := fun j => by rw [hR, bt_bit h0 h1, hs]
  have hc : 0 < cntB (bt E) 12 := by
    have h9 := cntB_lt (p := fun _ => false) (q := bt E) (n := 12) (i := s) (fun _ _ h => by cases h) (by omega) rfl (by rw [hb]; exact decide_eq_true rfl)
    omega
  have hlow : ∀ j, bt E j = true → j < 12 := fun j h => by
    rw [hb] at h
    have := of_decide_eq_true h
    omega
  refine ⟨⟨fun _ => 0, fun j _ h => Or.inl ?_, fun j _ _ => by dsimp only; omega, hlow, by rw [hb]; exact decide_eq_true rfl⟩, fun i _ h3 h4 => ?_, hlow, fun _ => by omega⟩
  · rw [hb] at h
    exact of_decide_eq_true h
  · rw [h3] at h4
    cases h4
theorem RQ2.start {s : Nat} {F f : Nat → Int32} {R E G : Int32} {k : Int} {i : Nat} (h : RQ1 s F f R E k) (hE : ¬ E.toInt = 0) (hG : G = 0) (hi : i = 0) : RQ2 s F f R E G k i := by
  subst hG hi
  obtain ⟨hl, h2, h3, h4⟩ := h
  have hex : ∃ q, bt E q = true := Classical.byContradiction (fun h9 => hE (by
    have hz : E = 0 := bI_zero.mpr (fun j => by
      cases e : bI E j
      · rfl
      · exact absurd ⟨j, e⟩ h9)
    rw [hz]; decide))
  have hno : ∀ q, ¬ bt 0 q = true := fun q h9 => by
    have h8 : bt 0 q = false := bI_0 q
    rw [h8] at h9
    cases h9
  exact ⟨hl, fun q h4 h5 _ h7 => h2 q h4 h5 (h7.resolve_right (Nat.not_lt_zero q)), fun q h9 => absurd h9 (hno q), h4 hex, fun ⟨q, h9⟩ => absurd h9 (hno q)⟩
theorem RQ3.start {s : Nat} {F f : Nat → Int32} {R E G : Int32} {k : Int} {i j : Nat} (h : RQ2 s F f R E G k i) (hj : j = 0) : RQ3 s F f R E G k i j := by
  subst hj
  exact ⟨h, fun _ j hj => absurd hj (Nat.not_lt_zero j)⟩
theorem RQ3.seen {s : Nat} {F f : Nat → Int32} {R E G : Int32} {k : Int} {i j : Nat} (h : RQ3 s F f R E G k i j) (hj : bt R j = true ∨ ¬ 0 < (F (12 * i + j)).toInt) : RQ3 s F f R E G k i (j + 1) := by
  refine ⟨h.1, fun hE q hq hF => ?_⟩
  by_cases e : q = j
  · subst e
    exact hj.resolve_right (fun h9 => h9 hF)
  · exact h.2 hE q (by omega) hF
theorem RQ3.exit {s : Nat} {F f : Nat → Int32} {R E G : Int32} {k : Int} {i j : Nat} (h : RQ3 s F f R E G k i j) (hj : 12 ≤ j ∨ bt E i = false) : RQ2 s F f R E G k (i + 1) := by
  obtain ⟨⟨h1, h2, h3⟩, h4⟩ := h
  refine ⟨h1, fun q k1 k2 k3 k4 => ?_, h3⟩
  by_cases e : q = i
  · subst e
    cases e2 : bt E q
    · exact h2 q k1 k2 k3 (Or.inl e2)
    · have hj2 := hj.resolve_right (fun h9 => by rw [e2] at h9; cases h9)
      exact fun n hn hF => h4 e2 n (by omega) hF
  · exact h2 q k1 k2 k3 (k4.imp id (fun h9 => by omega))
theorem RQ2.exit {s : Nat} {F f : Nat → Int32} {R E G : Int32} {k k2 : Int} {i : Nat} (h : RQ2 s F f R E G k i) (hi : 12 ≤ i) (hk : k2 = k + 1) : RQ1 s F f R G k2 := by
  subst hk
  obtain ⟨h1, h2, h3, h4, h5⟩ := h
  refine ⟨h1, fun q k1 k2 k3 => h2 q k1 k2 k3 (Or.inr (by omega)), h3, fun h9 => ?_⟩
  have := h5 h9
  omega
theorem RQ1.done {s : Nat} {F f : Nat → Int32} {R E : Int32} {k : Int} (h : RQ1 s F f R E k) (hk : 12 ≤ k ∨ E.toInt = 0) : RE s F f R := by
  obtain ⟨h1, h2, h3, h4⟩ := h
  refine ⟨h1, fun i hi hR => h2 i hi hR ?_⟩
  cases e : bt E i
  · rfl
  · exfalso
    rcases hk with hk | hk
    · have h5 := h4 ⟨i, e⟩
      have h6 := cntB_le (bt R) 12
      omega
    · have hz : E = 0 := Int32.toInt_inj.mp (by rw [hk]; decide)
      rw [hz] at e
      have h8 : bt 0 i = false := bI_0 i
      rw [h8] at e
      cases e
theorem RQ3.add {s : Nat} {F f f2 : Nat → Int32} {R E G R2 G2 x y : Int32} {k : Int} {i j : Nat} (h : RQ3 s F f R E G k i j) (hi : i < 12) (hj : j < 12) (hx : x.toInt = (i : Int)) (hy : y.toInt = (j : Int)) (hE : bt E i = true) (hER : SubB E R) (hR : bt R j = false) (hF : 0 < (F (12 * i + j)).toInt) (hf : f2 = upd f j x) (hR2 : R2 = R ||| (1 : Int32) <<< (y &&& 31)) (hG2 : G2 = G ||| (1 : Int32) <<< (y &&& 31)) : RQ3 s F f2 R2 E G2 k i (j + 1) := by
  obtain ⟨⟨⟨lev, a1, a2, a3, a4⟩, h2, h3, h4, h5⟩, h6⟩ := h
  have ej : y.toInt.toNat = j := by omega
  have hb : ∀ q, bt R2 q = (bt R q || decide (q = j)) := fun q => by rw [hR2, bt_or, bt_bit (by omega) (by omega), ej]
  have hg : ∀ q, bt G2 q = (bt G q || decide (q = j)) := fun q => by rw [hG2, bt_or, bt_bit (by omega) (by omega), ej]
  have hup : ∀ q, bt R q = true → bt R2 q = true := fun q h9 => by rw [hb, h9]; rfl
  have hj2 : bt R2 j = true := by rw [hb, hR, decide_eq_true rfl]; rfl
  have hdn : ∀ q, bt R2 q = true → q ≠ j → bt R q = true := fun q h9 h8 => by
    rw [hb, decide_eq_false h8, Bool.or_false] at h9
    exact h9
  have hRi : bt R i = true := hER i hi hE
  have hij : i ≠ j := fun e => by rw [e, hR] at hRi; cases hRi
  have hc : cntB (bt R2) 12 = cntB (bt R) 12 + 1 := cntB_set hj hR (fun q => by
    rw [hb, Bool.or_eq_true]
    exact ⟨fun h9 => h9.imp id of_decide_eq_true, fun h9 => h9.imp id decide_eq_true⟩)
  have hxn : x.toInt.toNat = i := by omega
  have hfj : f2 j = x := by rw [hf]; exact if_pos rfl
  have hfn : ∀ q, q ≠ j → f2 q = f q := fun q h9 => by rw [hf]; exact if_neg h9
  have hli := a2 i hi hRi
  have hmono : ∀ q m, ClF F R q m → ClF F R2 q m := fun q m h9 n hn hF9 => hup n (h9 n hn hF9)
  refine ⟨⟨⟨fun n => if n = j then lev i + 1 else lev n, ?_, ?_, ?_, hup s a4⟩, ?_, ?_, by omega, fun _ => by omega⟩, ?_⟩
  · intro n hn hn2
    by_cases e : n = j
    · refine Or.inr ?_
      rw [e, hfj, hxn]
      refine ⟨hi, by omega, hup i hRi, ?_, hF⟩
      show (if i = j then lev i + 1 else lev i) < (if j = j then lev i + 1 else lev j)
      rw [if_neg hij, if_pos rfl]
      omega
    · rcases a1 n hn (hdn n hn2 e) with h9 | ⟨b1, b2, b3, b4, b5⟩
      · exact Or.inl h9
      · refine Or.inr ?_
        rw [hfn n e]
        refine ⟨b1, b2, hup _ b3, ?_, b5⟩
        show (if (f n).toInt.toNat = j then lev i + 1 else lev (f n).toInt.toNat) < (if n = j then lev i + 1 else lev n)
        rw [if_neg (fun e9 => by rw [e9, hR] at b3; cases b3), if_neg e]
        exact b4
  · intro n hn hn2
    show (if n = j then lev i + 1 else lev n) + 1 ≤ cntB (bt R2) 12
    by_cases e : n = j
    · rw [if_pos e]; omega
    · rw [if_neg e]
      have := a2 n hn (hdn n hn2 e)
      omega
  · intro n h9
    by_cases e : n = j
    · omega
    · exact a3 n (hdn n h9 e)
  · intro q k1 k2 k3 k4
    have e : q ≠ j := fun e => by rw [hg, e, decide_eq_true rfl, Bool.or_true] at k3; cases k3
    refine hmono q 12 (h2 q k1 (hdn q k2 e) ?_ k4)
    cases e2 : bt G q
    · rfl
    · rw [hg, e2] at k3; cases k3
  · intro q h9
    rw [hg, Bool.or_eq_true] at h9
    rcases h9 with h9 | h9
    · exact h3 q h9
    · have := of_decide_eq_true h9
      omega
  · intro hE9 n hn hF9
    by_cases e : n = j
    · rw [e]; exact hj2
    · exact hup n (h6 hE9 n (by omega) hF9)
/-- at the end: the greatest flow and the cut -/
theorem RE.max {d : NtD} {s t : Nat} {F f : Nat → Int32} {R : Int32} {v : Int} (h : mI d s t F v) (hE : RE s F f R) (ht : bt R t = false) (ht12 : t < 12) : mxF d s t v ∧ mxC d s t R := by
  obtain ⟨⟨lev, a1, a2, a3, a4⟩, hcl⟩ := hE
  have hsep : sep s t (bt R) := ⟨a4, ht⟩
  have hz : rsM (fI F) (bt R) 144 = 0 := rsM_zero (fun q hq h1 h2 => by
    have h3 := h.1 q hq
    by_cases e : 0 < (F q).toInt
    · have h4 := hcl (q / 12) (by omega) h1 (q % 12) (by omega) (by rw [show 12 * (q / 12) + q % 12 = q from by omega]; exact e)
      rw [h2] at h4
      cases h4
    · show (F q).toInt = 0
      omega)
  have hv : cpA d (bt R) d.1.toNat = v := by
    have h9 := h.2 (bt R)
    rw [hz, sW_in hsep.1, sW_out hsep.2] at h9
    omega
  have hle : ∀ S, sep s t S → v ≤ cpA d S d.1.toNat := fun S hS => by
    have h9 := h.2 S
    have h8 := rsM_pos (F := fI F) (S := S) (m := 144) h.1
    rw [sW_in hS.1, sW_out hS.2] at h9
    omega
  refine ⟨⟨⟨bt R, hsep, hv⟩, hle⟩, hsep, fun S hS => by show cpA d (bt R) d.1.toNat ≤ _; rw [hv]; exact hle S hS, fun S hS e n hn hn2 => ?_, a3⟩
  have e2 : cpA d S d.1.toNat = v := e.trans hv
  have h0 : rsM (fI F) S 144 = 0 := by
    have h9 := h.2 S
    rw [sW_in hS.1, sW_out hS.2] at h9
    omega
  have key : ∀ m n, lev n < m → n < 12 → bt R n = true → S n = true := by
    intro m
    induction m with
    | zero => intro n h9; exact absurd h9 (Nat.not_lt_zero _)
    | succ m ih =>
      intro n h9 hn9 hR9
      rcases a1 n hn9 hR9 with e9 | ⟨b1, b2, b3, b4, b5⟩
      · rw [e9]; exact hS.1
      · have hp := ih (f n).toInt.toNat (by omega) b1 b3
        cases e8 : S n
        · exfalso
          have c1 := cell_d (x := (f n).toInt.toNat) (y := n) hn9
          have h7 := rsM_none (F := fI F) (S := S) (m := 144) h.1 h0 (q := 12 * (f n).toInt.toNat + n) (by omega) (by rw [c1.1]; exact hp) (by rw [c1.2]; exact e8)
          have h6 : (F (12 * (f n).toInt.toNat + n)).toInt = 0 := h7
          omega
        · rfl
  exact key (lev n + 1) n (by omega) hn hn2
/-- the way back is measured -/
def Wk1 (t : Nat) (F f : Nat → Int32) (R : Int32) (lev : Nat → Nat) (i n : Nat) (w : Int) : Prop := n = pIt f t i ∧ n < 12 ∧ bt R n = true ∧ lev n + i ≤ 11 ∧ 1 ≤ w ∧ ∀ k, k < i → w ≤ (F (12 * pIt f t (k + 1) + pIt f t k)).toInt
theorem Wk1.start {s t : Nat} {F f : Nat → Int32} {R : Int32} {lev : Nat → Nat} {i n : Nat} {w : Int} (h : RcL s F f R lev) (ht : t < 12) (hR : bt R t = true) (hi : i = 0) (hn : n = t) (hw : 1 ≤ w) : Wk1 t F f R lev i n w := by
  subst hi hn
  have h1 := h.2.1 n ht hR
  have h2 := cntB_le (bt R) 12
  exact ⟨rfl, ht, hR, by omega, hw, fun k hk => absurd hk (Nat.not_lt_zero k)⟩
theorem Wk1.at {s t : Nat} {F f : Nat → Int32} {R : Int32} {lev : Nat → Nat} {i n : Nat} {w : Int} (h : Wk1 t F f R lev i n w) (hL : RcL s F f R lev) (hs : n ≠ s) : (f n).toInt.toNat < 12 ∧ 0 ≤ (f n).toInt ∧ bt R (f n).toInt.toNat = true ∧ lev (f n).toInt.toNat < lev n ∧ 0 < (F (12 * (f n).toInt.toNat + n)).toInt := (hL.1 n h.2.1 h.2.2.1).resolve_left hs
theorem Wk1.step {s t : Nat} {F f : Nat → Int32} {R : Int32} {lev : Nat → Nat} {i i2 n n2 : Nat} {w w2 : Int} (h : Wk1 t F f R lev i n w) (hL : RcL s F f R lev) (hs : n ≠ s) (hn : n2 = (f n).toInt.toNat) (hi : i2 = i + 1) (h1 : w2 ≤ w) (h2 : w2 ≤ (F (12 * n2 + n)).toInt) (h3 : 1 ≤ w2) : Wk1 t F f R lev i2 n2 w2 := by
  have ha := h.at hL hs
  obtain ⟨b1, b2, b3, b4, b5, b6⟩ := h
  subst hi
  have e : pIt f t (i + 1) = n2 := by
    show (f (pIt f t i)).toInt.toNat = n2
    rw [← b1, hn]
  rw [← hn] at ha
  refine ⟨e.symm, ha.1, ha.2.2.1, by omega, h3, fun k hk => ?_⟩
  by_cases e2 : k = i
  · subst e2
    rw [e, ← b1]
    exact h2
  · have := b6 k (by omega)
    omega
theorem Wk1.stop {t : Nat} {F f : Nat → Int32} {R : Int32} {lev : Nat → Nat} {i n : Nat} {w : Int} (h : Wk1 t F f R lev i n w) (hi : 12 ≤ i) : False := by
  have := h.2.2.2.1
  omega
/-- the way back is used -/
def Wk2 (t : Nat) (F f F2 : Nat → Int32) (R : Int32) (lev : Nat → Nat) (w : Int) (I0 i n : Nat) : Prop := n = pIt f t i ∧ n < 12 ∧ bt R n = true ∧ lev n + i ≤ 11 ∧ i ≤ I0 ∧ (∀ q, q < 144 → 0 ≤ (F2 q).toInt) ∧ (∀ S, rsM (fI F2) S 144 = rsM (fI F) S 144 - (sW S n w - sW S t w)) ∧ ∀ x y, x < 12 → y < 12 → lev x ≤ lev n → lev y ≤ lev n → F2 (12 * x + y) = F (12 * x + y)
theorem Wk2.start {s t : Nat} {F f : Nat → Int32} {R : Int32} {lev : Nat → Nat} {w : Int} {I0 i n : Nat} (h : RcL s F f R lev) (ht : t < 12) (hR : bt R t = true) (hF : ∀ q, q < 144 → 0 ≤ (F q).toInt) (hi : i = 0) (hn : n = t) : Wk2 t F f F R lev w I0 i n := by
  subst hi hn
  have h1 := h.2.1 n ht hR
  have h2 := cntB_le (bt R) 12
  exact ⟨rfl, ht, hR, by omega, Nat.zero_le _, hF, fun S => by omega, fun _ _ _ _ _ _ => rfl⟩
theorem Wk2.at {s t : Nat} {F f F2 : Nat → Int32} {R : Int32} {lev : Nat → Nat} {w : Int} {I0 i n : Nat} (h : Wk2 t F f F2 R lev w I0 i n) (hL : RcL s F f R lev) (hs : n ≠ s) : (f n).toInt.toNat < 12 ∧ 0 ≤ (f n).toInt ∧ bt R (f n).toInt.toNat = true ∧ lev (f n).toInt.toNat < lev n ∧ 0 < (F (12 * (f n).toInt.toNat + n)).toInt := (hL.1 n h.2.1 h.2.2.1).resolve_left hs
theorem Wk2.wid {s t : Nat} {F f F2 : Nat → Int32} {R : Int32} {lev : Nat → Nat} {w : Int} {I0 i n m : Nat} (h : Wk2 t F f F2 R lev w I0 i n) (hL : RcL s F f R lev) (h1 : Wk1 t F f R lev I0 m w) (hm : m = s) (hs : n ≠ s) : w ≤ (F2 (12 * (f n).toInt.toNat + n)).toInt := by
  have ha := h.at hL hs
  obtain ⟨b1, b2, b3, b4, b5, b6, b7, b8⟩ := h
  rw [b8 _ _ ha.1 b2 (by omega) (Nat.le_refl _)]
  have hi : i ≠ I0 := fun e => hs (by rw [b1, e, ← h1.1, hm])
  have h9 := h1.2.2.2.2.2 i (by omega)
  have e : pIt f t (i + 1) = (f n).toInt.toNat := by
    show (f (pIt f t i)).toInt.toNat = _
    rw [← b1]
  rw [e, ← b1] at h9
  exact h9
theorem Wk2.hi {d : NtD} {s t : Nat} {F f F2 : Nat → Int32} {R : Int32} {lev : Nat → Nat} {w v : Int} {I0 i n : Nat} (h : Wk2 t F f F2 R lev w I0 i n) (hI : mI d s t F v) (hr : tRm d) (h0 : 0 ≤ d.1) (h40 : d.1 ≤ 40) (hv : 0 ≤ v) (hv2 : v ≤ 40000) (hw : 0 ≤ w) {p : Nat} (hp : p < 12) (hpn : p ≠ n) : (F2 (12 * n + p)).toInt ≤ 80000 := by
  obtain ⟨b1, b2, b3, b4, b5, b6, b7, b8⟩ := h
  have c1 := cell_d (x := n) (y := p) hp
  have h1 := rsM_cell (F := fI F2) (S := fun q => decide (q = n)) (q := 12 * n + p) (by rw [c1.1]; exact decide_eq_true rfl) (by rw [c1.2]; exact decide_eq_false hpn) (m := 144) b6 (by omega)
  have h2 := b7 (fun q => decide (q = n))
  rw [sW_in (decide_eq_true rfl)] at h2
  have h3 := hI.hi hr h0 h40 hv hv2 (fun q => decide (q = n))
  have h4 := sW_bd (fun q => decide (q = n)) t hw
  show fI F2 (12 * n + p) ≤ 80000
  omega
theorem Wk2.step {s t : Nat} {F f F2 F3 F4 : Nat → Int32} {R : Int32} {lev : Nat → Nat} {w : Int} {I0 i i2 n n2 m c e : Nat} {x y : Int32} (h : Wk2 t F f F2 R lev w I0 i n) (hL : RcL s F f R lev) (h1 : Wk1 t F f R lev I0 m w) (hm : m = s) (hs : n ≠ s) (hn : n2 = (f n).toInt.toNat) (hi : i2 = i + 1) (hc : c = 12 * n2 + n) (he : e = 12 * n + n2) (hF3 : F3 = upd F2 c x) (hx : x.toInt = (F2 c).toInt - w) (hF4 : F4 = upd F3 e y) (hy : y.toInt = (F3 e).toInt + w) : Wk2 t F f F4 R lev w I0 i2 n2 := by
  have ha := h.at hL hs
  have hwd := h.wid hL h1 hm hs
  have hi9 : i ≠ I0 := fun e9 => hs (by rw [h.1, e9, ← h1.1, hm])
  have hw1 := h1.2.2.2.2.1
  obtain ⟨b1, b2, b3, b4, b5, b6, b7, b8⟩ := h
  rw [← hn] at ha hwd
  have hne : n2 ≠ n := fun e9 => by have h9 := ha.2.2.2.1; rw [e9] at h9; omega
  have hce : e ≠ c := by omega
  have h3 : ∀ q, q ≠ c → F3 q = F2 q := fun q h9 => by rw [hF3]; exact if_neg h9
  have h3c : F3 c = x := by rw [hF3]; exact if_pos rfl
  have h4 : ∀ q, q ≠ e → F4 q = F3 q := fun q h9 => by rw [hF4]; exact if_neg h9
  have h4e : F4 e = y := by rw [hF4]; exact if_pos rfl
  have e1 : pIt f t (i + 1) = n2 := by
    show (f (pIt f t i)).toInt.toNat = n2
    rw [← b1, hn]
  subst hi
  refine ⟨e1.symm, ha.1, ha.2.2.1, by omega, by omega, fun q hq => ?_, fun S => ?_, fun x9 y9 k1 k2 k3 k4 => ?_⟩
  · have h9 := b6 q hq
    by_cases q1 : q = e
    · rw [q1, h4e, hy, h3 e hce]
      have := b6 e (by omega)
      omega
    · rw [h4 q q1]
      by_cases q2 : q = c
      · rw [q2, h3c, hx, hc]
        omega
      · rw [h3 q q2]; exact h9
  · have m1 := rsM_put (F := fI F2) (G := fI F3) (S := S) (q := c) (k := -w) (m := 144) (by omega) (by show (F3 c).toInt = (F2 c).toInt + -w; rw [h3c, hx]; omega) (fun p hp => by show (F3 p).toInt = (F2 p).toInt; rw [h3 p hp])
    have m2 := rsM_put (F := fI F3) (G := fI F4) (S := S) (q := e) (k := w) (m := 144) (by omega) (by show (F4 e).toInt = (F3 e).toInt + w; rw [h4e, hy]) (fun p hp => by show (F4 p).toInt = (F3 p).toInt; rw [h4 p hp])
    have c1 := cell_d (x := n2) (y := n) b2
    have c2 := cell_d (x := n) (y := n2) ha.1
    rw [hc, c1.1, c1.2] at m1
    rw [he, c2.1, c2.2] at m2
    have m3 := mB_two (S n2) (S n) w
    have m4 := b7 S
    unfold sW at m4 ⊢
    omega
  · have hle := ha.2.2.2.1
    have q1 : 12 * x9 + y9 ≠ e := fun e9 => by
      have hx9 : x9 = n := by omega
      rw [hx9] at k3
      omega
    have q2 : 12 * x9 + y9 ≠ c := fun e9 => by
      have hy9 : y9 = n := by omega
      rw [hy9] at k4
      omega
    rw [h4 _ q1, h3 _ q2]
    exact b8 x9 y9 k1 k2 (by omega) (by omega)
theorem Wk2.stop {t : Nat} {F f F2 : Nat → Int32} {R : Int32} {lev : Nat → Nat} {w : Int} {I0 i n : Nat} (h : Wk2 t F f F2 R lev w I0 i n) (hi : 12 ≤ i) : False := by
  have := h.2.2.2.1
  omega
theorem Wk2.done {d : NtD} {s t : Nat} {F f F2 : Nat → Int32} {R : Int32} {lev : Nat → Nat} {w v v2 : Int} {I0 i n : Nat} (h : Wk2 t F f F2 R lev w I0 i n) (hI : mI d s t F v) (hn : n = s) (hv : v2 = v + w) : mI d s t F2 v2 := by
  obtain ⟨b1, b2, b3, b4, b5, b6, b7, b8⟩ := h
  refine ⟨b6, fun S => ?_⟩
  rw [b7 S, hI.2 S, hn, hv, sW_add, sW_add]
  omega
theorem mI.cell {d : NtD} {s t : Nat} {F : Nat → Int32} {v : Int} (h : mI d s t F v) (hr : tRm d) (h0 : 0 ≤ d.1) (h40 : d.1 ≤ 40) (hv : 0 ≤ v) (hv2 : v ≤ 40000) {p n : Nat} (hp : p < 12) (hn : n < 12) (hpn : p ≠ n) : (F (12 * p + n)).toInt ≤ 80000 := by
  have c1 := cell_d (x := p) (y := n) hn
  have h1 := rsM_cell (F := fI F) (S := fun q => decide (q = p)) (q := 12 * p + n) (by rw [c1.1]; exact decide_eq_true rfl) (by rw [c1.2]; exact decide_eq_false (Ne.symm hpn)) (m := 144) h.1 (by omega)
  have h3 := h.hi hr h0 h40 hv hv2 (fun q => decide (q = p))
  show fI F (12 * p + n) ≤ 80000
  omega
theorem Wk1.w80 {d : NtD} {s t : Nat} {F f : Nat → Int32} {R : Int32} {lev : Nat → Nat} {I0 m : Nat} {w v : Int} (h : Wk1 t F f R lev I0 m w) (hL : RcL s F f R lev) (hR : bt R t = true) (ht : t < 12) (hI : mI d s t F v) (hr : tRm d) (h0 : 0 ≤ d.1) (h40 : d.1 ≤ 40) (hv : 0 ≤ v) (hv2 : v ≤ 40000) (hm : m = s) (hts : t ≠ s) : w ≤ 80000 := by
  obtain ⟨b1, b2, b3, b4, b5, b6⟩ := h
  have hi : I0 ≠ 0 := fun e => hts (by rw [e] at b1; rw [← hm, b1]; rfl)
  have h1 := b6 0 (by omega)
  have ha := (hL.1 t ht hR).resolve_left hts
  have h2 := hI.cell hr h0 h40 hv hv2 (p := (f t).toInt.toNat) (n := t) ha.1 ht (fun e => by have h9 := ha.2.2.2.1; rw [e] at h9; omega)
  have h3 : w ≤ (F (12 * (f t).toInt.toNat + t)).toInt := h1
  omega
end
section
theorem dX2_reach_0 : decode cX2_reach 0 = .ok (.aload_n 0, 1) := dk_42 (by decide +kernel)
theorem dX2_reach_1 : decode cX2_reach 1 = .ok (.iconst 1, 1) := dk_4 (by decide +kernel)
theorem dX2_reach_2 : decode cX2_reach 2 = .ok (.iload_n 1, 1) := dk_27 (by decide +kernel)
theorem dX2_reach_3 : decode cX2_reach 3 = .ok (.ishl, 1) := dk_120 (by decide +kernel)
theorem dX2_reach_4 : decode cX2_reach 4 = .ok (.putfield 67, 3) := dk_181 (by decide +kernel)
theorem dX2_reach_7 : decode cX2_reach 7 = .ok (.aload_n 0, 1) := dk_42 (by decide +kernel)
theorem dX2_reach_8 : decode cX2_reach 8 = .ok (.getfield 67, 3) := dk_180 (by decide +kernel)
theorem dX2_reach_11 : decode cX2_reach 11 = .ok (.istore_n 3, 1) := dk_62 (by decide +kernel)
theorem dX2_reach_12 : decode cX2_reach 12 = .ok (.iconst 0, 1) := dk_3 (by decide +kernel)
theorem dX2_reach_13 : decode cX2_reach 13 = .ok (.istore 4, 2) := dk_54 (by decide +kernel)
theorem dX2_reach_15 : decode cX2_reach 15 = .ok (.iload 4, 2) := dk_21 (by decide +kernel)
theorem dX2_reach_17 : decode cX2_reach 17 = .ok (.bipush 12, 2) := dk_16 (by decide +kernel)
theorem dX2_reach_19 : decode cX2_reach 19 = .ok (.if_icmp .ge 119, 3) := dk_162 (by decide +kernel)
theorem dX2_reach_22 : decode cX2_reach 22 = .ok (.iload_n 3, 1) := dk_29 (by decide +kernel)
theorem dX2_reach_23 : decode cX2_reach 23 = .ok (.ifCond .eq 115, 3) := dk_153 (by decide +kernel)
theorem dX2_reach_26 : decode cX2_reach 26 = .ok (.iconst 0, 1) := dk_3 (by decide +kernel)
theorem dX2_reach_27 : decode cX2_reach 27 = .ok (.istore 5, 2) := dk_54 (by decide +kernel)
theorem dX2_reach_29 : decode cX2_reach 29 = .ok (.iconst 0, 1) := dk_3 (by decide +kernel)
theorem dX2_reach_30 : decode cX2_reach 30 = .ok (.istore 6, 2) := dk_54 (by decide +kernel)
theorem dX2_reach_32 : decode cX2_reach 32 = .ok (.iload 6, 2) := dk_21 (by decide +kernel)
theorem dX2_reach_34 : decode cX2_reach 34 = .ok (.bipush 12, 2) := dk_16 (by decide +kernel)
theorem dX2_reach_36 : decode cX2_reach 36 = .ok (.if_icmp .ge 93, 3) := dk_162 (by decide +kernel)
theorem dX2_reach_39 : decode cX2_reach 39 = .ok (.iconst 0, 1) := dk_3 (by decide +kernel)
theorem dX2_reach_40 : decode cX2_reach 40 = .ok (.istore 7, 2) := dk_54 (by decide +kernel)
theorem dX2_reach_42 : decode cX2_reach 42 = .ok (.iload 7, 2) := dk_21 (by decide +kernel)
theorem dX2_reach_44 : decode cX2_reach 44 = .ok (.bipush 12, 2) := dk_16 (by decide +kernel)
theorem dX2_reach_46 : decode cX2_reach 46 = .ok (.if_icmp .ge 77, 3) := dk_162 (by decide +kernel)
theorem dX2_reach_49 : decode cX2_reach 49 = .ok (.iload_n 3, 1) := dk_29 (by decide +kernel)
theorem dX2_reach_50 : decode cX2_reach 50 = .ok (.iload 6, 2) := dk_21 (by decide +kernel)
theorem dX2_reach_52 : decode cX2_reach 52 = .ok (.ishr, 1) := dk_122 (by decide +kernel)
theorem dX2_reach_53 : decode cX2_reach 53 = .ok (.iconst 1, 1) := dk_4 (by decide +kernel)
theorem dX2_reach_54 : decode cX2_reach 54 = .ok (.iand, 1) := dk_126 (by decide +kernel)
theorem dX2_reach_55 : decode cX2_reach 55 = .ok (.ifCond .eq 68, 3) := dk_153 (by decide +kernel)
theorem dX2_reach_58 : decode cX2_reach 58 = .ok (.aload_n 0, 1) := dk_42 (by decide +kernel)
theorem dX2_reach_59 : decode cX2_reach 59 = .ok (.getfield 67, 3) := dk_180 (by decide +kernel)
theorem dX2_reach_62 : decode cX2_reach 62 = .ok (.iload 7, 2) := dk_21 (by decide +kernel)
theorem dX2_reach_64 : decode cX2_reach 64 = .ok (.ishr, 1) := dk_122 (by decide +kernel)
theorem dX2_reach_65 : decode cX2_reach 65 = .ok (.iconst 1, 1) := dk_4 (by decide +kernel)
theorem dX2_reach_66 : decode cX2_reach 66 = .ok (.iand, 1) := dk_126 (by decide +kernel)
theorem dX2_reach_67 : decode cX2_reach 67 = .ok (.ifCond .ne 50, 3) := dk_154 (by decide +kernel)
theorem dX2_reach_70 : decode cX2_reach 70 = .ok (.aload_n 0, 1) := dk_42 (by decide +kernel)
theorem dX2_reach_71 : decode cX2_reach 71 = .ok (.getfield 24, 3) := dk_180 (by decide +kernel)
theorem dX2_reach_74 : decode cX2_reach 74 = .ok (.iload 6, 2) := dk_21 (by decide +kernel)
theorem dX2_reach_76 : decode cX2_reach 76 = .ok (.bipush 12, 2) := dk_16 (by decide +kernel)
theorem dX2_reach_78 : decode cX2_reach 78 = .ok (.imul, 1) := dk_104 (by decide +kernel)
theorem dX2_reach_79 : decode cX2_reach 79 = .ok (.iload 7, 2) := dk_21 (by decide +kernel)
theorem dX2_reach_81 : decode cX2_reach 81 = .ok (.iadd, 1) := dk_96 (by decide +kernel)
theorem dX2_reach_82 : decode cX2_reach 82 = .ok (.iaload, 1) := dk_46 (by decide +kernel)
theorem dX2_reach_83 : decode cX2_reach 83 = .ok (.ifCond .le 34, 3) := dk_158 (by decide +kernel)
theorem dX2_reach_86 : decode cX2_reach 86 = .ok (.aload_n 0, 1) := dk_42 (by decide +kernel)
theorem dX2_reach_87 : decode cX2_reach 87 = .ok (.getfield 27, 3) := dk_180 (by decide +kernel)
theorem dX2_reach_90 : decode cX2_reach 90 = .ok (.iload 7, 2) := dk_21 (by decide +kernel)
theorem dX2_reach_92 : decode cX2_reach 92 = .ok (.iload 6, 2) := dk_21 (by decide +kernel)
theorem dX2_reach_94 : decode cX2_reach 94 = .ok (.iastore, 1) := dk_79 (by decide +kernel)
theorem dX2_reach_95 : decode cX2_reach 95 = .ok (.aload_n 0, 1) := dk_42 (by decide +kernel)
theorem dX2_reach_96 : decode cX2_reach 96 = .ok (.dup, 1) := dk_89 (by decide +kernel)
theorem dX2_reach_97 : decode cX2_reach 97 = .ok (.getfield 67, 3) := dk_180 (by decide +kernel)
theorem dX2_reach_100 : decode cX2_reach 100 = .ok (.iconst 1, 1) := dk_4 (by decide +kernel)
theorem dX2_reach_101 : decode cX2_reach 101 = .ok (.iload 7, 2) := dk_21 (by decide +kernel)
theorem dX2_reach_103 : decode cX2_reach 103 = .ok (.ishl, 1) := dk_120 (by decide +kernel)
theorem dX2_reach_104 : decode cX2_reach 104 = .ok (.ior, 1) := dk_128 (by decide +kernel)
theorem dX2_reach_105 : decode cX2_reach 105 = .ok (.putfield 67, 3) := dk_181 (by decide +kernel)
theorem dX2_reach_108 : decode cX2_reach 108 = .ok (.iload 5, 2) := dk_21 (by decide +kernel)
theorem dX2_reach_110 : decode cX2_reach 110 = .ok (.iconst 1, 1) := dk_4 (by decide +kernel)
theorem dX2_reach_111 : decode cX2_reach 111 = .ok (.iload 7, 2) := dk_21 (by decide +kernel)
theorem dX2_reach_113 : decode cX2_reach 113 = .ok (.ishl, 1) := dk_120 (by decide +kernel)
theorem dX2_reach_114 : decode cX2_reach 114 = .ok (.ior, 1) := dk_128 (by decide +kernel)
theorem dX2_reach_115 : decode cX2_reach 115 = .ok (.istore 5, 2) := dk_54 (by decide +kernel)
theorem dX2_reach_117 : decode cX2_reach 117 = .ok (.iinc 7 1, 3) := dk_132 (by decide +kernel)
theorem dX2_reach_120 : decode cX2_reach 120 = .ok (.goto (-78), 3) := dk_167 (by decide +kernel)
theorem dX2_reach_123 : decode cX2_reach 123 = .ok (.iinc 6 1, 3) := dk_132 (by decide +kernel)
theorem dX2_reach_126 : decode cX2_reach 126 = .ok (.goto (-94), 3) := dk_167 (by decide +kernel)
theorem dX2_reach_129 : decode cX2_reach 129 = .ok (.iload 5, 2) := dk_21 (by decide +kernel)
theorem dX2_reach_131 : decode cX2_reach 131 = .ok (.istore_n 3, 1) := dk_62 (by decide +kernel)
theorem dX2_reach_132 : decode cX2_reach 132 = .ok (.iinc 4 1, 3) := dk_132 (by decide +kernel)
theorem dX2_reach_135 : decode cX2_reach 135 = .ok (.goto (-120), 3) := dk_167 (by decide +kernel)
theorem dX2_reach_138 : decode cX2_reach 138 = .ok (.aload_n 0, 1) := dk_42 (by decide +kernel)
theorem dX2_reach_139 : decode cX2_reach 139 = .ok (.getfield 67, 3) := dk_180 (by decide +kernel)
theorem dX2_reach_142 : decode cX2_reach 142 = .ok (.iload_n 2, 1) := dk_28 (by decide +kernel)
theorem dX2_reach_143 : decode cX2_reach 143 = .ok (.ishr, 1) := dk_122 (by decide +kernel)
theorem dX2_reach_144 : decode cX2_reach 144 = .ok (.iconst 1, 1) := dk_4 (by decide +kernel)
theorem dX2_reach_145 : decode cX2_reach 145 = .ok (.iand, 1) := dk_126 (by decide +kernel)
theorem dX2_reach_146 : decode cX2_reach 146 = .ok (.ifCond .eq 7, 3) := dk_153 (by decide +kernel)
theorem dX2_reach_149 : decode cX2_reach 149 = .ok (.iconst 1, 1) := dk_4 (by decide +kernel)
theorem dX2_reach_150 : decode cX2_reach 150 = .ok (.goto 4, 3) := dk_167 (by decide +kernel)
theorem dX2_reach_153 : decode cX2_reach 153 = .ok (.iconst 0, 1) := dk_3 (by decide +kernel)
theorem dX2_reach_154 : decode cX2_reach 154 = .ok (.ireturn, 1) := dk_172 (by decide +kernel)
def wsMX2_reach : List Cond := .code yX2_reach cX2_reach 8 (some .boolean) :: ([.fieldLink RX2 67 "OptimaWorks$NetDesk" "reached" "I", .fieldLink RX2 24 "OptimaWorks$NetDesk" "free" "[I", .fieldLink RX2 27 "OptimaWorks$NetDesk" "before" "[I"] ++ wsX20)
theorem iwsMX2_reach_in2 : ∀ w ∈ wsX20, w ∈ wsMX2_reach := fun _ h => List.mem_cons_of_mem _ (List.mem_append_right _ h)
theorem gdwsMX2_reach : wsMX2_reach.all goodWord = true := gdC rfl (gdA (by decide +kernel : ([.fieldLink RX2 67 "OptimaWorks$NetDesk" "reached" "I", .fieldLink RX2 24 "OptimaWorks$NetDesk" "free" "[I", .fieldLink RX2 27 "OptimaWorks$NetDesk" "before" "[I"] : List Cond).all goodWord = true) gdwsX20)
theorem hm_m_X2_reach_0 : (.fieldLink RX2 67 "OptimaWorks$NetDesk" "reached" "I" : Cond) ∈ wsMX2_reach := by decide +kernel
set_option maxHeartbeats 4000000 in
set_option maxRecDepth 100000 in
/-- what can be reached -/
theorem m_X2_reach (l : Launch) (dC : Nat → ClassId) (dI : Nat → Nat → Nat) (hN : Nat → Nat) (aN : Nat → Nat) (kN : Nat → ClassId) (iN_arcs : Int32) (fN_from : Nat → Int32) (fN_to : Nat → Int32) (fN_room : Nat → Int32) (fN_cost : Nat → Int32) (iN_reached : Int32) (fN_free : Nat → Int32) (fN_before : Nat → Int32) (fN_flow : Nat → Int32) (fN_length : Nat → Int32) (fN_stop : Nat → Int32) (iN_stops : Int32) (fN_price : Nat → Int32) (fN_rest : Nat → Int32) (p1 : Int32) (p2 : Int32) (b_iN_arcs : 0 ≤ iN_arcs.toInt ∧ iN_arcs.toInt ≤ 40) (b_fN_from : ∀ q : Nat, 0 ≤ (fN_from q).toInt ∧ (fN_from q).toInt ≤ 11) (b_fN_to : ∀ q : Nat, 0 ≤ (fN_to q).toInt ∧ (fN_to q).toInt ≤ 11) (b_fN_before : ∀ q : Nat, 0 ≤ (fN_before q).toInt ∧ (fN_before q).toInt ≤ 79) (b_fN_stop : ∀ q : Nat, 0 ≤ (fN_stop q).toInt ∧ (fN_stop q).toInt ≤ 11) (b_iN_stops : 0 ≤ iN_stops.toInt ∧ iN_stops.toInt ≤ 8) (b_p1 : 0 ≤ p1.toInt ∧ p1.toInt ≤ 11) (b_p2 : 0 ≤ p2.toInt ∧ p2.toInt ≤ 11) (sz : Nat) : Met l yX2_reach wsMX2_reach ({ frames := 0, cells := 0, slots := 0, locals := 0 }) (va_Pc [.ref (hN 0), .int p1, .int p2] (fun U => U.heap.size = sz ∧ va_P (dC, dI) vwCl (WN hN aN kN iN_arcs fN_from fN_to fN_room fN_cost iN_reached fN_free fN_before fN_flow fN_length fN_stop iN_stops fN_price fN_rest) U.heap ∧ va_K (dC, dI) vwCl (tN kN) U ∧ va_D (fun _ => True) (WN hN aN kN iN_arcs fN_from fN_to fN_room fN_cost iN_reached fN_free fN_before fN_flow fN_length fN_stop iN_stops fN_price fN_rest))) (va_Qi (fun (r : Int32) (u : (Int32) × (Nat → Int32)) => (∀ q : Nat, 0 ≤ ((u.2) q).toInt ∧ ((u.2) q).toInt ≤ 79) ∧ (0 ≤ r.toInt ∧ r.toInt ≤ 1) ∧ (RB p1.toInt (u.1) (u.2)) ∧ (r.toInt ≠ 0 → bt (u.1) p2.toInt.toNat = true) ∧ (RE p1.toInt.toNat fN_free (u.2) (u.1)) ∧ (r.toInt = 0 → bt (u.1) p2.toInt.toNat = false)) (fun (u : (Int32) × (Nat → Int32)) t => va_P (dC, dI) vwCl (WN hN aN kN iN_arcs fN_from fN_to fN_room fN_cost (u.1) fN_free (u.2) fN_flow fN_length fN_stop iN_stops fN_price fN_rest) t.heap ∧ va_D (va_A (WN hN aN kN iN_arcs fN_from fN_to fN_room fN_cost iN_reached fN_free fN_before fN_flow fN_length fN_stop iN_stops fN_price fN_rest) sz) (WN hN aN kN iN_arcs fN_from fN_to fN_room fN_cost (u.1) fN_free (u.2) fN_flow fN_length fN_stop iN_stops fN_price fN_rest)) (va_A (WN hN aN kN iN_arcs fN_from fN_to fN_room fN_cost iN_reached fN_free fN_before fN_flow fN_length fN_stop iN_stops fN_price fN_rest) sz)) 0 0 (va_A (WN hN aN kN iN_arcs fN_from fN_to fN_room fN_cost iN_reached fN_free fN_before fN_flow fN_length fN_stop iN_stops fN_price fN_rest) sz) := by
  refine Met.ofW (cc := cX2_reach) (maxL := 8) (ret := (some .boolean)) (by decide) rfl ?_
  intro p e s m args below meth c s₁ B hml hv
  obtain ⟨rfl, hsz, hP, hK, hD0⟩ := hv
  have hx := B.exec
  have hb := B.bytes
  have hr := B.returns
  have hts := atoms_spec (ws := wsMX2_reach) B.pre
  have hown : s.vm.findClass RX2 = some m.cls := findClass_of_methodNamed B.named
  have hlocks := B.notSynchronized
  subst hsz
  have hD := hD0.self (sz := s.heap.size)
  generalize hAe : va_A (WN hN aN kN iN_arcs fN_from fN_to fN_room fN_cost iN_reached fN_free fN_before fN_flow fN_length fN_stop iN_stops fN_price fN_rest) s.heap.size = A at hD ⊢
  have hA : ∀ q : Nat, s.heap.size ≤ q → A q := fun q h => by rw [← hAe]; exact Or.inr h
  have hS : va_S A s.heap s.heap [] := va_S.rf
  have hl := lv_entry ([.ref (hN 0), .int p1, .int p2]) (n := 8) (Nat.le_of_ble_eq_true rfl)
  rw [lg_entry_eq]
  generalize (lg_sl ([.ref (hN 0), .int p1, .int p2]) ++ List.replicate (8 - (lg_sl ([.ref (hN 0), .int p1, .int p2])).length) Slot.unset).toArray = ls at hl ⊢
  have hl : lv_has ls 8 [(0, .ref (hN 0)), (1, .int p1), (2, .int p2)] := hl
  refine lv_aload_n hx hb dX2_reach_0 rfl (lv_at hl 0 rfl) ?_
  refine lv_iconst (v := 1) hx hb dX2_reach_1 (by decide) ?_
  refine lv_iload_n hx hb dX2_reach_2 rfl (lv_at hl 1 rfl) ?_
  refine lv_ishl hx hb dX2_reach_3 ?_
  refine lv_topi (fun v1 hv1 => ?_)
  have b_v1 : v1 = (1 : Int32) <<< (p1 &&& 31) := hv1
  clear hv1
  refine va_put (D := (dC, dI)) (ci := 2) (v := .int v1) (ty := .int) (C := RX2) (T := TX2) (N := 14) hx hb hts iwsMX2_reach_in2 tyX2 tyX2_ok nmX2 hown hK hP hD hS 0 rfl rfl 5 (by decide) (hts _ hm_m_X2_reach_0) (fun _ h9 => h9) rfl (by decide +kernel) rfl rfl (Nat.le_of_ble_eq_true rfl) dX2_reach_4 (fun H locs hP hD hS => ?_)
  have hP : va_P (dC, dI) vwCl (WN hN aN kN iN_arcs fN_from fN_to fN_room fN_cost v1 fN_free fN_before fN_flow fN_length fN_stop iN_stops fN_price fN_rest) H := hP
  have hD := fz_sd hP (hD) rfl
  refine lv_aload_n hx hb dX2_reach_7 rfl (lv_at hl 0 rfl) ?_
  refine va_get (D := (dC, dI)) (ci := 2) (v := .int v1) (C := RX2) (T := TX2) (N := 14) hx hb hts iwsMX2_reach_in2 hown hK hP 0 rfl rfl 5 (by decide) (hts _ hm_m_X2_reach_0) (fun _ h9 => h9) rfl dX2_reach_8 ?_
  refine lv_istore_n hx hb dX2_reach_11 rfl hl (by decide) rfl (fun ls (hl : lv_has ls _ ([(3, .int v1), (0, .ref (hN 0)), (1, .int p1), (2, .int p2)])) => ?_)
  refine lv_iconst (v := 0) hx hb dX2_reach_12 (by decide) ?_
  refine lv_istore hx hb dX2_reach_13 hl (by decide) rfl (fun ls (hl : lv_has ls _ ([(4, .int 0), (3, .int v1), (0, .ref (hN 0)), (1, .int p1), (2, .int p2)])) => ?_)
  have hl : lv_has _ _ ([(4, .int 0), (3, .int v1), (0, .ref (hN 0)), (1, .int p1), (2, .int p2)]) := lv_sub hl [0, 1, 2, 3, 4] rfl
  refine (fun (loop : ∀ (n9 : Nat) (iN_reached_x15 : Int32) (fN_before_x15 : Nat → Int32) (l4_x15 : Int32) (l3_x15 : Int32) (H : Heap) (locs : List Loc) (ls : Array Slot), (∀ q : Nat, 0 ≤ (fN_before_x15 q).toInt ∧ (fN_before_x15 q).toInt ≤ 79) → (0 ≤ l4_x15.toInt ∧ l4_x15.toInt ≤ 12) → (RB p1.toInt iN_reached_x15 fN_before_x15) → (SubB l3_x15 iN_reached_x15) → (RQ1 p1.toInt.toNat fN_free fN_before_x15 iN_reached_x15 l3_x15 l4_x15.toInt) → (12 - l4_x15.toInt < ((n9 : Nat) : Int)) → va_P (dC, dI) vwCl (WN hN aN kN iN_arcs fN_from fN_to fN_room fN_cost iN_reached_x15 fN_free fN_before_x15 fN_flow fN_length fN_stop iN_stops fN_price fN_rest) H → va_D A (WN hN aN kN iN_arcs fN_from fN_to fN_room fN_cost iN_reached_x15 fN_free fN_before_x15 fN_flow fN_length fN_stop iN_stops fN_price fN_rest) → va_S A s.heap H locs → lv_has ls 8 [(4, .int l4_x15), (3, .int l3_x15), (0, .ref (hN 0)), (1, .int p1), (2, .int p2)] → W p l e _ s m _ below meth c H locs 0 0 _ (F0 m 15 ls [])) => loop (13) v1 fN_before 0 v1 _ _ _ b_fN_before (show 0 ≤ (0 : Int32).toInt ∧ (0 : Int32).toInt ≤ 12 from by decide) (show RB p1.toInt v1 fN_before from by first | assumption | exact RB.first rfl (by omega) (by omega) (by assumption) | exact RB.more hRB hSE (by assumption) (by assumption) (by assumption) (by assumption) (by omega) (by omega) (by omega) (by omega)) (show SubB v1 v1 from by first | assumption | exact SubB.refl _ | exact SubB.zero _ | exact hSF | exact SubB.grow hSE (by assumption)) (show RQ1 p1.toInt.toNat fN_free fN_before v1 v1 (0 : Int32).toInt from RQ1.first (p := p1) (by omega) (by omega) rfl (by assumption) rfl (by decide)) ((by have e9 : (0 : Int32).toInt = 0 := (by decide : (0 : Int32).toInt = 0); omega)) hP hD hS hl) ?_
  intro n9
  induction n9 with
  | zero => intro iN_reached_x15 fN_before_x15 l4_x15 l3_x15 H locs ls b_fN_before_x15 b_l4_x15 hRB hSE hQ1 hf9; exact False.elim (by omega)
  | succ n9 ihx15 =>
    intro iN_reached_x15 fN_before_x15 l4_x15 l3_x15 H locs ls b_fN_before_x15 b_l4_x15 hRB hSE hQ1 hfx15 hP hD hS hl
    refine lv_iload hx hb dX2_reach_15 (lv_at hl 0 rfl) ?_
    refine lv_bipush (v := 12) hx hb dX2_reach_17 (by decide) ?_
    refine W.cut (pc := 138) (fun H locs ls stk => (12 ≤ l4_x15.toInt ∨ l3_x15.toInt = 0) ∧  stk = [] ∧ va_P (dC, dI) vwCl (WN hN aN kN iN_arcs fN_from fN_to fN_room fN_cost iN_reached_x15 fN_free fN_before_x15 fN_flow fN_length fN_stop iN_stops fN_price fN_rest) H ∧ va_D A (WN hN aN kN iN_arcs fN_from fN_to fN_room fN_cost iN_reached_x15 fN_free fN_before_x15 fN_flow fN_length fN_stop iN_stops fN_price fN_rest) ∧ va_S A s.heap H locs ∧ lv_has ls 8 [(4, .int l4_x15), (3, .int l3_x15), (0, .ref (hN 0)), (1, .int p1), (2, .int p2)]) (fun join119 => ?_) ?_
    · refine lv_icmp_ge (tgt := 138) hx hb dX2_reach_19 (by decide) (fun c_19 => ?_) (fun c_19 => ?_)
      · have t_19 : l4_x15.toInt ≥ 12 := toI_ge c_19 rfl (by decide : (12 : Int32).toInt = 12)
        have hl : lv_has _ _ ([(4, .int l4_x15), (3, .int l3_x15), (0, .ref (hN 0)), (1, .int p1), (2, .int p2)]) := lv_sub hl [0, 1, 2, 3, 4] rfl
        exact join119 _ _ _ _ ⟨(show 12 ≤ l4_x15.toInt ∨ l3_x15.toInt = 0 from by first | exact Or.inl (by omega) | exact Or.inr t_23), rfl, hP, hD, hS, hl⟩
      · have t_19 : ¬ l4_x15.toInt ≥ 12 := toI_nge c_19 rfl (by decide : (12 : Int32).toInt = 12)
        refine lv_iload_n hx hb dX2_reach_22 rfl (lv_at hl 1 rfl) ?_
        refine lv_if_eq (tgt := 138) hx hb dX2_reach_23 (by decide) (fun c_23 => ?_) (fun c_23 => ?_)
        · have t_23 : l3_x15.toInt = 0 := toI_eq c_23 rfl (by decide : (0 : Int32).toInt = 0)
          have hl : lv_has _ _ ([(4, .int l4_x15), (3, .int l3_x15), (0, .ref (hN 0)), (1, .int p1), (2, .int p2)]) := lv_sub hl [0, 1, 2, 3, 4] rfl
          exact join119 _ _ _ _ ⟨(show 12 ≤ l4_x15.toInt ∨ l3_x15.toInt = 0 from by first | exact Or.inl (by omega) | exact Or.inr t_23), rfl, hP, hD, hS, hl⟩
        · have t_23 : ¬ l3_x15.toInt = 0 := toI_neq c_23 rfl (by decide : (0 : Int32).toInt = 0)
          refine lv_iconst (v := 0) hx hb dX2_reach_26 (by decide) ?_
          refine lv_istore hx hb dX2_reach_27 hl (by decide) rfl (fun ls (hl : lv_has ls _ ([(5, .int 0), (4, .int l4_x15), (3, .int l3_x15), (0, .ref (hN 0)), (1, .int p1), (2, .int p2)])) => ?_)
          refine lv_iconst (v := 0) hx hb dX2_reach_29 (by decide) ?_
          refine lv_istore hx hb dX2_reach_30 hl (by decide) rfl (fun ls (hl : lv_has ls _ ([(6, .int 0), (5, .int 0), (4, .int l4_x15), (3, .int l3_x15), (0, .ref (hN 0)), (1, .int p1), (2, .int p2)])) => ?_)
          have hl : lv_has _ _ ([(6, .int 0), (5, .int 0), (4, .int l4_x15), (3, .int l3_x15), (0, .ref (hN 0)), (1, .int p1), (2, .int p2)]) := lv_sub hl [0, 1, 2, 3, 4, 5, 6] rfl
          refine (fun (loop : ∀ (n9 : Nat) (iN_reached_x32 : Int32) (fN_before_x32 : Nat → Int32) (l6_x32 : Int32) (l5_x32 : Int32) (H : Heap) (locs : List Loc) (ls : Array Slot), (∀ q : Nat, 0 ≤ (fN_before_x32 q).toInt ∧ (fN_before_x32 q).toInt ≤ 79) → (0 ≤ l6_x32.toInt ∧ l6_x32.toInt ≤ 12) → (RB p1.toInt iN_reached_x32 fN_before_x32) → (SubB l3_x15 iN_reached_x32) → (SubB l5_x32 iN_reached_x32) → (RQ2 p1.toInt.toNat fN_free fN_before_x32 iN_reached_x32 l3_x15 l5_x32 l4_x15.toInt l6_x32.toInt.toNat) → (12 - l6_x32.toInt < ((n9 : Nat) : Int)) → va_P (dC, dI) vwCl (WN hN aN kN iN_arcs fN_from fN_to fN_room fN_cost iN_reached_x32 fN_free fN_before_x32 fN_flow fN_length fN_stop iN_stops fN_price fN_rest) H → va_D A (WN hN aN kN iN_arcs fN_from fN_to fN_room fN_cost iN_reached_x32 fN_free fN_before_x32 fN_flow fN_length fN_stop iN_stops fN_price fN_rest) → va_S A s.heap H locs → lv_has ls 8 [(6, .int l6_x32), (5, .int l5_x32), (4, .int l4_x15), (3, .int l3_x15), (0, .ref (hN 0)), (1, .int p1), (2, .int p2)] → W p l e _ s m _ below meth c H locs 0 0 _ (F0 m 32 ls [])) => loop (13) iN_reached_x15 fN_before_x15 0 0 _ _ _ b_fN_before_x15 (show 0 ≤ (0 : Int32).toInt ∧ (0 : Int32).toInt ≤ 12 from by decide) (show RB p1.toInt iN_reached_x15 fN_before_x15 from by first | assumption | exact RB.first rfl (by omega) (by omega) (by assumption) | exact RB.more hRB hSE (by assumption) (by assumption) (by assumption) (by assumption) (by omega) (by omega) (by omega) (by omega)) (show SubB l3_x15 iN_reached_x15 from by first | assumption | exact SubB.refl _ | exact SubB.zero _ | exact hSF | exact SubB.grow hSE (by assumption)) (show SubB (0 : Int32) iN_reached_x15 from by first | assumption | exact SubB.zero _ | exact SubB.both hSF (by assumption) (by assumption)) (show RQ2 p1.toInt.toNat fN_free fN_before_x15 iN_reached_x15 l3_x15 (0 : Int32) l4_x15.toInt (0 : Int32).toInt.toNat from RQ2.start hQ1 t_23 rfl (by decide)) ((by have e9 : (0 : Int32).toInt = 0 := (by decide : (0 : Int32).toInt = 0); omega)) hP hD hS hl) ?_
          intro n9
          induction n9 with
          | zero => intro iN_reached_x32 fN_before_x32 l6_x32 l5_x32 H locs ls b_fN_before_x32 b_l6_x32 hRB hSE hSF hQ2 hf9; exact False.elim (by omega)
          | succ n9 ihx32 =>
            intro iN_reached_x32 fN_before_x32 l6_x32 l5_x32 H locs ls b_fN_before_x32 b_l6_x32 hRB hSE hSF hQ2 hfx32 hP hD hS hl
            refine lv_iload hx hb dX2_reach_32 (lv_at hl 0 rfl) ?_
            refine lv_bipush (v := 12) hx hb dX2_reach_34 (by decide) ?_
            refine lv_icmp_ge (tgt := 129) hx hb dX2_reach_36 (by decide) (fun c_36 => ?_) (fun c_36 => ?_)
            · have t_36 : l6_x32.toInt ≥ 12 := toI_ge c_36 rfl (by decide : (12 : Int32).toInt = 12)
              refine lv_iload hx hb dX2_reach_129 (lv_at hl 1 rfl) ?_
              refine lv_istore_n hx hb dX2_reach_131 rfl hl (by decide) rfl (fun ls (hl : lv_has ls _ ([(3, .int l5_x32), (6, .int l6_x32), (5, .int l5_x32), (4, .int l4_x15), (0, .ref (hN 0)), (1, .int p1), (2, .int p2)])) => ?_)
              refine lv_iinc (v := (iI (l4_x15.toInt + 1))) hx hb dX2_reach_132 hl (k := 3) rfl (iI_add2 (iI_of _) (by decide : (1 : Int32) = iI 1)) (by decide) rfl (fun ls (hl : lv_has ls _ ([(4, .int (iI (l4_x15.toInt + 1))), (3, .int l5_x32), (6, .int l6_x32), (5, .int l5_x32), (0, .ref (hN 0)), (1, .int p1), (2, .int p2)])) => ?_)
              refine lv_goto (tgt := 15) hx hb dX2_reach_135 (by decide) ?_
              have hl : lv_has _ _ ([(4, .int (iI (l4_x15.toInt + 1))), (3, .int l5_x32), (0, .ref (hN 0)), (1, .int p1), (2, .int p2)]) := lv_sub hl [0, 1, 4, 5, 6] rfl
              exact ihx15 iN_reached_x32 fN_before_x32 (iI (l4_x15.toInt + 1)) l5_x32 _ _ _ b_fN_before_x32 (iI_rng (Int.le_trans (by decide) (Int.add_le_add (b_l4_x15.1) (Int.le_refl _))) (by omega) (by decide) (by decide)) (show RB p1.toInt iN_reached_x32 fN_before_x32 from by first | assumption | exact RB.first rfl (by omega) (by omega) (by assumption) | exact RB.more hRB hSE (by assumption) (by assumption) (by assumption) (by assumption) (by omega) (by omega) (by omega) (by omega)) (show SubB l5_x32 iN_reached_x32 from by first | assumption | exact SubB.refl _ | exact SubB.zero _ | exact hSF | exact SubB.grow hSE (by assumption)) (show RQ1 p1.toInt.toNat fN_free fN_before_x32 iN_reached_x32 l5_x32 (iI (l4_x15.toInt + 1)).toInt from by rw [iI_t (by omega) (by omega)]; exact RQ2.exit hQ2 (by omega) rfl) (by have e9 : ((iI (l4_x15.toInt + 1))).toInt = (l4_x15.toInt + 1) := (iI_t (Int.le_trans (by decide) (Int.add_le_add (b_l4_x15.1) (Int.le_refl _))) (Int.le_trans (Int.add_le_add (b_l4_x15.2) (Int.le_refl _)) (by decide))); omega) hP hD hS hl
            · have t_36 : ¬ l6_x32.toInt ≥ 12 := toI_nge c_36 rfl (by decide : (12 : Int32).toInt = 12)
              refine lv_iconst (v := 0) hx hb dX2_reach_39 (by decide) ?_
              refine lv_istore hx hb dX2_reach_40 hl (by decide) rfl (fun ls (hl : lv_has ls _ ([(7, .int 0), (6, .int l6_x32), (5, .int l5_x32), (4, .int l4_x15), (3, .int l3_x15), (0, .ref (hN 0)), (1, .int p1), (2, .int p2)])) => ?_)
              have hl : lv_has _ _ ([(7, .int 0), (6, .int l6_x32), (5, .int l5_x32), (4, .int l4_x15), (3, .int l3_x15), (0, .ref (hN 0)), (1, .int p1), (2, .int p2)]) := lv_sub hl [0, 1, 2, 3, 4, 5, 6, 7] rfl
              refine (fun (loop : ∀ (n9 : Nat) (iN_reached_x42 : Int32) (fN_before_x42 : Nat → Int32) (l7_x42 : Int32) (l5_x42 : Int32) (H : Heap) (locs : List Loc) (ls : Array Slot), (∀ q : Nat, 0 ≤ (fN_before_x42 q).toInt ∧ (fN_before_x42 q).toInt ≤ 79) → (0 ≤ l7_x42.toInt ∧ l7_x42.toInt ≤ 12) → (RB p1.toInt iN_reached_x42 fN_before_x42) → (SubB l3_x15 iN_reached_x42) → (SubB l5_x42 iN_reached_x42) → (RQ3 p1.toInt.toNat fN_free fN_before_x42 iN_reached_x42 l3_x15 l5_x42 l4_x15.toInt l6_x32.toInt.toNat l7_x42.toInt.toNat) → (12 - l7_x42.toInt < ((n9 : Nat) : Int)) → va_P (dC, dI) vwCl (WN hN aN kN iN_arcs fN_from fN_to fN_room fN_cost iN_reached_x42 fN_free fN_before_x42 fN_flow fN_length fN_stop iN_stops fN_price fN_rest) H → va_D A (WN hN aN kN iN_arcs fN_from fN_to fN_room fN_cost iN_reached_x42 fN_free fN_before_x42 fN_flow fN_length fN_stop iN_stops fN_price fN_rest) → va_S A s.heap H locs → lv_has ls 8 [(7, .int l7_x42), (6, .int l6_x32), (5, .int l5_x42), (4, .int l4_x15), (3, .int l3_x15), (0, .ref (hN 0)), (1, .int p1), (2, .int p2)] → W p l e _ s m _ below meth c H locs 0 0 _ (F0 m 42 ls [])) => loop (13) iN_reached_x32 fN_before_x32 0 l5_x32 _ _ _ b_fN_before_x32 (show 0 ≤ (0 : Int32).toInt ∧ (0 : Int32).toInt ≤ 12 from by decide) (show RB p1.toInt iN_reached_x32 fN_before_x32 from by first | assumption | exact RB.first rfl (by omega) (by omega) (by assumption) | exact RB.more hRB hSE (by assumption) (by assumption) (by assumption) (by assumption) (by omega) (by omega) (by omega) (by omega)) (show SubB l3_x15 iN_reached_x32 from by first | assumption | exact SubB.refl _ | exact SubB.zero _ | exact hSF | exact SubB.grow hSE (by assumption)) (show SubB l5_x32 iN_reached_x32 from by first | assumption | exact SubB.zero _ | exact SubB.both hSF (by assumption) (by assumption)) (show RQ3 p1.toInt.toNat fN_free fN_before_x32 iN_reached_x32 l3_x15 l5_x32 l4_x15.toInt l6_x32.toInt.toNat (0 : Int32).toInt.toNat from RQ3.start hQ2 (by decide)) ((by have e9 : (0 : Int32).toInt = 0 := (by decide : (0 : Int32).toInt = 0); omega)) hP hD hS hl) ?_
              intro n9
              induction n9 with
              | zero => intro iN_reached_x42 fN_before_x42 l7_x42 l5_x42 H locs ls b_fN_before_x42 b_l7_x42 hRB hSE hSF hQ3 hf9; exact False.elim (by omega)
              | succ n9 ihx42 =>
                intro iN_reached_x42 fN_before_x42 l7_x42 l5_x42 H locs ls b_fN_before_x42 b_l7_x42 hRB hSE hSF hQ3 hfx42 hP hD hS hl
                refine lv_iload hx hb dX2_reach_42 (lv_at hl 0 rfl) ?_
                refine lv_bipush (v := 12) hx hb dX2_reach_44 (by decide) ?_
                refine W.cut (pc := 123) (fun H locs ls stk => (12 ≤ l7_x42.toInt.toNat ∨ bt l3_x15 l6_x32.toInt.toNat = false) ∧  stk = [] ∧ va_P (dC, dI) vwCl (WN hN aN kN iN_arcs fN_from fN_to fN_room fN_cost iN_reached_x42 fN_free fN_before_x42 fN_flow fN_length fN_stop iN_stops fN_price fN_rest) H ∧ va_D A (WN hN aN kN iN_arcs fN_from fN_to fN_room fN_cost iN_reached_x42 fN_free fN_before_x42 fN_flow fN_length fN_stop iN_stops fN_price fN_rest) ∧ va_S A s.heap H locs ∧ lv_has ls 8 [(7, .int l7_x42), (6, .int l6_x32), (5, .int l5_x42), (4, .int l4_x15), (3, .int l3_x15), (0, .ref (hN 0)), (1, .int p1), (2, .int p2)]) (fun join129 => ?_) ?_
                · refine lv_icmp_ge (tgt := 123) hx hb dX2_reach_46 (by decide) (fun c_46 => ?_) (fun c_46 => ?_)
                  · have t_46 : l7_x42.toInt ≥ 12 := toI_ge c_46 rfl (by decide : (12 : Int32).toInt = 12)
                    have hl : lv_has _ _ ([(7, .int l7_x42), (6, .int l6_x32), (5, .int l5_x42), (4, .int l4_x15), (3, .int l3_x15), (0, .ref (hN 0)), (1, .int p1), (2, .int p2)]) := lv_sub hl [0, 1, 2, 3, 4, 5, 6, 7] rfl
                    exact join129 _ _ _ _ ⟨(show 12 ≤ l7_x42.toInt.toNat ∨ bt l3_x15 l6_x32.toInt.toNat = false from by first | exact Or.inl (by omega) | exact Or.inr (bt_no b_v2083 t_55)), rfl, hP, hD, hS, hl⟩
                  · have t_46 : ¬ l7_x42.toInt ≥ 12 := toI_nge c_46 rfl (by decide : (12 : Int32).toInt = 12)
                    refine lv_iload_n hx hb dX2_reach_49 rfl (lv_at hl 4 rfl) ?_
                    refine lv_iload hx hb dX2_reach_50 (lv_at hl 1 rfl) ?_
                    refine lv_ishr hx hb dX2_reach_52 ?_
                    refine lv_topi (fun v2094 hv2094 => ?_)
                    have b_v2094 : v2094 = l3_x15 >>> (l6_x32 &&& 31) := hv2094
                    clear hv2094
                    refine lv_iconst (v := 1) hx hb dX2_reach_53 (by decide) ?_
                    refine lv_iand hx hb dX2_reach_54 ?_
                    refine lv_topi (fun v2095 hv2095 => ?_)
                    have b_v2095 : (bt l3_x15 l6_x32.toInt.toNat = true ∧ v2095.toInt = 1) ∨ (bt l3_x15 l6_x32.toInt.toNat = false ∧ v2095.toInt = 0) := by rw [hv2095]; exact sh_and1 b_v2094 rfl (by omega) (by omega)
                    clear hv2095
                    refine lv_if_eq (tgt := 123) hx hb dX2_reach_55 (by decide) (fun c_55 => ?_) (fun c_55 => ?_)
                    · have t_55 : v2095.toInt = 0 := toI_eq c_55 rfl (by decide : (0 : Int32).toInt = 0)
                      have hl : lv_has _ _ ([(7, .int l7_x42), (6, .int l6_x32), (5, .int l5_x42), (4, .int l4_x15), (3, .int l3_x15), (0, .ref (hN 0)), (1, .int p1), (2, .int p2)]) := lv_sub hl [0, 1, 2, 3, 4, 5, 6, 7] rfl
                      exact join129 _ _ _ _ ⟨(show 12 ≤ l7_x42.toInt.toNat ∨ bt l3_x15 l6_x32.toInt.toNat = false from by first | exact Or.inl (by omega) | exact Or.inr (bt_no b_v2095 t_55)), rfl, hP, hD, hS, hl⟩
                    · have t_55 : ¬ v2095.toInt = 0 := toI_neq c_55 rfl (by decide : (0 : Int32).toInt = 0)
                      refine lv_aload_n hx hb dX2_reach_58 rfl (lv_at hl 5 rfl) ?_
                      refine va_get (D := (dC, dI)) (ci := 2) (v := .int iN_reached_x42) (C := RX2) (T := TX2) (N := 14) hx hb hts iwsMX2_reach_in2 hown hK hP 0 rfl rfl 5 (by decide) (hts _ hm_m_X2_reach_0) (fun _ h9 => h9) rfl dX2_reach_59 ?_
                      refine lv_iload hx hb dX2_reach_62 (lv_at hl 0 rfl) ?_
                      refine lv_ishr hx hb dX2_reach_64 ?_
                      refine lv_topi (fun v2096 hv2096 => ?_)
                      have b_v2096 : v2096 = iN_reached_x42 >>> (l7_x42 &&& 31) := hv2096
                      clear hv2096
                      refine lv_iconst (v := 1) hx hb dX2_reach_65 (by decide) ?_
                      refine lv_iand hx hb dX2_reach_66 ?_
                      refine lv_topi (fun v2097 hv2097 => ?_)
                      have b_v2097 : (bt iN_reached_x42 l7_x42.toInt.toNat = true ∧ v2097.toInt = 1) ∨ (bt iN_reached_x42 l7_x42.toInt.toNat = false ∧ v2097.toInt = 0) := by rw [hv2097]; exact sh_and1 b_v2096 rfl (by omega) (by omega)
                      clear hv2097
                      refine lv_if_ne (tgt := 117) hx hb dX2_reach_67 (by decide) (fun c_67 => ?_) (fun c_67 => ?_)
                      · have t_67 : v2097.toInt ≠ 0 := toI_ne c_67 rfl (by decide : (0 : Int32).toInt = 0)
                        refine lv_iinc (v := (iI (l7_x42.toInt + 1))) hx hb dX2_reach_117 hl (k := 0) rfl (iI_add2 (iI_of _) (by decide : (1 : Int32) = iI 1)) (by decide) rfl (fun ls (hl : lv_has ls _ ([(7, .int (iI (l7_x42.toInt + 1))), (6, .int l6_x32), (5, .int l5_x42), (4, .int l4_x15), (3, .int l3_x15), (0, .ref (hN 0)), (1, .int p1), (2, .int p2)])) => ?_)
                        refine lv_goto (tgt := 42) hx hb dX2_reach_120 (by decide) ?_
                        have hl : lv_has _ _ ([(7, .int (iI (l7_x42.toInt + 1))), (6, .int l6_x32), (5, .int l5_x42), (4, .int l4_x15), (3, .int l3_x15), (0, .ref (hN 0)), (1, .int p1), (2, .int p2)]) := lv_sub hl [0, 1, 2, 3, 4, 5, 6, 7] rfl
                        exact ihx42 iN_reached_x42 fN_before_x42 (iI (l7_x42.toInt + 1)) l5_x42 _ _ _ b_fN_before_x42 (iI_rng (Int.le_trans (by decide) (Int.add_le_add (b_l7_x42.1) (Int.le_refl _))) (by omega) (by decide) (by decide)) (show RB p1.toInt iN_reached_x42 fN_before_x42 from by first | assumption | exact RB.first rfl (by omega) (by omega) (by assumption) | exact RB.more hRB hSE (by assumption) (by assumption) (by assumption) (by assumption) (by omega) (by omega) (by omega) (by omega)) (show SubB l3_x15 iN_reached_x42 from by first | assumption | exact SubB.refl _ | exact SubB.zero _ | exact hSF | exact SubB.grow hSE (by assumption)) (show SubB l5_x42 iN_reached_x42 from by first | assumption | exact SubB.zero _ | exact SubB.both hSF (by assumption) (by assumption)) (show RQ3 p1.toInt.toNat fN_free fN_before_x42 iN_reached_x42 l3_x15 l5_x42 l4_x15.toInt l6_x32.toInt.toNat (iI (l7_x42.toInt + 1)).toInt.toNat from by rw [show (iI (l7_x42.toInt + 1)).toInt.toNat = l7_x42.toInt.toNat + 1 from by rw [iI_t (by omega) (by omega)]; omega]; first | (exact RQ3.seen hQ3 (Or.inl (bt_yes b_v2097 t_67))) | (have eIt : ((iI ((l6_x32.toInt * 12) + l7_x42.toInt))).toNatClampNeg = 12 * l6_x32.toInt.toNat + l7_x42.toInt.toNat := (by show (iI (l6_x32.toInt * 12 + l7_x42.toInt)).toInt.toNat = _; rw [iI_t (by omega) (by omega)]; omega); exact RQ3.seen hQ3 (Or.inr (by rw [← eIt, ← b_v2088]; omega)))) (by have e9 : ((iI (l7_x42.toInt + 1))).toInt = (l7_x42.toInt + 1) := (iI_t (Int.le_trans (by decide) (Int.add_le_add (b_l7_x42.1) (Int.le_refl _))) (Int.le_trans (Int.add_le_add (b_l7_x42.2) (Int.le_refl _)) (by decide))); omega) hP hD hS hl
                      · have t_67 : v2097.toInt = 0 := toI_nne c_67 rfl (by decide : (0 : Int32).toInt = 0)
                        refine lv_aload_n hx hb dX2_reach_70 rfl (lv_at hl 5 rfl) ?_
                        refine va_get (D := (dC, dI)) (ci := 2) (v := .ref (aN 4)) (C := RX2) (T := TX2) (N := 14) hx hb hts iwsMX2_reach_in2 hown hK hP 0 rfl rfl 6 (by decide) (hts (.fieldLink RX2 24 "OptimaWorks$NetDesk" "free" "[I") (by decide +kernel)) (fun _ h9 => h9) rfl dX2_reach_71 ?_
                        refine lv_iload hx hb dX2_reach_74 (lv_at hl 1 rfl) ?_
                        refine lv_bipush (v := 12) hx hb dX2_reach_76 (by decide) ?_
                        refine lv_imul hx hb dX2_reach_78 ?_
                        refine lv_topi (fun y2098 hy2098 => ?_)
                        obtain rfl : (iI (l6_x32.toInt * 12)) = y2098 := (hy2098.trans (iI_mul2 (iI_of _) (by decide : (12 : Int32) = iI 12))).symm
                        refine lv_iload hx hb dX2_reach_79 (lv_at hl 0 rfl) ?_
                        refine lv_iadd hx hb dX2_reach_81 ?_
                        refine lv_topi (fun y2099 hy2099 => ?_)
                        obtain rfl : (iI ((l6_x32.toInt * 12) + l7_x42.toInt)) = y2099 := (hy2099.trans (iI_add2 rfl (iI_of _))).symm
                        refine va_iald (cA := kN 4) (n := 144) (f := fN_free) hx hb hK hP 5 4 rfl rfl (vp_iI (Int.le_trans (by decide) (Int.add_le_add (Int.mul_le_mul_of_nonneg_right (b_l6_x32.1) (by decide)) (b_l7_x42.1))) (by omega) (by decide)) dX2_reach_82 ?_
                        refine lv_topi (fun v2100 hv2100 => ?_)
                        have b_v2100 : v2100 = fN_free ((iI ((l6_x32.toInt * 12) + l7_x42.toInt))).toNatClampNeg := hv2100
                        clear hv2100
                        refine lv_if_le (tgt := 117) hx hb dX2_reach_83 (by decide) (fun c_83 => ?_) (fun c_83 => ?_)
                        · have t_83 : v2100.toInt ≤ 0 := toI_le c_83 rfl (by decide : (0 : Int32).toInt = 0)
                          refine lv_iinc (v := (iI (l7_x42.toInt + 1))) hx hb dX2_reach_117 hl (k := 0) rfl (iI_add2 (iI_of _) (by decide : (1 : Int32) = iI 1)) (by decide) rfl (fun ls (hl : lv_has ls _ ([(7, .int (iI (l7_x42.toInt + 1))), (6, .int l6_x32), (5, .int l5_x42), (4, .int l4_x15), (3, .int l3_x15), (0, .ref (hN 0)), (1, .int p1), (2, .int p2)])) => ?_)
                          refine lv_goto (tgt := 42) hx hb dX2_reach_120 (by decide) ?_
                          have hl : lv_has _ _ ([(7, .int (iI (l7_x42.toInt + 1))), (6, .int l6_x32), (5, .int l5_x42), (4, .int l4_x15), (3, .int l3_x15), (0, .ref (hN 0)), (1, .int p1), (2, .int p2)]) := lv_sub hl [0, 1, 2, 3, 4, 5, 6, 7] rfl
                          exact ihx42 iN_reached_x42 fN_before_x42 (iI (l7_x42.toInt + 1)) l5_x42 _ _ _ b_fN_before_x42 (iI_rng (Int.le_trans (by decide) (Int.add_le_add (b_l7_x42.1) (Int.le_refl _))) (by omega) (by decide) (by decide)) (show RB p1.toInt iN_reached_x42 fN_before_x42 from by first | assumption | exact RB.first rfl (by omega) (by omega) (by assumption) | exact RB.more hRB hSE (by assumption) (by assumption) (by assumption) (by assumption) (by omega) (by omega) (by omega) (by omega)) (show SubB l3_x15 iN_reached_x42 from by first | assumption | exact SubB.refl _ | exact SubB.zero _ | exact hSF | exact SubB.grow hSE (by assumption)) (show SubB l5_x42 iN_reached_x42 from by first | assumption | exact SubB.zero _ | exact SubB.both hSF (by assumption) (by assumption)) (show RQ3 p1.toInt.toNat fN_free fN_before_x42 iN_reached_x42 l3_x15 l5_x42 l4_x15.toInt l6_x32.toInt.toNat (iI (l7_x42.toInt + 1)).toInt.toNat from by rw [show (iI (l7_x42.toInt + 1)).toInt.toNat = l7_x42.toInt.toNat + 1 from by rw [iI_t (by omega) (by omega)]; omega]; first | (exact RQ3.seen hQ3 (Or.inl (bt_yes b_v2097 t_67))) | (have eIt : ((iI ((l6_x32.toInt * 12) + l7_x42.toInt))).toNatClampNeg = 12 * l6_x32.toInt.toNat + l7_x42.toInt.toNat := (by show (iI (l6_x32.toInt * 12 + l7_x42.toInt)).toInt.toNat = _; rw [iI_t (by omega) (by omega)]; omega); exact RQ3.seen hQ3 (Or.inr (by rw [← eIt, ← b_v2100]; omega)))) (by have e9 : ((iI (l7_x42.toInt + 1))).toInt = (l7_x42.toInt + 1) := (iI_t (Int.le_trans (by decide) (Int.add_le_add (b_l7_x42.1) (Int.le_refl _))) (Int.le_trans (Int.add_le_add (b_l7_x42.2) (Int.le_refl _)) (by decide))); omega) hP hD hS hl
                        · have t_83 : ¬ v2100.toInt ≤ 0 := toI_nle c_83 rfl (by decide : (0 : Int32).toInt = 0)
                          have hbi : bt l3_x15 l6_x32.toInt.toNat = true := by rcases b_v2095 with ⟨h9, _⟩ | ⟨_, h9⟩; exact h9; omega
                          have hbj : bt iN_reached_x42 l7_x42.toInt.toNat = false := by rcases b_v2097 with ⟨_, h9⟩ | ⟨h9, _⟩; omega; exact h9
                          refine lv_aload_n hx hb dX2_reach_86 rfl (lv_at hl 5 rfl) ?_
                          refine va_get (D := (dC, dI)) (ci := 2) (v := .ref (aN 5)) (C := RX2) (T := TX2) (N := 14) hx hb hts iwsMX2_reach_in2 hown hK hP 0 rfl rfl 7 (by decide) (hts (.fieldLink RX2 27 "OptimaWorks$NetDesk" "before" "[I") (by decide +kernel)) (fun _ h9 => h9) rfl dX2_reach_87 ?_
                          refine lv_iload hx hb dX2_reach_90 (lv_at hl 0 rfl) ?_
                          refine lv_iload hx hb dX2_reach_92 (lv_at hl 1 rfl) ?_
                          refine va_iast (cA := kN 5) (n := 12) (f := fN_before_x42) hx hb hK hP hD hS 6 5 rfl rfl (vp_in_iff.mpr ⟨b_l7_x42.1, (Int.lt_of_lt_of_le (Int.not_le.mp t_46) (by decide))⟩) dX2_reach_94 (fun H locs hP hD hS => ?_)
                          obtain ⟨u2101, hu2101⟩ : ∃ f9, f9 = upd fN_before_x42 (l7_x42).toNatClampNeg l6_x32 := ⟨_, rfl⟩
                          have hP : va_P (dC, dI) vwCl (WN hN aN kN iN_arcs fN_from fN_to fN_room fN_cost iN_reached_x42 fN_free u2101 fN_flow fN_length fN_stop iN_stops fN_price fN_rest) H := by rw [hu2101]; exact hP
                          have hD : va_D A (WN hN aN kN iN_arcs fN_from fN_to fN_room fN_cost iN_reached_x42 fN_free u2101 fN_flow fN_length fN_stop iN_stops fN_price fN_rest) := by rw [hu2101]; exact hD
                          have b_u2101 : ∀ q : Nat, 0 ≤ (u2101 q).toInt ∧ (u2101 q).toInt ≤ 79 := by rw [hu2101]; exact upd_r b_fN_before_x42 (⟨b_l6_x32.1, Int.le_trans b_l6_x32.2 (by decide)⟩)
                          have b1_u2101 : u2101 = upd fN_before_x42 (l7_x42).toNatClampNeg l6_x32 := hu2101
                          clear hu2101
                          refine lv_aload_n hx hb dX2_reach_95 rfl (lv_at hl 5 rfl) ?_
                          refine lv_dup hx hb dX2_reach_96 rfl ?_
                          refine va_get (D := (dC, dI)) (ci := 2) (v := .int iN_reached_x42) (C := RX2) (T := TX2) (N := 14) hx hb hts iwsMX2_reach_in2 hown hK hP 0 rfl rfl 5 (by decide) (hts _ hm_m_X2_reach_0) (fun _ h9 => h9) rfl dX2_reach_97 ?_
                          refine lv_iconst (v := 1) hx hb dX2_reach_100 (by decide) ?_
                          refine lv_iload hx hb dX2_reach_101 (lv_at hl 0 rfl) ?_
                          refine lv_ishl hx hb dX2_reach_103 ?_
                          refine lv_topi (fun v2102 hv2102 => ?_)
                          have b_v2102 : v2102 = (1 : Int32) <<< (l7_x42 &&& 31) := hv2102
                          clear hv2102
                          refine lv_ior hx hb dX2_reach_104 ?_
                          refine lv_topi (fun v2103 hv2103 => ?_)
                          have b_v2103 : v2103 = iN_reached_x42 ||| (1 : Int32) <<< (l7_x42 &&& 31) := by rw [hv2103]; exact by rw [b_v2102]
                          clear hv2103
                          refine va_put (D := (dC, dI)) (ci := 2) (v := .int v2103) (ty := .int) (C := RX2) (T := TX2) (N := 14) hx hb hts iwsMX2_reach_in2 tyX2 tyX2_ok nmX2 hown hK hP hD hS 0 rfl rfl 5 (by decide) (hts _ hm_m_X2_reach_0) (fun _ h9 => h9) rfl (by decide +kernel) rfl rfl (Nat.le_of_ble_eq_true rfl) dX2_reach_105 (fun H locs hP hD hS => ?_)
                          have hP : va_P (dC, dI) vwCl (WN hN aN kN iN_arcs fN_from fN_to fN_room fN_cost v2103 fN_free u2101 fN_flow fN_length fN_stop iN_stops fN_price fN_rest) H := hP
                          have hD := fz_sd hP (hD) rfl
                          refine lv_iload hx hb dX2_reach_108 (lv_at hl 2 rfl) ?_
                          refine lv_iconst (v := 1) hx hb dX2_reach_110 (by decide) ?_
                          refine lv_iload hx hb dX2_reach_111 (lv_at hl 0 rfl) ?_
                          refine lv_ishl hx hb dX2_reach_113 ?_
                          refine lv_topi (fun v2104 hv2104 => ?_)
                          have b_v2104 : v2104 = (1 : Int32) <<< (l7_x42 &&& 31) := hv2104
                          clear hv2104
                          refine lv_ior hx hb dX2_reach_114 ?_
                          refine lv_topi (fun v2105 hv2105 => ?_)
                          have b_v2105 : v2105 = l5_x42 ||| (1 : Int32) <<< (l7_x42 &&& 31) := by rw [hv2105]; exact by rw [b_v2104]
                          clear hv2105
                          refine lv_istore hx hb dX2_reach_115 hl (by decide) rfl (fun ls (hl : lv_has ls _ ([(5, .int v2105), (7, .int l7_x42), (6, .int l6_x32), (4, .int l4_x15), (3, .int l3_x15), (0, .ref (hN 0)), (1, .int p1), (2, .int p2)])) => ?_)
                          refine lv_iinc (v := (iI (l7_x42.toInt + 1))) hx hb dX2_reach_117 hl (k := 1) rfl (iI_add2 (iI_of _) (by decide : (1 : Int32) = iI 1)) (by decide) rfl (fun ls (hl : lv_has ls _ ([(7, .int (iI (l7_x42.toInt + 1))), (5, .int v2105), (6, .int l6_x32), (4, .int l4_x15), (3, .int l3_x15), (0, .ref (hN 0)), (1, .int p1), (2, .int p2)])) => ?_)
                          refine lv_goto (tgt := 42) hx hb dX2_reach_120 (by decide) ?_
                          have hl : lv_has _ _ ([(7, .int (iI (l7_x42.toInt + 1))), (6, .int l6_x32), (5, .int v2105), (4, .int l4_x15), (3, .int l3_x15), (0, .ref (hN 0)), (1, .int p1), (2, .int p2)]) := lv_sub hl [0, 2, 1, 3, 4, 5, 6, 7] rfl
                          exact ihx42 v2103 u2101 (iI (l7_x42.toInt + 1)) v2105 _ _ _ b_u2101 (iI_rng (Int.le_trans (by decide) (Int.add_le_add (b_l7_x42.1) (Int.le_refl _))) (by omega) (by decide) (by decide)) (show RB p1.toInt v2103 u2101 from by first | assumption | exact RB.first rfl (by omega) (by omega) (by assumption) | exact RB.more hRB hSE (by assumption) (by assumption) (by assumption) (by assumption) (by omega) (by omega) (by omega) (by omega)) (show SubB l3_x15 v2103 from by first | assumption | exact SubB.refl _ | exact SubB.zero _ | exact hSF | exact SubB.grow hSE (by assumption)) (show SubB v2105 v2103 from by first | assumption | exact SubB.zero _ | exact SubB.both hSF (by assumption) (by assumption)) (show RQ3 p1.toInt.toNat fN_free u2101 v2103 l3_x15 v2105 l4_x15.toInt l6_x32.toInt.toNat (iI (l7_x42.toInt + 1)).toInt.toNat from by rw [show (iI (l7_x42.toInt + 1)).toInt.toNat = l7_x42.toInt.toNat + 1 from by rw [iI_t (by omega) (by omega)]; omega]; (have eIt : ((iI ((l6_x32.toInt * 12) + l7_x42.toInt))).toNatClampNeg = 12 * l6_x32.toInt.toNat + l7_x42.toInt.toNat := (by show (iI (l6_x32.toInt * 12 + l7_x42.toInt)).toInt.toNat = _; rw [iI_t (by omega) (by omega)]; omega); exact RQ3.add hQ3 (by omega) (by omega) (x := l6_x32) (y := l7_x42) (by omega) (by omega) hbi hSE hbj (by rw [← eIt, ← b_v2100]; omega) b1_u2101 b_v2103 b_v2105)) (by have e9 : ((iI (l7_x42.toInt + 1))).toInt = (l7_x42.toInt + 1) := (iI_t (Int.le_trans (by decide) (Int.add_le_add (b_l7_x42.1) (Int.le_refl _))) (Int.le_trans (Int.add_le_add (b_l7_x42.2) (Int.le_refl _)) (by decide))); omega) hP hD hS hl
                · rintro H locs ls stk ⟨hX3, rfl, hP, hD, hS, hl⟩
                  refine lv_iinc (v := (iI (l6_x32.toInt + 1))) hx hb dX2_reach_123 hl (k := 1) rfl (iI_add2 (iI_of _) (by decide : (1 : Int32) = iI 1)) (by decide) rfl (fun ls (hl : lv_has ls _ ([(6, .int (iI (l6_x32.toInt + 1))), (7, .int l7_x42), (5, .int l5_x42), (4, .int l4_x15), (3, .int l3_x15), (0, .ref (hN 0)), (1, .int p1), (2, .int p2)])) => ?_)
                  refine lv_goto (tgt := 32) hx hb dX2_reach_126 (by decide) ?_
                  have hl : lv_has _ _ ([(6, .int (iI (l6_x32.toInt + 1))), (5, .int l5_x42), (4, .int l4_x15), (3, .int l3_x15), (0, .ref (hN 0)), (1, .int p1), (2, .int p2)]) := lv_sub hl [0, 2, 3, 4, 5, 6, 7] rfl
                  exact ihx32 iN_reached_x42 fN_before_x42 (iI (l6_x32.toInt + 1)) l5_x42 _ _ _ b_fN_before_x42 (iI_rng (Int.le_trans (by decide) (Int.add_le_add (b_l6_x32.1) (Int.le_refl _))) (by omega) (by decide) (by decide)) (show RB p1.toInt iN_reached_x42 fN_before_x42 from by first | assumption | exact RB.first rfl (by omega) (by omega) (by assumption) | exact RB.more hRB hSE (by assumption) (by assumption) (by assumption) (by assumption) (by omega) (by omega) (by omega) (by omega)) (show SubB l3_x15 iN_reached_x42 from by first | assumption | exact SubB.refl _ | exact SubB.zero _ | exact hSF | exact SubB.grow hSE (by assumption)) (show SubB l5_x42 iN_reached_x42 from by first | assumption | exact SubB.zero _ | exact SubB.both hSF (by assumption) (by assumption)) (show RQ2 p1.toInt.toNat fN_free fN_before_x42 iN_reached_x42 l3_x15 l5_x42 l4_x15.toInt (iI (l6_x32.toInt + 1)).toInt.toNat from by rw [show (iI (l6_x32.toInt + 1)).toInt.toNat = l6_x32.toInt.toNat + 1 from by rw [iI_t (by omega) (by omega)]; omega]; exact RQ3.exit hQ3 hX3) (by have e9 : ((iI (l6_x32.toInt + 1))).toInt = (l6_x32.toInt + 1) := (iI_t (Int.le_trans (by decide) (Int.add_le_add (b_l6_x32.1) (Int.le_refl _))) (Int.le_trans (Int.add_le_add (b_l6_x32.2) (Int.le_refl _)) (by decide))); omega) hP hD hS hl
    · rintro H locs ls stk ⟨hE1, rfl, hP, hD, hS, hl⟩
      refine lv_aload_n hx hb dX2_reach_138 rfl (lv_at hl 2 rfl) ?_
      refine va_get (D := (dC, dI)) (ci := 2) (v := .int iN_reached_x15) (C := RX2) (T := TX2) (N := 14) hx hb hts iwsMX2_reach_in2 hown hK hP 0 rfl rfl 5 (by decide) (hts _ hm_m_X2_reach_0) (fun _ h9 => h9) rfl dX2_reach_139 ?_
      refine lv_iload_n hx hb dX2_reach_142 rfl (lv_at hl 4 rfl) ?_
      refine lv_ishr hx hb dX2_reach_143 ?_
      refine lv_topi (fun v2106 hv2106 => ?_)
      have b_v2106 : v2106 = iN_reached_x15 >>> (p2 &&& 31) := hv2106
      clear hv2106
      refine lv_iconst (v := 1) hx hb dX2_reach_144 (by decide) ?_
      refine lv_iand hx hb dX2_reach_145 ?_
      refine lv_topi (fun v2107 hv2107 => ?_)
      have b_v2107 : (bt iN_reached_x15 p2.toInt.toNat = true ∧ v2107.toInt = 1) ∨ (bt iN_reached_x15 p2.toInt.toNat = false ∧ v2107.toInt = 0) := by rw [hv2107]; exact sh_and1 b_v2106 rfl (by omega) (by omega)
      clear hv2107
      refine W.cut (pc := 154) (fun H locs ls stk => ∃ (k0_j130 : Int32), (0 ≤ k0_j130.toInt ∧ k0_j130.toInt ≤ 1) ∧ (k0_j130.toInt ≠ 0 → bt iN_reached_x15 p2.toInt.toNat = true) ∧ (k0_j130.toInt = 0 → bt iN_reached_x15 p2.toInt.toNat = false) ∧  stk = [.int k0_j130] ∧ va_P (dC, dI) vwCl (WN hN aN kN iN_arcs fN_from fN_to fN_room fN_cost iN_reached_x15 fN_free fN_before_x15 fN_flow fN_length fN_stop iN_stops fN_price fN_rest) H ∧ va_D A (WN hN aN kN iN_arcs fN_from fN_to fN_room fN_cost iN_reached_x15 fN_free fN_before_x15 fN_flow fN_length fN_stop iN_stops fN_price fN_rest) ∧ va_S A s.heap H locs ∧ lv_has ls 8 [(4, .int l4_x15), (3, .int l3_x15), (0, .ref (hN 0)), (1, .int p1), (2, .int p2)]) (fun join130 => ?_) ?_
      · refine lv_if_eq (tgt := 153) hx hb dX2_reach_146 (by decide) (fun c_146 => ?_) (fun c_146 => ?_)
        · have t_146 : v2107.toInt = 0 := toI_eq c_146 rfl (by decide : (0 : Int32).toInt = 0)
          refine lv_iconst (v := 0) hx hb dX2_reach_153 (by decide) ?_
          have hl : lv_has _ _ ([(4, .int l4_x15), (3, .int l3_x15), (0, .ref (hN 0)), (1, .int p1), (2, .int p2)]) := lv_sub hl [0, 1, 2, 3, 4] rfl
          exact join130 _ _ _ _ ⟨0, (show 0 ≤ (0 : Int32).toInt ∧ (0 : Int32).toInt ≤ 1 from by decide), (show (0 : Int32).toInt ≠ 0 → bt iN_reached_x15 p2.toInt.toNat = true from by first | (intro h9; exact absurd (by decide) h9) | (intro h9; exact bt_yes (by assumption) t_146)), (show (0 : Int32).toInt = 0 → bt iN_reached_x15 p2.toInt.toNat = false from by first | (intro h9; exact absurd h9 (by decide)) | (intro h9; exact bt_no (by assumption) t_146)), rfl, hP, hD, hS, hl⟩
        · have t_146 : ¬ v2107.toInt = 0 := toI_neq c_146 rfl (by decide : (0 : Int32).toInt = 0)
          refine lv_iconst (v := 1) hx hb dX2_reach_149 (by decide) ?_
          refine lv_goto (tgt := 154) hx hb dX2_reach_150 (by decide) ?_
          have hl : lv_has _ _ ([(4, .int l4_x15), (3, .int l3_x15), (0, .ref (hN 0)), (1, .int p1), (2, .int p2)]) := lv_sub hl [0, 1, 2, 3, 4] rfl
          exact join130 _ _ _ _ ⟨1, (show 0 ≤ (1 : Int32).toInt ∧ (1 : Int32).toInt ≤ 1 from by decide), (show (1 : Int32).toInt ≠ 0 → bt iN_reached_x15 p2.toInt.toNat = true from by first | (intro h9; exact absurd (by decide) h9) | (intro h9; exact bt_yes (by assumption) t_146)), (show (1 : Int32).toInt = 0 → bt iN_reached_x15 p2.toInt.toNat = false from by first | (intro h9; exact absurd h9 (by decide)) | (intro h9; exact bt_no (by assumption) t_146)), rfl, hP, hD, hS, hl⟩
      · intro H locs ls stk
        refine fz_e1 ?_
        intro k0_j130
        refine fz_a8 ?_
        intro b_k0_j130 hjr hjn hst9_3 hP hD hS hl
        subst hst9_3
        refine W.widen (k := 0) (n := 0) (by decide +kernel) (by decide +kernel) ?_
        exact W.zret (v := k0_j130) hx hb hr (by rcases z01 (x := k0_j130) (b_k0_j130) with h9 | h9 <;> rw [h9] <;> rfl) (fun t9_ ht hW => ⟨⟨k0_j130, (iN_reached_x15, fN_before_x15), rfl, ⟨b_fN_before_x15, (b_k0_j130), (by (try dsimp only); exact (hRB)), (by (try dsimp only); exact (hjr)), (by (try dsimp only); exact (RQ1.done hQ1 hE1)), (by (try dsimp only); exact (hjn))⟩, by rw [ht]; exact hP, hD⟩, hS.F ht⟩) hS.2.2 dX2_reach_154
end
section
theorem hd_yX2_reach_RX2 : yX2_reach.cls = RX2 ∧ yX2_reach.cls ≠ "java/lang/invoke/MethodHandle" ∧ yX2_reach.cls ≠ "java/lang/invoke/VarHandle" ∧ (parseMethodDescriptor yX2_reach.desc).map (fun d => d.parameters.length) = some 2 := by decide +kernel
theorem dX2_fill_0 : decode cX2_fill 0 = .ok (.aload_n 0, 1) := dk_42 (by decide +kernel)
theorem dX2_fill_1 : decode cX2_fill 1 = .ok (.getfield 24, 3) := dk_180 (by decide +kernel)
theorem dX2_fill_4 : decode cX2_fill 4 = .ok (.iconst 0, 1) := dk_3 (by decide +kernel)
theorem dX2_fill_5 : decode cX2_fill 5 = .ok (.invokestatic 49, 3) := dk_184 (by decide +kernel)
theorem dX2_fill_8 : decode cX2_fill 8 = .ok (.iconst 0, 1) := dk_3 (by decide +kernel)
theorem dX2_fill_9 : decode cX2_fill 9 = .ok (.istore_n 3, 1) := dk_62 (by decide +kernel)
theorem dX2_fill_10 : decode cX2_fill 10 = .ok (.iload_n 3, 1) := dk_29 (by decide +kernel)
theorem dX2_fill_11 : decode cX2_fill 11 = .ok (.aload_n 0, 1) := dk_42 (by decide +kernel)
theorem dX2_fill_12 : decode cX2_fill 12 = .ok (.getfield 45, 3) := dk_180 (by decide +kernel)
theorem dX2_fill_15 : decode cX2_fill 15 = .ok (.if_icmp .ge 39, 3) := dk_162 (by decide +kernel)
theorem dX2_fill_18 : decode cX2_fill 18 = .ok (.aload_n 0, 1) := dk_42 (by decide +kernel)
theorem dX2_fill_19 : decode cX2_fill 19 = .ok (.getfield 24, 3) := dk_180 (by decide +kernel)
theorem dX2_fill_22 : decode cX2_fill 22 = .ok (.aload_n 0, 1) := dk_42 (by decide +kernel)
theorem dX2_fill_23 : decode cX2_fill 23 = .ok (.getfield 11, 3) := dk_180 (by decide +kernel)
theorem dX2_fill_26 : decode cX2_fill 26 = .ok (.iload_n 3, 1) := dk_29 (by decide +kernel)
theorem dX2_fill_27 : decode cX2_fill 27 = .ok (.iaload, 1) := dk_46 (by decide +kernel)
theorem dX2_fill_28 : decode cX2_fill 28 = .ok (.bipush 12, 2) := dk_16 (by decide +kernel)
theorem dX2_fill_30 : decode cX2_fill 30 = .ok (.imul, 1) := dk_104 (by decide +kernel)
theorem dX2_fill_31 : decode cX2_fill 31 = .ok (.aload_n 0, 1) := dk_42 (by decide +kernel)
theorem dX2_fill_32 : decode cX2_fill 32 = .ok (.getfield 15, 3) := dk_180 (by decide +kernel)
theorem dX2_fill_35 : decode cX2_fill 35 = .ok (.iload_n 3, 1) := dk_29 (by decide +kernel)
theorem dX2_fill_36 : decode cX2_fill 36 = .ok (.iaload, 1) := dk_46 (by decide +kernel)
theorem dX2_fill_37 : decode cX2_fill 37 = .ok (.iadd, 1) := dk_96 (by decide +kernel)
theorem dX2_fill_38 : decode cX2_fill 38 = .ok (.dup2, 1) := dk_92 (by decide +kernel)
theorem dX2_fill_39 : decode cX2_fill 39 = .ok (.iaload, 1) := dk_46 (by decide +kernel)
theorem dX2_fill_40 : decode cX2_fill 40 = .ok (.aload_n 0, 1) := dk_42 (by decide +kernel)
theorem dX2_fill_41 : decode cX2_fill 41 = .ok (.getfield 18, 3) := dk_180 (by decide +kernel)
theorem dX2_fill_44 : decode cX2_fill 44 = .ok (.iload_n 3, 1) := dk_29 (by decide +kernel)
theorem dX2_fill_45 : decode cX2_fill 45 = .ok (.iaload, 1) := dk_46 (by decide +kernel)
theorem dX2_fill_46 : decode cX2_fill 46 = .ok (.iadd, 1) := dk_96 (by decide +kernel)
theorem dX2_fill_47 : decode cX2_fill 47 = .ok (.iastore, 1) := dk_79 (by decide +kernel)
theorem dX2_fill_48 : decode cX2_fill 48 = .ok (.iinc 3 1, 3) := dk_132 (by decide +kernel)
theorem dX2_fill_51 : decode cX2_fill 51 = .ok (.goto (-41), 3) := dk_167 (by decide +kernel)
theorem dX2_fill_54 : decode cX2_fill 54 = .ok (.iconst 0, 1) := dk_3 (by decide +kernel)
theorem dX2_fill_55 : decode cX2_fill 55 = .ok (.istore_n 3, 1) := dk_62 (by decide +kernel)
theorem dX2_fill_56 : decode cX2_fill 56 = .ok (.iconst 0, 1) := dk_3 (by decide +kernel)
theorem dX2_fill_57 : decode cX2_fill 57 = .ok (.istore 4, 2) := dk_54 (by decide +kernel)
theorem dX2_fill_59 : decode cX2_fill 59 = .ok (.iload 4, 2) := dk_21 (by decide +kernel)
theorem dX2_fill_61 : decode cX2_fill 61 = .ok (.ldc 55, 2) := dk_18 (by decide +kernel)
theorem dX2_fill_63 : decode cX2_fill 63 = .ok (.if_icmp .ge 166, 3) := dk_162 (by decide +kernel)
theorem dX2_fill_66 : decode cX2_fill 66 = .ok (.aload_n 0, 1) := dk_42 (by decide +kernel)
theorem dX2_fill_67 : decode cX2_fill 67 = .ok (.iload_n 1, 1) := dk_27 (by decide +kernel)
theorem dX2_fill_68 : decode cX2_fill 68 = .ok (.iload_n 2, 1) := dk_28 (by decide +kernel)
theorem dX2_fill_69 : decode cX2_fill 69 = .ok (.invokevirtual 56, 3) := dk_182 (by decide +kernel)
theorem dX2_fill_72 : decode cX2_fill 72 = .ok (.ifCond .eq 157, 3) := dk_153 (by decide +kernel)
theorem dX2_fill_75 : decode cX2_fill 75 = .ok (.ldc 60, 2) := dk_18 (by decide +kernel)
theorem dX2_fill_77 : decode cX2_fill 77 = .ok (.istore 5, 2) := dk_54 (by decide +kernel)
theorem dX2_fill_79 : decode cX2_fill 79 = .ok (.iload_n 2, 1) := dk_28 (by decide +kernel)
theorem dX2_fill_80 : decode cX2_fill 80 = .ok (.istore 6, 2) := dk_54 (by decide +kernel)
theorem dX2_fill_82 : decode cX2_fill 82 = .ok (.iconst 0, 1) := dk_3 (by decide +kernel)
theorem dX2_fill_83 : decode cX2_fill 83 = .ok (.istore 7, 2) := dk_54 (by decide +kernel)
theorem dX2_fill_85 : decode cX2_fill 85 = .ok (.iload 6, 2) := dk_21 (by decide +kernel)
theorem dX2_fill_87 : decode cX2_fill 87 = .ok (.iload_n 1, 1) := dk_27 (by decide +kernel)
theorem dX2_fill_88 : decode cX2_fill 88 = .ok (.if_icmp .eq 50, 3) := dk_159 (by decide +kernel)
theorem dX2_fill_91 : decode cX2_fill 91 = .ok (.iload 7, 2) := dk_21 (by decide +kernel)
theorem dX2_fill_93 : decode cX2_fill 93 = .ok (.bipush 12, 2) := dk_16 (by decide +kernel)
theorem dX2_fill_95 : decode cX2_fill 95 = .ok (.if_icmp .ge 43, 3) := dk_162 (by decide +kernel)
theorem dX2_fill_98 : decode cX2_fill 98 = .ok (.iload 5, 2) := dk_21 (by decide +kernel)
theorem dX2_fill_100 : decode cX2_fill 100 = .ok (.aload_n 0, 1) := dk_42 (by decide +kernel)
theorem dX2_fill_101 : decode cX2_fill 101 = .ok (.getfield 24, 3) := dk_180 (by decide +kernel)
theorem dX2_fill_104 : decode cX2_fill 104 = .ok (.aload_n 0, 1) := dk_42 (by decide +kernel)
theorem dX2_fill_105 : decode cX2_fill 105 = .ok (.getfield 27, 3) := dk_180 (by decide +kernel)
theorem dX2_fill_108 : decode cX2_fill 108 = .ok (.iload 6, 2) := dk_21 (by decide +kernel)
theorem dX2_fill_110 : decode cX2_fill 110 = .ok (.iaload, 1) := dk_46 (by decide +kernel)
theorem dX2_fill_111 : decode cX2_fill 111 = .ok (.bipush 12, 2) := dk_16 (by decide +kernel)
theorem dX2_fill_113 : decode cX2_fill 113 = .ok (.imul, 1) := dk_104 (by decide +kernel)
theorem dX2_fill_114 : decode cX2_fill 114 = .ok (.iload 6, 2) := dk_21 (by decide +kernel)
theorem dX2_fill_116 : decode cX2_fill 116 = .ok (.iadd, 1) := dk_96 (by decide +kernel)
theorem dX2_fill_117 : decode cX2_fill 117 = .ok (.iaload, 1) := dk_46 (by decide +kernel)
theorem dX2_fill_118 : decode cX2_fill 118 = .ok (.invokestatic 61, 3) := dk_184 (by decide +kernel)
theorem dX2_fill_121 : decode cX2_fill 121 = .ok (.istore 5, 2) := dk_54 (by decide +kernel)
theorem dX2_fill_123 : decode cX2_fill 123 = .ok (.aload_n 0, 1) := dk_42 (by decide +kernel)
theorem dX2_fill_124 : decode cX2_fill 124 = .ok (.getfield 27, 3) := dk_180 (by decide +kernel)
theorem dX2_fill_127 : decode cX2_fill 127 = .ok (.iload 6, 2) := dk_21 (by decide +kernel)
theorem dX2_fill_129 : decode cX2_fill 129 = .ok (.iaload, 1) := dk_46 (by decide +kernel)
theorem dX2_fill_130 : decode cX2_fill 130 = .ok (.istore 6, 2) := dk_54 (by decide +kernel)
theorem dX2_fill_132 : decode cX2_fill 132 = .ok (.iinc 7 1, 3) := dk_132 (by decide +kernel)
theorem dX2_fill_135 : decode cX2_fill 135 = .ok (.goto (-50), 3) := dk_167 (by decide +kernel)
theorem dX2_fill_138 : decode cX2_fill 138 = .ok (.iload_n 2, 1) := dk_28 (by decide +kernel)
theorem dX2_fill_139 : decode cX2_fill 139 = .ok (.istore 6, 2) := dk_54 (by decide +kernel)
theorem dX2_fill_141 : decode cX2_fill 141 = .ok (.iconst 0, 1) := dk_3 (by decide +kernel)
theorem dX2_fill_142 : decode cX2_fill 142 = .ok (.istore 7, 2) := dk_54 (by decide +kernel)
theorem dX2_fill_144 : decode cX2_fill 144 = .ok (.iload 6, 2) := dk_21 (by decide +kernel)
theorem dX2_fill_146 : decode cX2_fill 146 = .ok (.iload_n 1, 1) := dk_27 (by decide +kernel)
theorem dX2_fill_147 : decode cX2_fill 147 = .ok (.if_icmp .eq 71, 3) := dk_159 (by decide +kernel)
theorem dX2_fill_150 : decode cX2_fill 150 = .ok (.iload 7, 2) := dk_21 (by decide +kernel)
theorem dX2_fill_152 : decode cX2_fill 152 = .ok (.bipush 12, 2) := dk_16 (by decide +kernel)
theorem dX2_fill_154 : decode cX2_fill 154 = .ok (.if_icmp .ge 64, 3) := dk_162 (by decide +kernel)
theorem dX2_fill_157 : decode cX2_fill 157 = .ok (.aload_n 0, 1) := dk_42 (by decide +kernel)
theorem dX2_fill_158 : decode cX2_fill 158 = .ok (.getfield 24, 3) := dk_180 (by decide +kernel)
theorem dX2_fill_161 : decode cX2_fill 161 = .ok (.aload_n 0, 1) := dk_42 (by decide +kernel)
theorem dX2_fill_162 : decode cX2_fill 162 = .ok (.getfield 27, 3) := dk_180 (by decide +kernel)
theorem dX2_fill_165 : decode cX2_fill 165 = .ok (.iload 6, 2) := dk_21 (by decide +kernel)
theorem dX2_fill_167 : decode cX2_fill 167 = .ok (.iaload, 1) := dk_46 (by decide +kernel)
theorem dX2_fill_168 : decode cX2_fill 168 = .ok (.bipush 12, 2) := dk_16 (by decide +kernel)
theorem dX2_fill_170 : decode cX2_fill 170 = .ok (.imul, 1) := dk_104 (by decide +kernel)
theorem dX2_fill_171 : decode cX2_fill 171 = .ok (.iload 6, 2) := dk_21 (by decide +kernel)
theorem dX2_fill_173 : decode cX2_fill 173 = .ok (.iadd, 1) := dk_96 (by decide +kernel)
theorem dX2_fill_174 : decode cX2_fill 174 = .ok (.dup2, 1) := dk_92 (by decide +kernel)
theorem dX2_fill_175 : decode cX2_fill 175 = .ok (.iaload, 1) := dk_46 (by decide +kernel)
theorem dX2_fill_176 : decode cX2_fill 176 = .ok (.iload 5, 2) := dk_21 (by decide +kernel)
theorem dX2_fill_178 : decode cX2_fill 178 = .ok (.isub, 1) := dk_100 (by decide +kernel)
theorem dX2_fill_179 : decode cX2_fill 179 = .ok (.iastore, 1) := dk_79 (by decide +kernel)
theorem dX2_fill_180 : decode cX2_fill 180 = .ok (.aload_n 0, 1) := dk_42 (by decide +kernel)
theorem dX2_fill_181 : decode cX2_fill 181 = .ok (.getfield 24, 3) := dk_180 (by decide +kernel)
theorem dX2_fill_184 : decode cX2_fill 184 = .ok (.iload 6, 2) := dk_21 (by decide +kernel)
theorem dX2_fill_186 : decode cX2_fill 186 = .ok (.bipush 12, 2) := dk_16 (by decide +kernel)
theorem dX2_fill_188 : decode cX2_fill 188 = .ok (.imul, 1) := dk_104 (by decide +kernel)
theorem dX2_fill_189 : decode cX2_fill 189 = .ok (.aload_n 0, 1) := dk_42 (by decide +kernel)
theorem dX2_fill_190 : decode cX2_fill 190 = .ok (.getfield 27, 3) := dk_180 (by decide +kernel)
theorem dX2_fill_193 : decode cX2_fill 193 = .ok (.iload 6, 2) := dk_21 (by decide +kernel)
theorem dX2_fill_195 : decode cX2_fill 195 = .ok (.iaload, 1) := dk_46 (by decide +kernel)
theorem dX2_fill_196 : decode cX2_fill 196 = .ok (.iadd, 1) := dk_96 (by decide +kernel)
theorem dX2_fill_197 : decode cX2_fill 197 = .ok (.dup2, 1) := dk_92 (by decide +kernel)
theorem dX2_fill_198 : decode cX2_fill 198 = .ok (.iaload, 1) := dk_46 (by decide +kernel)
theorem dX2_fill_199 : decode cX2_fill 199 = .ok (.iload 5, 2) := dk_21 (by decide +kernel)
theorem dX2_fill_201 : decode cX2_fill 201 = .ok (.iadd, 1) := dk_96 (by decide +kernel)
theorem dX2_fill_202 : decode cX2_fill 202 = .ok (.iastore, 1) := dk_79 (by decide +kernel)
theorem dX2_fill_203 : decode cX2_fill 203 = .ok (.aload_n 0, 1) := dk_42 (by decide +kernel)
theorem dX2_fill_204 : decode cX2_fill 204 = .ok (.getfield 27, 3) := dk_180 (by decide +kernel)
theorem dX2_fill_207 : decode cX2_fill 207 = .ok (.iload 6, 2) := dk_21 (by decide +kernel)
theorem dX2_fill_209 : decode cX2_fill 209 = .ok (.iaload, 1) := dk_46 (by decide +kernel)
theorem dX2_fill_210 : decode cX2_fill 210 = .ok (.istore 6, 2) := dk_54 (by decide +kernel)
theorem dX2_fill_212 : decode cX2_fill 212 = .ok (.iinc 7 1, 3) := dk_132 (by decide +kernel)
theorem dX2_fill_215 : decode cX2_fill 215 = .ok (.goto (-71), 3) := dk_167 (by decide +kernel)
theorem dX2_fill_218 : decode cX2_fill 218 = .ok (.iload_n 3, 1) := dk_29 (by decide +kernel)
theorem dX2_fill_219 : decode cX2_fill 219 = .ok (.iload 5, 2) := dk_21 (by decide +kernel)
theorem dX2_fill_221 : decode cX2_fill 221 = .ok (.iadd, 1) := dk_96 (by decide +kernel)
theorem dX2_fill_222 : decode cX2_fill 222 = .ok (.istore_n 3, 1) := dk_62 (by decide +kernel)
theorem dX2_fill_223 : decode cX2_fill 223 = .ok (.iinc 4 1, 3) := dk_132 (by decide +kernel)
theorem dX2_fill_226 : decode cX2_fill 226 = .ok (.goto (-167), 3) := dk_167 (by decide +kernel)
theorem dX2_fill_229 : decode cX2_fill 229 = .ok (.iload_n 3, 1) := dk_29 (by decide +kernel)
theorem dX2_fill_230 : decode cX2_fill 230 = .ok (.ireturn, 1) := dk_172 (by decide +kernel)
def wsMX2_fill : List Cond := .code yX2_fill cX2_fill 8 (some .int) :: ([.fieldLink RX2 24 "OptimaWorks$NetDesk" "free" "[I", .fieldLink RX2 45 "OptimaWorks$NetDesk" "arcs" "I", .fieldLink RX2 11 "OptimaWorks$NetDesk" "from" "[I", .fieldLink RX2 15 "OptimaWorks$NetDesk" "to" "[I", .fieldLink RX2 18 "OptimaWorks$NetDesk" "room" "[I", .constant RX2 55 1000000, .constant RX2 60 536870912, .fieldLink RX2 27 "OptimaWorks$NetDesk" "before" "[I", .methodLink RX2 61 Lib.Math.min.name, .static Lib.Math.min.name, .initialized "java/lang/Math", .code Lib.Math.min.name Lib.Math.min.code 2 (some .int)] ++ wsX20 ++ (va_wsS RX2 49 yJ7_fill_53178 wsMJ7_fill_53178) ++ (wsV RX2 56 RX2 yX2_reach wsMX2_reach))
theorem iwsMX2_fill_in2 : ∀ w ∈ wsX20, w ∈ wsMX2_fill := fun _ h => List.mem_cons_of_mem _ (List.mem_append_left _ (List.mem_append_left _ (List.mem_append_right _ h)))
theorem gwsMX2_fill_0 : GoodIn wsMX2_fill (va_wsS RX2 49 yJ7_fill_53178 wsMJ7_fill_53178) := goodIn_sub (fun _ h => List.mem_cons_of_mem _ (List.mem_append_left _ (List.mem_append_right _ h))) (gdS (by decide +kernel) gdwsMJ7_fill_53178)
theorem gwsMX2_fill_1 : GoodIn wsMX2_fill (wsV RX2 56 RX2 yX2_reach wsMX2_reach) := goodIn_sub (fun _ h => List.mem_cons_of_mem _ (List.mem_append_right _ h)) (gdV (by decide +kernel) gdwsMX2_reach)
theorem gdwsMX2_fill : wsMX2_fill.all goodWord = true := gdC rfl (gdA (gdA (gdA (by decide +kernel : ([.fieldLink RX2 24 "OptimaWorks$NetDesk" "free" "[I", .fieldLink RX2 45 "OptimaWorks$NetDesk" "arcs" "I", .fieldLink RX2 11 "OptimaWorks$NetDesk" "from" "[I", .fieldLink RX2 15 "OptimaWorks$NetDesk" "to" "[I", .fieldLink RX2 18 "OptimaWorks$NetDesk" "room" "[I", .constant RX2 55 1000000, .constant RX2 60 536870912, .fieldLink RX2 27 "OptimaWorks$NetDesk" "before" "[I", .methodLink RX2 61 Lib.Math.min.name, .static Lib.Math.min.name, .initialized "java/lang/Math", .code Lib.Math.min.name Lib.Math.min.code 2 (some .int)] : List Cond).all goodWord = true) gdwsX20) (gdS (by decide +kernel) gdwsMJ7_fill_53178)) (gdV (by decide +kernel) gdwsMX2_reach))
theorem hm_m_X2_fill_0 : (.fieldLink RX2 24 "OptimaWorks$NetDesk" "free" "[I" : Cond) ∈ wsMX2_fill := by decide +kernel
theorem hm_m_X2_fill_1 : (.fieldLink RX2 27 "OptimaWorks$NetDesk" "before" "[I" : Cond) ∈ wsMX2_fill := by decide +kernel
set_option maxHeartbeats 4000000 in
set_option maxRecDepth 100000 in
/-- a greatest flow -/
theorem m_X2_fill (l : Launch) (dC : Nat → ClassId) (dI : Nat → Nat → Nat) (hN : Nat → Nat) (aN : Nat → Nat) (kN : Nat → ClassId) (iN_arcs : Int32) (fN_from : Nat → Int32) (fN_to : Nat → Int32) (fN_room : Nat → Int32) (fN_cost : Nat → Int32) (iN_reached : Int32) (fN_free : Nat → Int32) (fN_before : Nat → Int32) (fN_flow : Nat → Int32) (fN_length : Nat → Int32) (fN_stop : Nat → Int32) (iN_stops : Int32) (fN_price : Nat → Int32) (fN_rest : Nat → Int32) (p1 : Int32) (p2 : Int32) (b_iN_arcs : 0 ≤ iN_arcs.toInt ∧ iN_arcs.toInt ≤ 40) (b_fN_from : ∀ q : Nat, 0 ≤ (fN_from q).toInt ∧ (fN_from q).toInt ≤ 11) (b_fN_to : ∀ q : Nat, 0 ≤ (fN_to q).toInt ∧ (fN_to q).toInt ≤ 11) (b_fN_before : ∀ q : Nat, 0 ≤ (fN_before q).toInt ∧ (fN_before q).toInt ≤ 79) (b_fN_stop : ∀ q : Nat, 0 ≤ (fN_stop q).toInt ∧ (fN_stop q).toInt ≤ 11) (b_iN_stops : 0 ≤ iN_stops.toInt ∧ iN_stops.toInt ≤ 8) (b_p1 : 0 ≤ p1.toInt ∧ p1.toInt ≤ 11) (b_p2 : 0 ≤ p2.toInt ∧ p2.toInt ≤ 11) (hVal : tVal (iN_arcs.toInt, fN_from, fN_to, fN_room, fN_cost)) (hRm : tRm (iN_arcs.toInt, fN_from, fN_to, fN_room, fN_cost)) (hne : p1.toInt ≠ p2.toInt) (sz : Nat) : Met l yX2_fill wsMX2_fill ({ frames := 1, cells := 0, slots := 0, locals := 27 }) (va_Pc [.ref (hN 0), .int p1, .int p2] (fun U => U.heap.size = sz ∧ va_P (dC, dI) vwCl (WN hN aN kN iN_arcs fN_from fN_to fN_room fN_cost iN_reached fN_free fN_before fN_flow fN_length fN_stop iN_stops fN_price fN_rest) U.heap ∧ va_K (dC, dI) vwCl (tN kN) U ∧ va_D (fun _ => True) (WN hN aN kN iN_arcs fN_from fN_to fN_room fN_cost iN_reached fN_free fN_before fN_flow fN_length fN_stop iN_stops fN_price fN_rest))) (va_Qi (fun (r : Int32) (u : (Int32) × (Nat → Int32) × (Nat → Int32)) => (∀ q : Nat, 0 ≤ ((u.2.2) q).toInt ∧ ((u.2.2) q).toInt ≤ 79) ∧ (mxF (iN_arcs.toInt, fN_from, fN_to, fN_room, fN_cost) p1.toInt.toNat p2.toInt.toNat r.toInt) ∧ (mxC (iN_arcs.toInt, fN_from, fN_to, fN_room, fN_cost) p1.toInt.toNat p2.toInt.toNat (u.1))) (fun (u : (Int32) × (Nat → Int32) × (Nat → Int32)) t => va_P (dC, dI) vwCl (WN hN aN kN iN_arcs fN_from fN_to fN_room fN_cost (u.1) (u.2.1) (u.2.2) fN_flow fN_length fN_stop iN_stops fN_price fN_rest) t.heap ∧ va_D (va_A (WN hN aN kN iN_arcs fN_from fN_to fN_room fN_cost iN_reached fN_free fN_before fN_flow fN_length fN_stop iN_stops fN_price fN_rest) sz) (WN hN aN kN iN_arcs fN_from fN_to fN_room fN_cost (u.1) (u.2.1) (u.2.2) fN_flow fN_length fN_stop iN_stops fN_price fN_rest)) (va_A (WN hN aN kN iN_arcs fN_from fN_to fN_room fN_cost iN_reached fN_free fN_before fN_flow fN_length fN_stop iN_stops fN_price fN_rest) sz)) 0 0 (va_A (WN hN aN kN iN_arcs fN_from fN_to fN_room fN_cost iN_reached fN_free fN_before fN_flow fN_length fN_stop iN_stops fN_price fN_rest) sz) := by
  refine Met.ofW (cc := cX2_fill) (maxL := 8) (ret := (some .int)) (by decide) rfl ?_
  intro p e s m args below meth c s₁ B hml hv
  obtain ⟨rfl, hsz, hP, hK, hD0⟩ := hv
  have hx := B.exec
  have hb := B.bytes
  have hr := B.returns
  have hts := atoms_spec (ws := wsMX2_fill) B.pre
  have hown : s.vm.findClass RX2 = some m.cls := findClass_of_methodNamed B.named
  have hlocks := B.notSynchronized
  subst hsz
  have hD := hD0.self (sz := s.heap.size)
  generalize hAe : va_A (WN hN aN kN iN_arcs fN_from fN_to fN_room fN_cost iN_reached fN_free fN_before fN_flow fN_length fN_stop iN_stops fN_price fN_rest) s.heap.size = A at hD ⊢
  have hA : ∀ q : Nat, s.heap.size ≤ q → A q := fun q h => by rw [← hAe]; exact Or.inr h
  have hS : va_S A s.heap s.heap [] := va_S.rf
  have hl := lv_entry ([.ref (hN 0), .int p1, .int p2]) (n := 8) (Nat.le_of_ble_eq_true rfl)
  rw [lg_entry_eq]
  generalize (lg_sl ([.ref (hN 0), .int p1, .int p2]) ++ List.replicate (8 - (lg_sl ([.ref (hN 0), .int p1, .int p2])).length) Slot.unset).toArray = ls at hl ⊢
  have hl : lv_has ls 8 [(0, .ref (hN 0)), (1, .int p1), (2, .int p2)] := hl
  refine lv_aload_n hx hb dX2_fill_0 rfl (lv_at hl 0 rfl) ?_
  refine va_get (D := (dC, dI)) (ci := 2) (v := .ref (aN 4)) (C := RX2) (T := TX2) (N := 14) hx hb hts iwsMX2_fill_in2 hown hK hP 0 rfl rfl 6 (by decide) (hts _ hm_m_X2_fill_0) (fun _ h9 => h9) rfl dX2_fill_1 ?_
  refine lv_iconst (v := 0) hx hb dX2_fill_4 (by decide) ?_
  have hPc : va_P (dC, dI) vwCl (WY (fun _ => 0) (fun _ => aN 4) (fun _ => kN 4) 144 fN_free) _ := hP.sub [5] rfl
  have hDc : va_D _ (WY (fun _ => 0) (fun _ => aN 4) (fun _ => kN 4) 144 fN_free) := hD.sub [5] (by decide) rfl
  have hKc : va_K (dC, dI) vwCl (tY (fun _ => kN 4)) _ := hK.sub [4] rfl
  have hFc := va_free (wc := WY (fun _ => 0) (fun _ => aN 4) (fun _ => kN 4) 144 fN_free) hD hS hA [5] rfl
  refine va_callv (va_runS (As := [.ref (aN 4), .int 0]) (rest := []) ⟨hx, hb, hml, hown, hts⟩ (m_J7_fill_53178 l dC dI (fun _ => 0) (fun _ => aN 4) (fun _ => kN 4) 144 fN_free 0 (by first | assumption | exact ⟨by omega, by omega⟩) s.heap.size) (va_cwS 2 hts gwsMX2_fill_0 rfl rfl rfl (by decide +kernel) ⟨by decide +kernel, by decide +kernel⟩) ⟨fun a U g mk q => by obtain ⟨q0, q1, qP, qK, qD⟩ := q; exact ⟨q0, q1, qP, va_K.moved (u := U) (U := U.calling g mk a) (Vm.Alike.refl U.vm) qK, qD⟩, fun U hU9 hW => ⟨rfl, by rw [hU9], by rw [hU9]; exact hPc, va_K.moved hW.alike hKc, hDc.weaken (fun _ _ _ _ => trivial)⟩⟩ rfl rfl hl.1 rfl (lv_room (Nat.le_of_ble_eq_true rfl)) dX2_fill_5 (by decide +kernel)) hS (fun q _ h => hFc q h) hFc (fun fY_1 t9_ H locs ht hvm hw9 hB9 hz1 hk1 hS => ?_)
  have f1_0 := hw9
  try dsimp only at f1_0
  obtain ⟨hP, hD⟩ := va_join (wr := [(hN 0, .inr (2, [.int iN_arcs, .ref (aN 0), .ref (aN 1), .ref (aN 2), .ref (aN 3), .int iN_reached, .ref (aN 4), .ref (aN 5), .ref (aN 6), .ref (aN 7), .ref (aN 8), .int iN_stops, .ref (aN 9), .ref (aN 10)])), (aN 0, .inl (kN 0, 40, .inl fN_from)), (aN 1, .inl (kN 1, 40, .inl fN_to)), (aN 2, .inl (kN 2, 40, .inl fN_room)), (aN 3, .inl (kN 3, 40, .inl fN_cost)), (aN 5, .inl (kN 5, 12, .inl fN_before)), (aN 6, .inl (kN 6, 40, .inl fN_flow)), (aN 7, .inl (kN 7, 12, .inl fN_length)), (aN 8, .inl (kN 8, 8, .inl fN_stop)), (aN 9, .inl (kN 9, 64, .inl fN_price)), (aN 10, .inl (kN 10, 1024, .inl fN_rest))]) (w1 := WY (fun _ => 0) (fun _ => aN 4) (fun _ => kN 4) 144 fY_1) hP hD [5] [0, 1, 2, 3, 4, 6, 7, 8, 9, 10, 11] rfl rfl (by decide) (by decide) hk1 hFc (fz_P ht hB9.1) hB9.2
  have hP : va_P (dC, dI) vwCl (WN hN aN kN iN_arcs fN_from fN_to fN_room fN_cost iN_reached fY_1 fN_before fN_flow fN_length fN_stop iN_stops fN_price fN_rest) H := hP.sub [0, 1, 2, 3, 4, 11, 5, 6, 7, 8, 9, 10] rfl
  have hD : va_D A (WN hN aN kN iN_arcs fN_from fN_to fN_room fN_cost iN_reached fY_1 fN_before fN_flow fN_length fN_stop iN_stops fN_price fN_rest) := hD.sub [0, 1, 2, 3, 4, 11, 5, 6, 7, 8, 9, 10] (by decide) rfl
  have hfil := f1_0
  refine lv_iconst (v := 0) hx hb dX2_fill_8 (by decide) ?_
  refine lv_istore_n hx hb dX2_fill_9 rfl hl (by decide) rfl (fun ls (hl : lv_has ls _ ([(3, .int 0), (0, .ref (hN 0)), (1, .int p1), (2, .int p2)])) => ?_)
  have hl : lv_has _ _ ([(3, .int 0), (0, .ref (hN 0)), (1, .int p1), (2, .int p2)]) := lv_sub hl [0, 1, 2, 3] rfl
  refine (fun (loop : ∀ (n9 : Nat) (fN_free_x10 : Nat → Int32) (l3_x10 : Int32) (H : Heap) (locs : List Loc) (ls : Array Slot), (0 ≤ l3_x10.toInt ∧ l3_x10.toInt ≤ 40) → (mG (iN_arcs.toInt, fN_from, fN_to, fN_room, fN_cost) fN_free_x10 l3_x10.toInt.toNat) → (l3_x10.toInt ≤ iN_arcs.toInt) → (40 - l3_x10.toInt < ((n9 : Nat) : Int)) → va_P (dC, dI) vwCl (WN hN aN kN iN_arcs fN_from fN_to fN_room fN_cost iN_reached fN_free_x10 fN_before fN_flow fN_length fN_stop iN_stops fN_price fN_rest) H → va_D A (WN hN aN kN iN_arcs fN_from fN_to fN_room fN_cost iN_reached fN_free_x10 fN_before fN_flow fN_length fN_stop iN_stops fN_price fN_rest) → va_S A s.heap H locs → lv_has ls 8 [(3, .int l3_x10), (0, .ref (hN 0)), (1, .int p1), (2, .int p2)] → W p l e _ s m _ below meth c H locs 0 0 _ (F0 m 10 ls [])) => loop (41) fY_1 0 _ _ _ (show 0 ≤ (0 : Int32).toInt ∧ (0 : Int32).toInt ≤ 40 from by decide) (show mG (iN_arcs.toInt, fN_from, fN_to, fN_room, fN_cost) fY_1 (0 : Int32).toInt.toNat from mG.start (by decide) hfil) (show (0 : Int32).toInt ≤ iN_arcs.toInt from by have h7 : (0 : Int32).toInt = 0 := (by decide); omega) ((by have e9 : (0 : Int32).toInt = 0 := (by decide : (0 : Int32).toInt = 0); omega)) hP hD hS hl) ?_
  intro n9
  induction n9 with
  | zero => intro fN_free_x10 l3_x10 H locs ls b_l3_x10 hG hla hf9; exact False.elim (by omega)
  | succ n9 ihx10 =>
    intro fN_free_x10 l3_x10 H locs ls b_l3_x10 hG hla hfx10 hP hD hS hl
    refine lv_iload_n hx hb dX2_fill_10 rfl (lv_at hl 0 rfl) ?_
    refine lv_aload_n hx hb dX2_fill_11 rfl (lv_at hl 1 rfl) ?_
    refine va_get (D := (dC, dI)) (ci := 2) (v := .int iN_arcs) (C := RX2) (T := TX2) (N := 14) hx hb hts iwsMX2_fill_in2 hown hK hP 0 rfl rfl 0 (by decide) (hts (.fieldLink RX2 45 "OptimaWorks$NetDesk" "arcs" "I") (by decide +kernel)) (fun _ h9 => h9) rfl dX2_fill_12 ?_
    refine lv_icmp_ge (tgt := 54) hx hb dX2_fill_15 (by decide) (fun c_15 => ?_) (fun c_15 => ?_)
    · have t_15 : l3_x10.toInt ≥ iN_arcs.toInt := toI_ge c_15 rfl rfl
      refine lv_iconst (v := 0) hx hb dX2_fill_54 (by decide) ?_
      refine lv_istore_n hx hb dX2_fill_55 rfl hl (by decide) rfl (fun ls (hl : lv_has ls _ ([(3, .int 0), (0, .ref (hN 0)), (1, .int p1), (2, .int p2)])) => ?_)
      refine lv_iconst (v := 0) hx hb dX2_fill_56 (by decide) ?_
      refine lv_istore hx hb dX2_fill_57 hl (by decide) rfl (fun ls (hl : lv_has ls _ ([(4, .int 0), (3, .int 0), (0, .ref (hN 0)), (1, .int p1), (2, .int p2)])) => ?_)
      have hl : lv_has _ _ ([(4, .int 0), (3, .int 0), (0, .ref (hN 0)), (1, .int p1), (2, .int p2)]) := lv_sub hl [0, 1, 2, 3, 4] rfl
      refine (fun (loop : ∀ (n9 : Nat) (iN_reached_x59 : Int32) (fN_free_x59 : Nat → Int32) (fN_before_x59 : Nat → Int32) (l4_x59 : Int32) (l3_x59 : Int32) (H : Heap) (locs : List Loc) (ls : Array Slot), (∀ q : Nat, 0 ≤ (fN_before_x59 q).toInt ∧ (fN_before_x59 q).toInt ≤ 79) → (0 ≤ l4_x59.toInt ∧ l4_x59.toInt ≤ 1000000) → (mI (iN_arcs.toInt, fN_from, fN_to, fN_room, fN_cost) p1.toInt.toNat p2.toInt.toNat fN_free_x59 l3_x59.toInt) → (0 ≤ l3_x59.toInt ∧ l4_x59.toInt ≤ l3_x59.toInt) → (1000000 - l4_x59.toInt < ((n9 : Nat) : Int)) → va_P (dC, dI) vwCl (WN hN aN kN iN_arcs fN_from fN_to fN_room fN_cost iN_reached_x59 fN_free_x59 fN_before_x59 fN_flow fN_length fN_stop iN_stops fN_price fN_rest) H → va_D A (WN hN aN kN iN_arcs fN_from fN_to fN_room fN_cost iN_reached_x59 fN_free_x59 fN_before_x59 fN_flow fN_length fN_stop iN_stops fN_price fN_rest) → va_S A s.heap H locs → lv_has ls 8 [(4, .int l4_x59), (3, .int l3_x59), (0, .ref (hN 0)), (1, .int p1), (2, .int p2)] → W p l e _ s m _ below meth c H locs 0 0 _ (F0 m 59 ls [])) => loop (1000001) iN_reached fN_free_x10 fN_before 0 0 _ _ _ b_fN_before (show 0 ≤ (0 : Int32).toInt ∧ (0 : Int32).toInt ≤ 1000000 from by decide) (show mI (iN_arcs.toInt, fN_from, fN_to, fN_room, fN_cost) p1.toInt.toNat p2.toInt.toNat fN_free_x10 (0 : Int32).toInt from by rw [show (0 : Int32).toInt = 0 from by decide]; exact mG.done hG (by (try dsimp only); omega)) (show 0 ≤ (0 : Int32).toInt ∧ (0 : Int32).toInt ≤ (0 : Int32).toInt from by decide) ((by have e9 : (0 : Int32).toInt = 0 := (by decide : (0 : Int32).toInt = 0); omega)) hP hD hS hl) ?_
      intro n9
      induction n9 with
      | zero => intro iN_reached_x59 fN_free_x59 fN_before_x59 l4_x59 l3_x59 H locs ls b_fN_before_x59 b_l4_x59 hMI hsm hf9; exact False.elim (by omega)
      | succ n9 ihx59 =>
        intro iN_reached_x59 fN_free_x59 fN_before_x59 l4_x59 l3_x59 H locs ls b_fN_before_x59 b_l4_x59 hMI hsm hfx59 hP hD hS hl
        refine lv_iload hx hb dX2_fill_59 (lv_at hl 0 rfl) ?_
        refine lv_ldc (v := 1000000) hx hb hown (hts (.constant RX2 55 1000000) (by decide +kernel)) dX2_fill_61 ?_
        refine W.cut (pc := 229) (fun H locs ls stk => ∃ (iN_reached_j12 : Int32) (fN_before_j12 : Nat → Int32), (∀ q : Nat, 0 ≤ (fN_before_j12 q).toInt ∧ (fN_before_j12 q).toInt ≤ 79) ∧ (mxF (iN_arcs.toInt, fN_from, fN_to, fN_room, fN_cost) p1.toInt.toNat p2.toInt.toNat l3_x59.toInt ∧ mxC (iN_arcs.toInt, fN_from, fN_to, fN_room, fN_cost) p1.toInt.toNat p2.toInt.toNat iN_reached_j12) ∧  stk = [] ∧ va_P (dC, dI) vwCl (WN hN aN kN iN_arcs fN_from fN_to fN_room fN_cost iN_reached_j12 fN_free_x59 fN_before_j12 fN_flow fN_length fN_stop iN_stops fN_price fN_rest) H ∧ va_D A (WN hN aN kN iN_arcs fN_from fN_to fN_room fN_cost iN_reached_j12 fN_free_x59 fN_before_j12 fN_flow fN_length fN_stop iN_stops fN_price fN_rest) ∧ va_S A s.heap H locs ∧ lv_has ls 8 [(4, .int l4_x59), (3, .int l3_x59), (0, .ref (hN 0)), (1, .int p1), (2, .int p2)]) (fun join12 => ?_) ?_
        · refine lv_icmp_ge (tgt := 229) hx hb dX2_fill_63 (by decide) (fun c_63 => ?_) (fun c_63 => ?_)
          · have t_63 : l4_x59.toInt ≥ 1000000 := toI_ge c_63 rfl (by decide : (1000000 : Int32).toInt = 1000000)
            have hl : lv_has _ _ ([(4, .int l4_x59), (3, .int l3_x59), (0, .ref (hN 0)), (1, .int p1), (2, .int p2)]) := lv_sub hl [0, 1, 2, 3, 4] rfl
            exact join12 _ _ _ _ ⟨iN_reached_x59, fN_before_x59, b_fN_before_x59, (show mxF (iN_arcs.toInt, fN_from, fN_to, fN_room, fN_cost) p1.toInt.toNat p2.toInt.toNat l3_x59.toInt ∧ mxC (iN_arcs.toInt, fN_from, fN_to, fN_room, fN_cost) p1.toInt.toNat p2.toInt.toNat iN_reached_x59 from by first | (exfalso; have h9 := mI.lim hMI hRm (by (try dsimp only); omega) (by (try dsimp only); omega) (by omega); omega) | exact RE.max hMI hRE (hbn t_72) (by omega)), rfl, hP, hD, hS, hl⟩
          · have t_63 : ¬ l4_x59.toInt ≥ 1000000 := toI_nge c_63 rfl (by decide : (1000000 : Int32).toInt = 1000000)
            refine lv_aload_n hx hb dX2_fill_66 rfl (lv_at hl 2 rfl) ?_
            refine lv_iload_n hx hb dX2_fill_67 rfl (lv_at hl 3 rfl) ?_
            refine lv_iload_n hx hb dX2_fill_68 rfl (lv_at hl 4 rfl) ?_
            have hFc := allFree hD hS hA
            refine va_calli (va_runV (As := [.int p1, .int p2]) (rest := []) ⟨hx, hb, hml, hown, hts⟩ (m_X2_reach l dC dI hN aN kN iN_arcs fN_from fN_to fN_room fN_cost iN_reached_x59 fN_free_x59 fN_before_x59 fN_flow fN_length fN_stop iN_stops fN_price fN_rest p1 p2 (b_iN_arcs) b_fN_from b_fN_to b_fN_before_x59 b_fN_stop (b_iN_stops) (b_p1) (b_p2) H.size) (cwV 2 hts gwsMX2_fill_1 rfl rfl rfl hd_yX2_reach_RX2 (by decide +kernel)) (fz_pre (va_recv hK hP (ci := 2) (q0 := 0) rfl rfl) hP hK hD) rfl rfl hl.1 rfl (lv_room (Nat.le_of_ble_eq_true rfl)) dX2_fill_69 (by decide +kernel)) hS (fun q _ h => hFc q h) hFc (fun r4799 u t9_ H locs ht hvm hw9 hB9 hz1 hk1 hS => ?_)
            revert u hw9 hB9
            refine fz_p2 ?_
            intro iN_reached_4799 fN_before_4799 hw9 hB9
            try dsimp only at hw9 hB9
            revert hw9
            refine fz_a6 ?_
            intro b_fN_before_4799 b_r4799 f4799_0 f4799_1 f4799_2 f4799_3
            have hP : va_P (dC, dI) vwCl (WN hN aN kN iN_arcs fN_from fN_to fN_room fN_cost iN_reached_4799 fN_free_x59 fN_before_4799 fN_flow fN_length fN_stop iN_stops fN_price fN_rest) H := fz_P ht hB9.1
            have hD := fz_sd hP (hB9.2.weaken (fun _ q _ h => hFc q.1 h)) rfl
            have hRB := f4799_0
            have hbt := f4799_1
            have hRE := f4799_2
            have hbn := f4799_3
            refine lv_if_eq (tgt := 229) hx hb dX2_fill_72 (by decide) (fun c_72 => ?_) (fun c_72 => ?_)
            · have t_72 : r4799.toInt = 0 := toI_eq c_72 rfl (by decide : (0 : Int32).toInt = 0)
              have hl : lv_has _ _ ([(4, .int l4_x59), (3, .int l3_x59), (0, .ref (hN 0)), (1, .int p1), (2, .int p2)]) := lv_sub hl [0, 1, 2, 3, 4] rfl
              exact join12 _ _ _ _ ⟨iN_reached_4799, fN_before_4799, b_fN_before_4799, (show mxF (iN_arcs.toInt, fN_from, fN_to, fN_room, fN_cost) p1.toInt.toNat p2.toInt.toNat l3_x59.toInt ∧ mxC (iN_arcs.toInt, fN_from, fN_to, fN_room, fN_cost) p1.toInt.toNat p2.toInt.toNat iN_reached_4799 from by first | (exfalso; have h9 := mI.lim hMI hRm (by (try dsimp only); omega) (by (try dsimp only); omega) (by omega); omega) | exact RE.max hMI hRE (hbn t_72) (by omega)), rfl, hP, hD, hS, hl⟩
            · have t_72 : ¬ r4799.toInt = 0 := toI_neq c_72 rfl (by decide : (0 : Int32).toInt = 0)
              obtain ⟨⟨lev, hL⟩, hCl⟩ := hRE
              have hv40 := mI.lim hMI hRm (by (try dsimp only); omega) (by (try dsimp only); omega) (by omega)
              refine lv_ldc (v := 536870912) hx hb hown (hts (.constant RX2 60 536870912) (by decide +kernel)) dX2_fill_75 ?_
              refine lv_istore hx hb dX2_fill_77 hl (by decide) rfl (fun ls (hl : lv_has ls _ ([(5, .int 536870912), (4, .int l4_x59), (3, .int l3_x59), (0, .ref (hN 0)), (1, .int p1), (2, .int p2)])) => ?_)
              refine lv_iload_n hx hb dX2_fill_79 rfl (lv_at hl 5 rfl) ?_
              refine lv_istore hx hb dX2_fill_80 hl (by decide) rfl (fun ls (hl : lv_has ls _ ([(6, .int p2), (5, .int 536870912), (4, .int l4_x59), (3, .int l3_x59), (0, .ref (hN 0)), (1, .int p1), (2, .int p2)])) => ?_)
              refine lv_iconst (v := 0) hx hb dX2_fill_82 (by decide) ?_
              refine lv_istore hx hb dX2_fill_83 hl (by decide) rfl (fun ls (hl : lv_has ls _ ([(7, .int 0), (6, .int p2), (5, .int 536870912), (4, .int l4_x59), (3, .int l3_x59), (0, .ref (hN 0)), (1, .int p1), (2, .int p2)])) => ?_)
              have hl : lv_has _ _ ([(7, .int 0), (6, .int p2), (5, .int 536870912), (4, .int l4_x59), (3, .int l3_x59), (0, .ref (hN 0)), (1, .int p1), (2, .int p2)]) := lv_sub hl [0, 1, 2, 3, 4, 5, 6, 7] rfl
              refine (fun (loop : ∀ (n9 : Nat) (l7_x85 : Int32) (l6_x85 : Int32) (l5_x85 : Int32) (H : Heap) (locs : List Loc) (ls : Array Slot), (0 ≤ l7_x85.toInt ∧ l7_x85.toInt ≤ 12) → (0 ≤ l6_x85.toInt ∧ l6_x85.toInt ≤ 11) → (bt iN_reached_4799 l6_x85.toInt.toNat = true) → (Wk1 p2.toInt.toNat fN_free_x59 fN_before_4799 iN_reached_4799 lev l7_x85.toInt.toNat l6_x85.toInt.toNat l5_x85.toInt) → (12 - l7_x85.toInt < ((n9 : Nat) : Int)) → va_P (dC, dI) vwCl (WN hN aN kN iN_arcs fN_from fN_to fN_room fN_cost iN_reached_4799 fN_free_x59 fN_before_4799 fN_flow fN_length fN_stop iN_stops fN_price fN_rest) H → va_D A (WN hN aN kN iN_arcs fN_from fN_to fN_room fN_cost iN_reached_4799 fN_free_x59 fN_before_4799 fN_flow fN_length fN_stop iN_stops fN_price fN_rest) → va_S A s.heap H locs → lv_has ls 8 [(7, .int l7_x85), (6, .int l6_x85), (5, .int l5_x85), (4, .int l4_x59), (3, .int l3_x59), (0, .ref (hN 0)), (1, .int p1), (2, .int p2)] → W p l e _ s m _ below meth c H locs 0 0 _ (F0 m 85 ls [])) => loop (13) 0 p2 536870912 _ _ _ (show 0 ≤ (0 : Int32).toInt ∧ (0 : Int32).toInt ≤ 12 from by decide) (b_p2) (show bt iN_reached_4799 p2.toInt.toNat = true from hbt t_72) (show Wk1 p2.toInt.toNat fN_free_x59 fN_before_4799 iN_reached_4799 lev (0 : Int32).toInt.toNat p2.toInt.toNat (536870912 : Int32).toInt from Wk1.start hL (by omega) (hbt t_72) (by decide) rfl (by decide)) ((by have e9 : (0 : Int32).toInt = 0 := (by decide : (0 : Int32).toInt = 0); omega)) hP hD hS hl) ?_
              intro n9
              induction n9 with
              | zero => intro l7_x85 l6_x85 l5_x85 H locs ls b_l7_x85 b_l6_x85 hnd hW1 hf9; exact False.elim (by omega)
              | succ n9 ihx85 =>
                intro l7_x85 l6_x85 l5_x85 H locs ls b_l7_x85 b_l6_x85 hnd hW1 hfx85 hP hD hS hl
                refine lv_iload hx hb dX2_fill_85 (lv_at hl 1 rfl) ?_
                refine lv_iload_n hx hb dX2_fill_87 rfl (lv_at hl 6 rfl) ?_
                refine lv_icmp_eq (tgt := 138) hx hb dX2_fill_88 (by decide) (fun c_88 => ?_) (fun c_88 => ?_)
                · have t_88 : l6_x85.toInt = p1.toInt := toI_eq c_88 rfl rfl
                  have hms : l6_x85.toInt.toNat = p1.toInt.toNat := (by rw [t_88])
                  have hw1 := hW1.2.2.2.2.1
                  have hw80 := hW1.w80 hL (hbt t_72) (by omega) hMI hRm (by (try dsimp only); omega) (by (try dsimp only); omega) hsm.1 hv40 hms (by omega)
                  refine lv_iload_n hx hb dX2_fill_138 rfl (lv_at hl 7 rfl) ?_
                  refine lv_istore hx hb dX2_fill_139 hl (by decide) rfl (fun ls (hl : lv_has ls _ ([(6, .int p2), (7, .int l7_x85), (5, .int l5_x85), (4, .int l4_x59), (3, .int l3_x59), (0, .ref (hN 0)), (1, .int p1), (2, .int p2)])) => ?_)
                  refine lv_iconst (v := 0) hx hb dX2_fill_141 (by decide) ?_
                  refine lv_istore hx hb dX2_fill_142 hl (by decide) rfl (fun ls (hl : lv_has ls _ ([(7, .int 0), (6, .int p2), (5, .int l5_x85), (4, .int l4_x59), (3, .int l3_x59), (0, .ref (hN 0)), (1, .int p1), (2, .int p2)])) => ?_)
                  have hl : lv_has _ _ ([(7, .int 0), (6, .int p2), (5, .int l5_x85), (4, .int l4_x59), (3, .int l3_x59), (0, .ref (hN 0)), (1, .int p1), (2, .int p2)]) := lv_sub hl [0, 1, 2, 3, 4, 5, 6, 7] rfl
                  refine (fun (loop : ∀ (n9 : Nat) (fN_free_x144 : Nat → Int32) (l7_x144 : Int32) (l6_x144 : Int32) (H : Heap) (locs : List Loc) (ls : Array Slot), (0 ≤ l7_x144.toInt ∧ l7_x144.toInt ≤ 12) → (0 ≤ l6_x144.toInt ∧ l6_x144.toInt ≤ 11) → (bt iN_reached_4799 l6_x144.toInt.toNat = true) → (Wk2 p2.toInt.toNat fN_free_x59 fN_before_4799 fN_free_x144 iN_reached_4799 lev l5_x85.toInt l7_x85.toInt.toNat l7_x144.toInt.toNat l6_x144.toInt.toNat) → (12 - l7_x144.toInt < ((n9 : Nat) : Int)) → va_P (dC, dI) vwCl (WN hN aN kN iN_arcs fN_from fN_to fN_room fN_cost iN_reached_4799 fN_free_x144 fN_before_4799 fN_flow fN_length fN_stop iN_stops fN_price fN_rest) H → va_D A (WN hN aN kN iN_arcs fN_from fN_to fN_room fN_cost iN_reached_4799 fN_free_x144 fN_before_4799 fN_flow fN_length fN_stop iN_stops fN_price fN_rest) → va_S A s.heap H locs → lv_has ls 8 [(7, .int l7_x144), (6, .int l6_x144), (5, .int l5_x85), (4, .int l4_x59), (3, .int l3_x59), (0, .ref (hN 0)), (1, .int p1), (2, .int p2)] → W p l e _ s m _ below meth c H locs 0 0 _ (F0 m 144 ls [])) => loop (13) fN_free_x59 0 p2 _ _ _ (show 0 ≤ (0 : Int32).toInt ∧ (0 : Int32).toInt ≤ 12 from by decide) (b_p2) (show bt iN_reached_4799 p2.toInt.toNat = true from hbt t_72) (show Wk2 p2.toInt.toNat fN_free_x59 fN_before_4799 fN_free_x59 iN_reached_4799 lev l5_x85.toInt l7_x85.toInt.toNat (0 : Int32).toInt.toNat p2.toInt.toNat from Wk2.start hL (by omega) (hbt t_72) hMI.1 (by decide) rfl) ((by have e9 : (0 : Int32).toInt = 0 := (by decide : (0 : Int32).toInt = 0); omega)) hP hD hS hl) ?_
                  intro n9
                  induction n9 with
                  | zero => intro fN_free_x144 l7_x144 l6_x144 H locs ls b_l7_x144 b_l6_x144 hnd hW2 hf9; exact False.elim (by omega)
                  | succ n9 ihx144 =>
                    intro fN_free_x144 l7_x144 l6_x144 H locs ls b_l7_x144 b_l6_x144 hnd hW2 hfx144 hP hD hS hl
                    refine lv_iload hx hb dX2_fill_144 (lv_at hl 1 rfl) ?_
                    refine lv_iload_n hx hb dX2_fill_146 rfl (lv_at hl 6 rfl) ?_
                    refine lv_icmp_eq (tgt := 218) hx hb dX2_fill_147 (by decide) (fun c_147 => ?_) (fun c_147 => ?_)
                    · have t_147 : l6_x144.toInt = p1.toInt := toI_eq c_147 rfl rfl
                      refine lv_iload_n hx hb dX2_fill_218 rfl (lv_at hl 4 rfl) ?_
                      refine lv_iload hx hb dX2_fill_219 (lv_at hl 2 rfl) ?_
                      refine lv_iadd hx hb dX2_fill_221 ?_
                      refine lv_topi (fun y5059 hy5059 => ?_)
                      obtain rfl : (iI (l3_x59.toInt + l5_x85.toInt)) = y5059 := (hy5059.trans (iI_add2 (iI_of _) (iI_of _))).symm
                      refine lv_istore_n hx hb dX2_fill_222 rfl hl (by decide) rfl (fun ls (hl : lv_has ls _ ([(3, .int (iI (l3_x59.toInt + l5_x85.toInt))), (7, .int l7_x144), (6, .int l6_x144), (5, .int l5_x85), (4, .int l4_x59), (0, .ref (hN 0)), (1, .int p1), (2, .int p2)])) => ?_)
                      refine lv_iinc (v := (iI (l4_x59.toInt + 1))) hx hb dX2_fill_223 hl (k := 4) rfl (iI_add2 (iI_of _) (by decide : (1 : Int32) = iI 1)) (by decide) rfl (fun ls (hl : lv_has ls _ ([(4, .int (iI (l4_x59.toInt + 1))), (3, .int (iI (l3_x59.toInt + l5_x85.toInt))), (7, .int l7_x144), (6, .int l6_x144), (5, .int l5_x85), (0, .ref (hN 0)), (1, .int p1), (2, .int p2)])) => ?_)
                      refine lv_goto (tgt := 59) hx hb dX2_fill_226 (by decide) ?_
                      have hl : lv_has _ _ ([(4, .int (iI (l4_x59.toInt + 1))), (3, .int (iI (l3_x59.toInt + l5_x85.toInt))), (0, .ref (hN 0)), (1, .int p1), (2, .int p2)]) := lv_sub hl [0, 1, 5, 6, 7] rfl
                      exact ihx59 iN_reached_4799 fN_free_x144 fN_before_4799 (iI (l4_x59.toInt + 1)) (iI (l3_x59.toInt + l5_x85.toInt)) _ _ _ b_fN_before_4799 (iI_rng (Int.le_trans (by decide) (Int.add_le_add (b_l4_x59.1) (Int.le_refl _))) (by omega) (by decide) (by decide)) (show mI (iN_arcs.toInt, fN_from, fN_to, fN_room, fN_cost) p1.toInt.toNat p2.toInt.toNat fN_free_x144 (iI (l3_x59.toInt + l5_x85.toInt)).toInt from Wk2.done hW2 hMI (by omega) (iI_t (by omega) (by omega))) (show 0 ≤ (iI (l3_x59.toInt + l5_x85.toInt)).toInt ∧ (iI (l4_x59.toInt + 1)).toInt ≤ (iI (l3_x59.toInt + l5_x85.toInt)).toInt from by rw [iI_t (by omega) (by omega), iI_t (by omega) (by omega)]; omega) (by have e9 : ((iI (l4_x59.toInt + 1))).toInt = (l4_x59.toInt + 1) := (iI_t (Int.le_trans (by decide) (Int.add_le_add (b_l4_x59.1) (Int.le_refl _))) (Int.le_trans (Int.add_le_add (b_l4_x59.2) (Int.le_refl _)) (by decide))); omega) hP hD hS hl
                    · have t_147 : ¬ l6_x144.toInt = p1.toInt := toI_neq c_147 rfl rfl
                      have hst9 := hW2.2.2.2.1
                      refine lv_iload hx hb dX2_fill_150 (lv_at hl 0 rfl) ?_
                      refine lv_bipush (v := 12) hx hb dX2_fill_152 (by decide) ?_
                      refine lv_icmp_ge (tgt := 218) hx hb dX2_fill_154 (by decide) (fun c9 => False.elim (by have t9 : l7_x144.toInt ≥ 12 := toI_ge c9 rfl (by decide : (12 : Int32).toInt = 12); omega)) (fun c_154 => ?_)
                      have t_154 : ¬ l7_x144.toInt ≥ 12 := toI_nge c_154 rfl (by decide : (12 : Int32).toInt = 12)
                      refine lv_aload_n hx hb dX2_fill_157 rfl (lv_at hl 5 rfl) ?_
                      refine va_get (D := (dC, dI)) (ci := 2) (v := .ref (aN 4)) (C := RX2) (T := TX2) (N := 14) hx hb hts iwsMX2_fill_in2 hown hK hP 0 rfl rfl 6 (by decide) (hts _ hm_m_X2_fill_0) (fun _ h9 => h9) rfl dX2_fill_158 ?_
                      refine lv_aload_n hx hb dX2_fill_161 rfl (lv_at hl 5 rfl) ?_
                      refine va_get (D := (dC, dI)) (ci := 2) (v := .ref (aN 5)) (C := RX2) (T := TX2) (N := 14) hx hb hts iwsMX2_fill_in2 hown hK hP 0 rfl rfl 7 (by decide) (hts _ hm_m_X2_fill_1) (fun _ h9 => h9) rfl dX2_fill_162 ?_
                      refine lv_iload hx hb dX2_fill_165 (lv_at hl 1 rfl) ?_
                      refine va_iald (cA := kN 5) (n := 12) (f := fN_before_4799) hx hb hK hP 6 5 rfl rfl (vp_in_iff.mpr ⟨b_l6_x144.1, (Int.lt_of_le_of_lt (b_l6_x144.2) (by decide))⟩) dX2_fill_167 ?_
                      refine lv_topi (fun v5060 hv5060 => ?_)
                      have b_v5060 : 0 ≤ v5060.toInt ∧ v5060.toInt ≤ 11 ∧ bt iN_reached_4799 v5060.toInt.toNat = true := by rw [hv5060]; exact RB.at hRB (by omega) (by omega) hnd t_147
                      have b1_v5060 : v5060 = fN_before_4799 (l6_x144).toNatClampNeg := hv5060
                      clear hv5060
                      refine lv_bipush (v := 12) hx hb dX2_fill_168 (by decide) ?_
                      refine lv_imul hx hb dX2_fill_170 ?_
                      refine lv_topi (fun y5061 hy5061 => ?_)
                      obtain rfl : (iI (v5060.toInt * 12)) = y5061 := (hy5061.trans (iI_mul2 (iI_of _) (by decide : (12 : Int32) = iI 12))).symm
                      refine lv_iload hx hb dX2_fill_171 (lv_at hl 1 rfl) ?_
                      refine lv_iadd hx hb dX2_fill_173 ?_
                      refine lv_topi (fun y5062 hy5062 => ?_)
                      obtain rfl : (iI ((v5060.toInt * 12) + l6_x144.toInt)) = y5062 := (hy5062.trans (iI_add2 rfl (iI_of _))).symm
                      refine lv_dup2_11 hx hb dX2_fill_174 rfl rfl ?_
                      refine va_iald (cA := kN 4) (n := 144) (f := fN_free_x144) hx hb hK hP 5 4 rfl rfl (vp_iI (by omega) (by omega) (by decide)) dX2_fill_175 ?_
                      refine lv_topi (fun v5063 hv5063 => ?_)
                      have b_v5063 : v5063 = fN_free_x144 ((iI ((v5060.toInt * 12) + l6_x144.toInt))).toNatClampNeg := hv5063
                      clear hv5063
                      refine lv_iload hx hb dX2_fill_176 (lv_at hl 2 rfl) ?_
                      refine lv_isub hx hb dX2_fill_178 ?_
                      refine lv_topi (fun y5064 hy5064 => ?_)
                      obtain rfl : (iI (v5063.toInt - l5_x85.toInt)) = y5064 := (hy5064.trans (iI_sub2 (iI_of _) (iI_of _))).symm
                      refine va_iast (cA := kN 4) (n := 144) (f := fN_free_x144) hx hb hK hP hD hS 5 4 rfl rfl (vp_iI (by omega) (by omega) (by decide)) dX2_fill_179 (fun H locs hP hD hS => ?_)
                      obtain ⟨u5065, hu5065⟩ : ∃ f9, f9 = upd fN_free_x144 ((iI ((v5060.toInt * 12) + l6_x144.toInt))).toNatClampNeg (iI (v5063.toInt - l5_x85.toInt)) := ⟨_, rfl⟩
                      have hP : va_P (dC, dI) vwCl (WN hN aN kN iN_arcs fN_from fN_to fN_room fN_cost iN_reached_4799 u5065 fN_before_4799 fN_flow fN_length fN_stop iN_stops fN_price fN_rest) H := by rw [hu5065]; exact hP
                      have hD : va_D A (WN hN aN kN iN_arcs fN_from fN_to fN_room fN_cost iN_reached_4799 u5065 fN_before_4799 fN_flow fN_length fN_stop iN_stops fN_price fN_rest) := by rw [hu5065]; exact hD
                      have b_u5065 : u5065 = upd fN_free_x144 ((iI ((v5060.toInt * 12) + l6_x144.toInt))).toNatClampNeg (iI (v5063.toInt - l5_x85.toInt)) := hu5065
                      clear hu5065
                      refine lv_aload_n hx hb dX2_fill_180 rfl (lv_at hl 5 rfl) ?_
                      refine va_get (D := (dC, dI)) (ci := 2) (v := .ref (aN 4)) (C := RX2) (T := TX2) (N := 14) hx hb hts iwsMX2_fill_in2 hown hK hP 0 rfl rfl 6 (by decide) (hts _ hm_m_X2_fill_0) (fun _ h9 => h9) rfl dX2_fill_181 ?_
                      refine lv_iload hx hb dX2_fill_184 (lv_at hl 1 rfl) ?_
                      refine lv_bipush (v := 12) hx hb dX2_fill_186 (by decide) ?_
                      refine lv_imul hx hb dX2_fill_188 ?_
                      refine lv_topi (fun y5066 hy5066 => ?_)
                      obtain rfl : (iI (l6_x144.toInt * 12)) = y5066 := (hy5066.trans (iI_mul2 (iI_of _) (by decide : (12 : Int32) = iI 12))).symm
                      refine lv_aload_n hx hb dX2_fill_189 rfl (lv_at hl 5 rfl) ?_
                      refine va_get (D := (dC, dI)) (ci := 2) (v := .ref (aN 5)) (C := RX2) (T := TX2) (N := 14) hx hb hts iwsMX2_fill_in2 hown hK hP 0 rfl rfl 7 (by decide) (hts _ hm_m_X2_fill_1) (fun _ h9 => h9) rfl dX2_fill_190 ?_
                      refine lv_iload hx hb dX2_fill_193 (lv_at hl 1 rfl) ?_
                      refine va_iald (cA := kN 5) (n := 12) (f := fN_before_4799) hx hb hK hP 6 5 rfl rfl (vp_in_iff.mpr ⟨b_l6_x144.1, (Int.lt_of_le_of_lt (b_l6_x144.2) (by decide))⟩) dX2_fill_195 ?_
                      refine lv_topi (fun v5067 hv5067 => ?_)
                      have b_v5067 : 0 ≤ v5067.toInt ∧ v5067.toInt ≤ 11 ∧ bt iN_reached_4799 v5067.toInt.toNat = true := by rw [hv5067]; exact RB.at hRB (by omega) (by omega) hnd t_147
                      have b1_v5067 : v5067 = fN_before_4799 (l6_x144).toNatClampNeg := hv5067
                      clear hv5067
                      refine lv_iadd hx hb dX2_fill_196 ?_
                      refine lv_topi (fun y5068 hy5068 => ?_)
                      obtain rfl : (iI ((l6_x144.toInt * 12) + v5067.toInt)) = y5068 := (hy5068.trans (iI_add2 rfl (iI_of _))).symm
                      refine lv_dup2_11 hx hb dX2_fill_197 rfl rfl ?_
                      refine va_iald (cA := kN 4) (n := 144) (f := u5065) hx hb hK hP 5 4 rfl rfl (vp_iI (by omega) (by omega) (by decide)) dX2_fill_198 ?_
                      refine lv_topi (fun v5069 hv5069 => ?_)
                      have b_v5069 : v5069 = u5065 ((iI ((l6_x144.toInt * 12) + v5067.toInt))).toNatClampNeg := hv5069
                      clear hv5069
                      refine lv_iload hx hb dX2_fill_199 (lv_at hl 2 rfl) ?_
                      refine lv_iadd hx hb dX2_fill_201 ?_
                      refine lv_topi (fun y5070 hy5070 => ?_)
                      obtain rfl : (iI (v5069.toInt + l5_x85.toInt)) = y5070 := (hy5070.trans (iI_add2 (iI_of _) (iI_of _))).symm
                      refine va_iast (cA := kN 4) (n := 144) (f := u5065) hx hb hK hP hD hS 5 4 rfl rfl (vp_iI (by omega) (by omega) (by decide)) dX2_fill_202 (fun H locs hP hD hS => ?_)
                      obtain ⟨u5071, hu5071⟩ : ∃ f9, f9 = upd u5065 ((iI ((l6_x144.toInt * 12) + v5067.toInt))).toNatClampNeg (iI (v5069.toInt + l5_x85.toInt)) := ⟨_, rfl⟩
                      have hP : va_P (dC, dI) vwCl (WN hN aN kN iN_arcs fN_from fN_to fN_room fN_cost iN_reached_4799 u5071 fN_before_4799 fN_flow fN_length fN_stop iN_stops fN_price fN_rest) H := by rw [hu5071]; exact hP
                      have hD : va_D A (WN hN aN kN iN_arcs fN_from fN_to fN_room fN_cost iN_reached_4799 u5071 fN_before_4799 fN_flow fN_length fN_stop iN_stops fN_price fN_rest) := by rw [hu5071]; exact hD
                      have b_u5071 : u5071 = upd u5065 ((iI ((l6_x144.toInt * 12) + v5067.toInt))).toNatClampNeg (iI (v5069.toInt + l5_x85.toInt)) := hu5071
                      clear hu5071
                      refine lv_aload_n hx hb dX2_fill_203 rfl (lv_at hl 5 rfl) ?_
                      refine va_get (D := (dC, dI)) (ci := 2) (v := .ref (aN 5)) (C := RX2) (T := TX2) (N := 14) hx hb hts iwsMX2_fill_in2 hown hK hP 0 rfl rfl 7 (by decide) (hts _ hm_m_X2_fill_1) (fun _ h9 => h9) rfl dX2_fill_204 ?_
                      refine lv_iload hx hb dX2_fill_207 (lv_at hl 1 rfl) ?_
                      refine va_iald (cA := kN 5) (n := 12) (f := fN_before_4799) hx hb hK hP 6 5 rfl rfl (vp_in_iff.mpr ⟨b_l6_x144.1, (Int.lt_of_le_of_lt (b_l6_x144.2) (by decide))⟩) dX2_fill_209 ?_
                      refine lv_topi (fun v5072 hv5072 => ?_)
                      have b_v5072 : 0 ≤ v5072.toInt ∧ v5072.toInt ≤ 11 ∧ bt iN_reached_4799 v5072.toInt.toNat = true := by rw [hv5072]; exact RB.at hRB (by omega) (by omega) hnd t_147
                      have b1_v5072 : v5072 = fN_before_4799 (l6_x144).toNatClampNeg := hv5072
                      clear hv5072
                      refine lv_istore hx hb dX2_fill_210 hl (by decide) rfl (fun ls (hl : lv_has ls _ ([(6, .int v5072), (7, .int l7_x144), (5, .int l5_x85), (4, .int l4_x59), (3, .int l3_x59), (0, .ref (hN 0)), (1, .int p1), (2, .int p2)])) => ?_)
                      refine lv_iinc (v := (iI (l7_x144.toInt + 1))) hx hb dX2_fill_212 hl (k := 1) rfl (iI_add2 (iI_of _) (by decide : (1 : Int32) = iI 1)) (by decide) rfl (fun ls (hl : lv_has ls _ ([(7, .int (iI (l7_x144.toInt + 1))), (6, .int v5072), (5, .int l5_x85), (4, .int l4_x59), (3, .int l3_x59), (0, .ref (hN 0)), (1, .int p1), (2, .int p2)])) => ?_)
                      refine lv_goto (tgt := 144) hx hb dX2_fill_215 (by decide) ?_
                      have hl : lv_has _ _ ([(7, .int (iI (l7_x144.toInt + 1))), (6, .int v5072), (5, .int l5_x85), (4, .int l4_x59), (3, .int l3_x59), (0, .ref (hN 0)), (1, .int p1), (2, .int p2)]) := lv_sub hl [0, 1, 2, 3, 4, 5, 6, 7] rfl
                      exact ihx144 u5071 (iI (l7_x144.toInt + 1)) v5072 _ _ _ (iI_rng (Int.le_trans (by decide) (Int.add_le_add (b_l7_x144.1) (Int.le_refl _))) (by omega) (by decide) (by decide)) (by first | exact b_v5072 | with_reducible assumption | exact ⟨by omega, by omega⟩ | assumption) (show bt iN_reached_4799 v5072.toInt.toNat = true from b_v5072.2.2) (show Wk2 p2.toInt.toNat fN_free_x59 fN_before_4799 u5071 iN_reached_4799 lev l5_x85.toInt l7_x85.toInt.toNat (iI (l7_x144.toInt + 1)).toInt.toNat v5072.toInt.toNat from by have hns : l6_x144.toInt.toNat ≠ p1.toInt.toNat := (by omega); have ea : v5060.toInt.toNat = (fN_before_4799 l6_x144.toInt.toNat).toInt.toNat := (by rw [b1_v5060]; rfl); have eb : v5067.toInt.toNat = (fN_before_4799 l6_x144.toInt.toNat).toInt.toNat := (by rw [b1_v5067]; rfl); have ec : v5072.toInt.toNat = (fN_before_4799 l6_x144.toInt.toNat).toInt.toNat := (by rw [b1_v5072]; rfl); have hat := hW2.at hL hns; have hwd := hW2.wid hL hW1 hms hns; have ha1 := hat.1; rw [← ec] at ha1 hat hwd; have hpn : v5072.toInt.toNat ≠ l6_x144.toInt.toNat := (fun e9 => by have h9 := hat.2.2.2.1; rw [e9] at h9; omega); have hhi := hW2.hi hMI hRm (by (try dsimp only); omega) (by (try dsimp only); omega) hsm.1 hv40 (by omega) ha1 hpn; have hlo := hW2.2.2.2.2.2.1 (12 * l6_x144.toInt.toNat + v5072.toInt.toNat) (by omega); have ei1 : ((iI ((v5060.toInt * 12) + l6_x144.toInt))).toNatClampNeg = 12 * v5072.toInt.toNat + l6_x144.toInt.toNat := (by rw [ec, ← ea]; show (iI (v5060.toInt * 12 + l6_x144.toInt)).toInt.toNat = _; rw [iI_t (by omega) (by omega)]; omega); have ei2 : ((iI ((l6_x144.toInt * 12) + v5067.toInt))).toNatClampNeg = 12 * l6_x144.toInt.toNat + v5072.toInt.toNat := (by rw [ec, ← eb]; show (iI (l6_x144.toInt * 12 + v5067.toInt)).toInt.toNat = _; rw [iI_t (by omega) (by omega)]; omega); have hg9 : l5_x85.toInt ≤ v5063.toInt := (by rw [b_v5063, ei1]; exact hwd); have hl9 := Int32.toInt_lt v5063; have hy9 : v5069 = fN_free_x144 (12 * l6_x144.toInt.toNat + v5072.toInt.toNat) := (by rw [b_v5069, b_u5065, ei2]; exact if_neg (by rw [ei1]; omega)); rw [← hy9] at hhi hlo; exact Wk2.step hW2 hL hW1 hms hns ec (by rw [iI_t (by omega) (by omega)]; omega) ei1 ei2 b_u5065 (by rw [← b_v5063]; exact iI_t (by omega) (by omega)) b_u5071 (by rw [← b_v5069]; exact iI_t (by omega) (by omega))) (by have e9 : ((iI (l7_x144.toInt + 1))).toInt = (l7_x144.toInt + 1) := (iI_t (Int.le_trans (by decide) (Int.add_le_add (b_l7_x144.1) (Int.le_refl _))) (Int.le_trans (Int.add_le_add (b_l7_x144.2) (Int.le_refl _)) (by decide))); omega) hP hD hS hl
                · have t_88 : ¬ l6_x85.toInt = p1.toInt := toI_neq c_88 rfl rfl
                  have hst9 := hW1.2.2.2.1
                  refine lv_iload hx hb dX2_fill_91 (lv_at hl 0 rfl) ?_
                  refine lv_bipush (v := 12) hx hb dX2_fill_93 (by decide) ?_
                  refine lv_icmp_ge (tgt := 138) hx hb dX2_fill_95 (by decide) (fun c9 => False.elim (by have t9 : l7_x85.toInt ≥ 12 := toI_ge c9 rfl (by decide : (12 : Int32).toInt = 12); omega)) (fun c_95 => ?_)
                  have t_95 : ¬ l7_x85.toInt ≥ 12 := toI_nge c_95 rfl (by decide : (12 : Int32).toInt = 12)
                  refine lv_iload hx hb dX2_fill_98 (lv_at hl 2 rfl) ?_
                  refine lv_aload_n hx hb dX2_fill_100 rfl (lv_at hl 5 rfl) ?_
                  refine va_get (D := (dC, dI)) (ci := 2) (v := .ref (aN 4)) (C := RX2) (T := TX2) (N := 14) hx hb hts iwsMX2_fill_in2 hown hK hP 0 rfl rfl 6 (by decide) (hts _ hm_m_X2_fill_0) (fun _ h9 => h9) rfl dX2_fill_101 ?_
                  refine lv_aload_n hx hb dX2_fill_104 rfl (lv_at hl 5 rfl) ?_
                  refine va_get (D := (dC, dI)) (ci := 2) (v := .ref (aN 5)) (C := RX2) (T := TX2) (N := 14) hx hb hts iwsMX2_fill_in2 hown hK hP 0 rfl rfl 7 (by decide) (hts _ hm_m_X2_fill_1) (fun _ h9 => h9) rfl dX2_fill_105 ?_
                  refine lv_iload hx hb dX2_fill_108 (lv_at hl 1 rfl) ?_
                  refine va_iald (cA := kN 5) (n := 12) (f := fN_before_4799) hx hb hK hP 6 5 rfl rfl (vp_in_iff.mpr ⟨b_l6_x85.1, (Int.lt_of_le_of_lt (b_l6_x85.2) (by decide))⟩) dX2_fill_110 ?_
                  refine lv_topi (fun v5073 hv5073 => ?_)
                  have b_v5073 : 0 ≤ v5073.toInt ∧ v5073.toInt ≤ 11 ∧ bt iN_reached_4799 v5073.toInt.toNat = true := by rw [hv5073]; exact RB.at hRB (by omega) (by omega) hnd t_88
                  have b1_v5073 : v5073 = fN_before_4799 (l6_x85).toNatClampNeg := hv5073
                  clear hv5073
                  refine lv_bipush (v := 12) hx hb dX2_fill_111 (by decide) ?_
                  refine lv_imul hx hb dX2_fill_113 ?_
                  refine lv_topi (fun y5074 hy5074 => ?_)
                  obtain rfl : (iI (v5073.toInt * 12)) = y5074 := (hy5074.trans (iI_mul2 (iI_of _) (by decide : (12 : Int32) = iI 12))).symm
                  refine lv_iload hx hb dX2_fill_114 (lv_at hl 1 rfl) ?_
                  refine lv_iadd hx hb dX2_fill_116 ?_
                  refine lv_topi (fun y5075 hy5075 => ?_)
                  obtain rfl : (iI ((v5073.toInt * 12) + l6_x85.toInt)) = y5075 := (hy5075.trans (iI_add2 rfl (iI_of _))).symm
                  refine va_iald (cA := kN 4) (n := 144) (f := fN_free_x59) hx hb hK hP 5 4 rfl rfl (vp_iI (by omega) (by omega) (by decide)) dX2_fill_117 ?_
                  refine lv_topi (fun v5076 hv5076 => ?_)
                  have b_v5076 : v5076 = fN_free_x59 ((iI ((v5073.toInt * 12) + l6_x85.toInt))).toNatClampNeg := hv5076
                  clear hv5076
                  refine va_mmin hx hb (by rw [hml]; exact hl.1.symm) hown (hts (.methodLink RX2 61 Lib.Math.min.name) (by decide +kernel)) (hts (.static Lib.Math.min.name) (by decide +kernel)) (hts (.initialized "java/lang/Math") (by decide +kernel)) (hts (.code Lib.Math.min.name Lib.Math.min.code 2 (some .int)) (by decide +kernel)) (by decide +kernel) (Nat.le_of_ble_eq_true rfl) (by decide +kernel) (by decide +kernel) dX2_fill_118 ?_
                  refine lv_topi (fun v5077 hv5077 => ?_)
                  have b_v5077 : (v5077.toInt ≤ l5_x85.toInt ∧ v5077.toInt ≤ v5076.toInt) ∧ (v5077.toInt = l5_x85.toInt ∨ v5077.toInt = v5076.toInt) := by rw [hv5077]; exact min_t rfl rfl
                  clear hv5077
                  refine lv_istore hx hb dX2_fill_121 hl (by decide) rfl (fun ls (hl : lv_has ls _ ([(5, .int v5077), (7, .int l7_x85), (6, .int l6_x85), (4, .int l4_x59), (3, .int l3_x59), (0, .ref (hN 0)), (1, .int p1), (2, .int p2)])) => ?_)
                  refine lv_aload_n hx hb dX2_fill_123 rfl (lv_at hl 5 rfl) ?_
                  refine va_get (D := (dC, dI)) (ci := 2) (v := .ref (aN 5)) (C := RX2) (T := TX2) (N := 14) hx hb hts iwsMX2_fill_in2 hown hK hP 0 rfl rfl 7 (by decide) (hts _ hm_m_X2_fill_1) (fun _ h9 => h9) rfl dX2_fill_124 ?_
                  refine lv_iload hx hb dX2_fill_127 (lv_at hl 2 rfl) ?_
                  refine va_iald (cA := kN 5) (n := 12) (f := fN_before_4799) hx hb hK hP 6 5 rfl rfl (vp_in_iff.mpr ⟨b_l6_x85.1, (Int.lt_of_le_of_lt (b_l6_x85.2) (by decide))⟩) dX2_fill_129 ?_
                  refine lv_topi (fun v5078 hv5078 => ?_)
                  have b_v5078 : 0 ≤ v5078.toInt ∧ v5078.toInt ≤ 11 ∧ bt iN_reached_4799 v5078.toInt.toNat = true := by rw [hv5078]; exact RB.at hRB (by omega) (by omega) hnd t_88
                  have b1_v5078 : v5078 = fN_before_4799 (l6_x85).toNatClampNeg := hv5078
                  clear hv5078
                  refine lv_istore hx hb dX2_fill_130 hl (by decide) rfl (fun ls (hl : lv_has ls _ ([(6, .int v5078), (5, .int v5077), (7, .int l7_x85), (4, .int l4_x59), (3, .int l3_x59), (0, .ref (hN 0)), (1, .int p1), (2, .int p2)])) => ?_)
                  refine lv_iinc (v := (iI (l7_x85.toInt + 1))) hx hb dX2_fill_132 hl (k := 2) rfl (iI_add2 (iI_of _) (by decide : (1 : Int32) = iI 1)) (by decide) rfl (fun ls (hl : lv_has ls _ ([(7, .int (iI (l7_x85.toInt + 1))), (6, .int v5078), (5, .int v5077), (4, .int l4_x59), (3, .int l3_x59), (0, .ref (hN 0)), (1, .int p1), (2, .int p2)])) => ?_)
                  refine lv_goto (tgt := 85) hx hb dX2_fill_135 (by decide) ?_
                  have hl : lv_has _ _ ([(7, .int (iI (l7_x85.toInt + 1))), (6, .int v5078), (5, .int v5077), (4, .int l4_x59), (3, .int l3_x59), (0, .ref (hN 0)), (1, .int p1), (2, .int p2)]) := lv_sub hl [0, 1, 2, 3, 4, 5, 6, 7] rfl
                  exact ihx85 (iI (l7_x85.toInt + 1)) v5078 v5077 _ _ _ (iI_rng (Int.le_trans (by decide) (Int.add_le_add (b_l7_x85.1) (Int.le_refl _))) (by omega) (by decide) (by decide)) (by first | exact b_v5078 | with_reducible assumption | exact ⟨by omega, by omega⟩ | assumption) (show bt iN_reached_4799 v5078.toInt.toNat = true from b_v5078.2.2) (show Wk1 p2.toInt.toNat fN_free_x59 fN_before_4799 iN_reached_4799 lev (iI (l7_x85.toInt + 1)).toInt.toNat v5078.toInt.toNat v5077.toInt from by have hns : l6_x85.toInt.toNat ≠ p1.toInt.toNat := (by omega); have hat := hW1.at hL hns; have ea : v5073.toInt.toNat = (fN_before_4799 l6_x85.toInt.toNat).toInt.toNat := (by rw [b1_v5073]; rfl); have eb : v5078.toInt.toNat = (fN_before_4799 l6_x85.toInt.toNat).toInt.toNat := (by rw [b1_v5078]; rfl); have ei : ((iI ((v5073.toInt * 12) + l6_x85.toInt))).toNatClampNeg = 12 * v5078.toInt.toNat + l6_x85.toInt.toNat := (by rw [eb, ← ea]; show (iI (v5073.toInt * 12 + l6_x85.toInt)).toInt.toNat = _; rw [iI_t (by omega) (by omega)]; omega); have hx7 : v5076.toInt = (fN_free_x59 (12 * v5078.toInt.toNat + l6_x85.toInt.toNat)).toInt := (by rw [← ei, ← b_v5076]); rw [← eb, ← hx7] at hat; have hp9 := hat.2.2.2.2; have hw9_ := hW1.2.2.2.2.1; exact Wk1.step hW1 hL hns eb (by rw [iI_t (by omega) (by omega)]; omega) (by omega) (by rw [← hx7]; omega) (by omega)) (by have e9 : ((iI (l7_x85.toInt + 1))).toInt = (l7_x85.toInt + 1) := (iI_t (Int.le_trans (by decide) (Int.add_le_add (b_l7_x85.1) (Int.le_refl _))) (Int.le_trans (Int.add_le_add (b_l7_x85.2) (Int.le_refl _)) (by decide))); omega) hP hD hS hl
        · intro H locs ls stk
          refine fz_e2 ?_
          intro iN_reached_j12 fN_before_j12
          refine fz_a7 ?_
          intro b_fN_before_j12 hfe hst9_2 hP hD hS hl
          subst hst9_2
          refine lv_iload_n hx hb dX2_fill_229 rfl (lv_at hl 1 rfl) ?_
          refine W.widen (k := 0) (n := 0) (by decide +kernel) (by decide +kernel) ?_
          exact W.iret (v := l3_x59) hx hb hr (fun t9_ ht hW => ⟨⟨l3_x59, (iN_reached_j12, fN_free_x59, fN_before_j12), rfl, ⟨b_fN_before_j12, (by (try dsimp only); exact (hfe.1)), (by (try dsimp only); exact (hfe.2))⟩, by rw [ht]; exact hP, hD⟩, hS.F ht⟩) hS.2.2 dX2_fill_230
    · have t_15 : ¬ l3_x10.toInt ≥ iN_arcs.toInt := toI_nge c_15 rfl rfl
      refine lv_aload_n hx hb dX2_fill_18 rfl (lv_at hl 1 rfl) ?_
      refine va_get (D := (dC, dI)) (ci := 2) (v := .ref (aN 4)) (C := RX2) (T := TX2) (N := 14) hx hb hts iwsMX2_fill_in2 hown hK hP 0 rfl rfl 6 (by decide) (hts _ hm_m_X2_fill_0) (fun _ h9 => h9) rfl dX2_fill_19 ?_
      refine lv_aload_n hx hb dX2_fill_22 rfl (lv_at hl 1 rfl) ?_
      refine va_get (D := (dC, dI)) (ci := 2) (v := .ref (aN 0)) (C := RX2) (T := TX2) (N := 14) hx hb hts iwsMX2_fill_in2 hown hK hP 0 rfl rfl 1 (by decide) (hts (.fieldLink RX2 11 "OptimaWorks$NetDesk" "from" "[I") (by decide +kernel)) (fun _ h9 => h9) rfl dX2_fill_23 ?_
      refine lv_iload_n hx hb dX2_fill_26 rfl (lv_at hl 0 rfl) ?_
      refine va_iald (cA := kN 0) (n := 40) (f := fN_from) hx hb hK hP 1 0 rfl rfl (vp_in_iff.mpr ⟨b_l3_x10.1, (Int.lt_of_lt_of_le (Int.not_le.mp t_15) (Int.le_trans b_iN_arcs.2 (by decide)))⟩) dX2_fill_27 ?_
      refine lv_topi (fun v5079 hv5079 => ?_)
      have b_v5079 : 0 ≤ v5079.toInt ∧ v5079.toInt ≤ 11 := by rw [hv5079]; exact b_fN_from _
      have b1_v5079 : v5079 = fN_from (l3_x10).toNatClampNeg := hv5079
      clear hv5079
      refine lv_bipush (v := 12) hx hb dX2_fill_28 (by decide) ?_
      refine lv_imul hx hb dX2_fill_30 ?_
      refine lv_topi (fun y5080 hy5080 => ?_)
      obtain rfl : (iI (v5079.toInt * 12)) = y5080 := (hy5080.trans (iI_mul2 (iI_of _) (by decide : (12 : Int32) = iI 12))).symm
      refine lv_aload_n hx hb dX2_fill_31 rfl (lv_at hl 1 rfl) ?_
      refine va_get (D := (dC, dI)) (ci := 2) (v := .ref (aN 1)) (C := RX2) (T := TX2) (N := 14) hx hb hts iwsMX2_fill_in2 hown hK hP 0 rfl rfl 2 (by decide) (hts (.fieldLink RX2 15 "OptimaWorks$NetDesk" "to" "[I") (by decide +kernel)) (fun _ h9 => h9) rfl dX2_fill_32 ?_
      refine lv_iload_n hx hb dX2_fill_35 rfl (lv_at hl 0 rfl) ?_
      refine va_iald (cA := kN 1) (n := 40) (f := fN_to) hx hb hK hP 2 1 rfl rfl (vp_in_iff.mpr ⟨b_l3_x10.1, (Int.lt_of_lt_of_le (Int.not_le.mp t_15) (Int.le_trans b_iN_arcs.2 (by decide)))⟩) dX2_fill_36 ?_
      refine lv_topi (fun v5081 hv5081 => ?_)
      have b_v5081 : 0 ≤ v5081.toInt ∧ v5081.toInt ≤ 11 := by rw [hv5081]; exact b_fN_to _
      have b1_v5081 : v5081 = fN_to (l3_x10).toNatClampNeg := hv5081
      clear hv5081
      refine lv_iadd hx hb dX2_fill_37 ?_
      refine lv_topi (fun y5082 hy5082 => ?_)
      obtain rfl : (iI ((v5079.toInt * 12) + v5081.toInt)) = y5082 := (hy5082.trans (iI_add2 rfl (iI_of _))).symm
      refine lv_dup2_11 hx hb dX2_fill_38 rfl rfl ?_
      refine va_iald (cA := kN 4) (n := 144) (f := fN_free_x10) hx hb hK hP 5 4 rfl rfl (vp_iI (Int.le_trans (by decide) (Int.add_le_add (Int.mul_le_mul_of_nonneg_right (b_v5079.1) (by decide)) (b_v5081.1))) (Int.lt_of_le_of_lt (Int.add_le_add (Int.mul_le_mul_of_nonneg_right (b_v5079.2) (by decide)) (b_v5081.2)) (by decide)) (by decide)) dX2_fill_39 ?_
      refine lv_topi (fun v5083 hv5083 => ?_)
      have b_v5083 : v5083 = fN_free_x10 ((iI ((v5079.toInt * 12) + v5081.toInt))).toNatClampNeg := hv5083
      clear hv5083
      refine lv_aload_n hx hb dX2_fill_40 rfl (lv_at hl 1 rfl) ?_
      refine va_get (D := (dC, dI)) (ci := 2) (v := .ref (aN 2)) (C := RX2) (T := TX2) (N := 14) hx hb hts iwsMX2_fill_in2 hown hK hP 0 rfl rfl 3 (by decide) (hts (.fieldLink RX2 18 "OptimaWorks$NetDesk" "room" "[I") (by decide +kernel)) (fun _ h9 => h9) rfl dX2_fill_41 ?_
      refine lv_iload_n hx hb dX2_fill_44 rfl (lv_at hl 0 rfl) ?_
      refine va_iald (cA := kN 2) (n := 40) (f := fN_room) hx hb hK hP 3 2 rfl rfl (vp_in_iff.mpr ⟨b_l3_x10.1, (Int.lt_of_lt_of_le (Int.not_le.mp t_15) (Int.le_trans b_iN_arcs.2 (by decide)))⟩) dX2_fill_45 ?_
      refine lv_topi (fun v5084 hv5084 => ?_)
      have b_v5084 : 0 ≤ v5084.toInt ∧ v5084.toInt ≤ 1000 := by rw [hv5084]; exact ⟨(hRm l3_x10.toInt.toNat (by (try dsimp only); omega)).1, (hRm l3_x10.toInt.toNat (by (try dsimp only); omega)).2.1⟩
      have b1_v5084 : v5084 = fN_room (l3_x10).toNatClampNeg := hv5084
      clear hv5084
      refine lv_iadd hx hb dX2_fill_46 ?_
      refine lv_topi (fun y5085 hy5085 => ?_)
      obtain rfl : (iI (v5083.toInt + v5084.toInt)) = y5085 := (hy5085.trans (iI_add2 (iI_of _) (iI_of _))).symm
      refine va_iast (cA := kN 4) (n := 144) (f := fN_free_x10) hx hb hK hP hD hS 5 4 rfl rfl (vp_iI (Int.le_trans (by decide) (Int.add_le_add (Int.mul_le_mul_of_nonneg_right (b_v5079.1) (by decide)) (b_v5081.1))) (Int.lt_of_le_of_lt (Int.add_le_add (Int.mul_le_mul_of_nonneg_right (b_v5079.2) (by decide)) (b_v5081.2)) (by decide)) (by decide)) dX2_fill_47 (fun H locs hP hD hS => ?_)
      obtain ⟨u5086, hu5086⟩ : ∃ f9, f9 = upd fN_free_x10 ((iI ((v5079.toInt * 12) + v5081.toInt))).toNatClampNeg (iI (v5083.toInt + v5084.toInt)) := ⟨_, rfl⟩
      have hP : va_P (dC, dI) vwCl (WN hN aN kN iN_arcs fN_from fN_to fN_room fN_cost iN_reached u5086 fN_before fN_flow fN_length fN_stop iN_stops fN_price fN_rest) H := by rw [hu5086]; exact hP
      have hD : va_D A (WN hN aN kN iN_arcs fN_from fN_to fN_room fN_cost iN_reached u5086 fN_before fN_flow fN_length fN_stop iN_stops fN_price fN_rest) := by rw [hu5086]; exact hD
      have b_u5086 : u5086 = upd fN_free_x10 ((iI ((v5079.toInt * 12) + v5081.toInt))).toNatClampNeg (iI (v5083.toInt + v5084.toInt)) := hu5086
      clear hu5086
      refine lv_iinc (v := (iI (l3_x10.toInt + 1))) hx hb dX2_fill_48 hl (k := 0) rfl (iI_add2 (iI_of _) (by decide : (1 : Int32) = iI 1)) (by decide) rfl (fun ls (hl : lv_has ls _ ([(3, .int (iI (l3_x10.toInt + 1))), (0, .ref (hN 0)), (1, .int p1), (2, .int p2)])) => ?_)
      refine lv_goto (tgt := 10) hx hb dX2_fill_51 (by decide) ?_
      have hl : lv_has _ _ ([(3, .int (iI (l3_x10.toInt + 1))), (0, .ref (hN 0)), (1, .int p1), (2, .int p2)]) := lv_sub hl [0, 1, 2, 3] rfl
      exact ihx10 u5086 (iI (l3_x10.toInt + 1)) _ _ _ (iI_rng (Int.le_trans (by decide) (Int.add_le_add (b_l3_x10.1) (Int.le_refl _))) (by omega) (by decide) (by decide)) (show mG (iN_arcs.toInt, fN_from, fN_to, fN_room, fN_cost) u5086 (iI (l3_x10.toInt + 1)).toInt.toNat from by rw [show (iI (l3_x10.toInt + 1)).toInt.toNat = l3_x10.toInt.toNat + 1 from by rw [iI_t (by omega) (by omega)]; omega]; have ef : tFr (iN_arcs.toInt, fN_from, fN_to, fN_room, fN_cost) l3_x10.toInt.toNat = v5079.toInt.toNat := (by rw [b1_v5079]; rfl); have et : tTo (iN_arcs.toInt, fN_from, fN_to, fN_room, fN_cost) l3_x10.toInt.toNat = v5081.toInt.toNat := (by rw [b1_v5081]; rfl); have er : tRo (iN_arcs.toInt, fN_from, fN_to, fN_room, fN_cost) l3_x10.toInt.toNat = v5084.toInt := (by rw [b1_v5084]; rfl); have hc9 : ((iI ((v5079.toInt * 12) + v5081.toInt))).toNatClampNeg = 12 * tFr (iN_arcs.toInt, fN_from, fN_to, fN_room, fN_cost) l3_x10.toInt.toNat + tTo (iN_arcs.toInt, fN_from, fN_to, fN_room, fN_cost) l3_x10.toInt.toNat := (by rw [ef, et]; show (iI (v5079.toInt * 12 + v5081.toInt)).toInt.toNat = _; rw [iI_t (by omega) (by omega)]; omega); have hx9 := hG.1 ((iI ((v5079.toInt * 12) + v5081.toInt))).toNatClampNeg (by rw [hc9, ef, et]; omega); rw [← b_v5083] at hx9; exact mG.step hG (by (try dsimp only); omega) hRm hVal hc9 b_v5083 b_u5086 (by rw [iI_t (by omega) (by omega), er])) (show (iI (l3_x10.toInt + 1)).toInt ≤ iN_arcs.toInt from by rw [iI_t (by omega) (by omega)]; omega) (by have e9 : ((iI (l3_x10.toInt + 1))).toInt = (l3_x10.toInt + 1) := (iI_t (Int.le_trans (by decide) (Int.add_le_add (b_l3_x10.1) (Int.le_refl _))) (Int.le_trans (Int.add_le_add (b_l3_x10.2) (Int.le_refl _)) (by decide))); omega) hP hD hS hl
end
section
/-! clauses: what the class keeps beside them -/
def ClI (d : ClD) (br lo : Nat → Int32) (mu : Int32) : Prop := (∀ k, k < 4096 → ∀ i, bI (br k) i = true ↔ ((i : Int) < d.1 ∧ kN d i k = true)) ∧ (∀ k, k < 4096 → (lo k).toInt = cSum d k d.1.toNat) ∧ ∀ i, bI mu i = true ↔ ((i : Int) < d.1 ∧ (d.2.2.2 i).toInt = 0)
theorem ClI.z : ClI clZ (fun _ => 0) (fun _ => 0) 0 := by
  refine ⟨fun k _ i => ?_, fun k _ => ?_, fun i => ?_⟩
  · rw [bI_0]
    constructor
    · intro h; cases h
    · intro h
      have h9 : ((i : Nat) : Int) < 0 := h.1
      omega
  · rfl
  · rw [bI_0]
    constructor
    · intro h; cases h
    · intro h
      have h9 : ((i : Nat) : Int) < 0 := h.1
      omega
/-- rows below m are marked -/
def cMrk (a b i w : Int32) (br lo br2 lo2 : Nat → Int32) (m : Nat) : Prop := ∀ k, k < 4096 → ((k < m ∧ (nI k &&& a) = 0 ∧ (nI k &&& b) = b) → br2 k = br k ^^^ ((1 : Int32) <<< (i &&& 31)) ∧ lo2 k = iI ((lo k).toInt + w.toInt)) ∧ (¬ (k < m ∧ (nI k &&& a) = 0 ∧ (nI k &&& b) = b) → br2 k = br k ∧ lo2 k = lo k)
theorem cMrk.start {a b i w : Int32} {br lo : Nat → Int32} {m : Nat} (hm : m = 0) : cMrk a b i w br lo br lo m := fun k _ => ⟨fun h => absurd h.1 (by omega), fun _ => ⟨rfl, rfl⟩⟩
theorem cMrk.no {a b i w r : Int32} {br lo br2 lo2 : Nat → Int32} {m : Nat} (h : cMrk a b i w br lo br2 lo2 m) (hr : r.toInt.toNat = m) (h0 : 0 ≤ r.toInt) (hn : ¬ ((r &&& a) = 0 ∧ (r &&& b) = b)) : cMrk a b i w br lo br2 lo2 (m + 1) := by
  intro k hk
  by_cases e : k = m
  · have e2 : nI k = r := by rw [e, ← hr]; exact nI_tz h0
    rw [e2]
    exact ⟨fun h9 => absurd h9.2 hn, fun _ => (h k hk).2 (fun h9 => by omega)⟩
  · refine ⟨fun h9 => (h k hk).1 ⟨by omega, h9.2⟩, fun h9 => (h k hk).2 (fun h8 => h9 ⟨by omega, h8.2⟩)⟩
theorem cMrk.yes {a b i w r x y : Int32} {br lo br2 lo2 br3 lo3 : Nat → Int32} {m : Nat} (h : cMrk a b i w br lo br2 lo2 m) (hr : r.toInt.toNat = m) (h0 : 0 ≤ r.toInt) (hm : m < 4096) (h1 : (r &&& a) = 0) (h2 : (r &&& b) = b) (e1 : br3 = upd br2 r.toNatClampNeg x) (hx : x = br2 r.toNatClampNeg ^^^ ((1 : Int32) <<< (i &&& 31))) (e2 : lo3 = upd lo2 r.toNatClampNeg y) (hy : y = iI ((lo2 r.toNatClampNeg).toInt + w.toInt)) : cMrk a b i w br lo br3 lo3 (m + 1) := by
  have hc : r.toNatClampNeg = m := hr
  have hm2 := (h m hm).2 (fun h9 => by omega)
  rw [hc] at e1 hx e2 hy
  subst e1 e2
  intro k hk
  by_cases e : k = m
  · have e4 : nI k = r := by rw [e, ← hr]; exact nI_tz h0
    rw [e4]
    refine ⟨fun _ => ?_, fun h9 => absurd ⟨by omega, h1, h2⟩ h9⟩
    unfold upd
    rw [if_pos e, if_pos e, hx, hy, hm2.1, hm2.2, e]
    exact ⟨rfl, rfl⟩
  · unfold upd
    rw [if_neg e, if_neg e]
    refine ⟨fun h9 => (h k hk).1 ⟨by omega, h9.2⟩, fun h9 => (h k hk).2 (fun h8 => h9 ⟨by omega, h8.2⟩)⟩
theorem kN_upd {d : ClD} {y m w : Int32} {i k : Nat} (hi : i ≠ d.1.toNat) : kN (clAdd d y m w) i k = kN d i k := by
  unfold kN
  show decide ((upd d.2.1 d.1.toNat y i &&& nI k) = 0 ∧ (upd d.2.2.1 d.1.toNat m i &&& (nI k ^^^ (-1))) = 0) = _
  unfold upd
  rw [if_neg hi, if_neg hi]
theorem cSum_upd {d : ClD} {y m w : Int32} {k : Nat} : ∀ j, j ≤ d.1.toNat → cSum (clAdd d y m w) k j = cSum d k j := by
  intro j
  induction j with
  | zero => intro _; rfl
  | succ j ih =>
    intro hj
    show cSum (clAdd d y m w) k j + (if kN (clAdd d y m w) j k = true then (upd d.2.2.2 d.1.toNat w j).toInt else 0) = cSum d k j + (if kN d j k = true then (d.2.2.2 j).toInt else 0)
    rw [ih (by omega), kN_upd (by omega)]
    unfold upd
    rw [if_neg (show ¬ j = d.1.toNat by omega)]
theorem kN_new {d : ClD} {y m w : Int32} {k : Nat} : kN (clAdd d y m w) d.1.toNat k = true ↔ ((nI k &&& y) = 0 ∧ (nI k &&& m) = m) := by
  rw [kN_cls]
  show ((nI k &&& upd d.2.1 d.1.toNat y d.1.toNat) = 0 ∧ (nI k &&& upd d.2.2.1 d.1.toNat m d.1.toNat) = upd d.2.2.1 d.1.toNat m d.1.toNat) ↔ _
  unfold upd
  rw [if_pos rfl, if_pos rfl]
theorem bI_bit {i : Int32} {j : Nat} (h0 : 0 ≤ i.toInt) (h1 : i.toInt < 25) : bI ((1 : Int32) <<< (i &&& 31)) j = decide (j = i.toInt.toNat) := by
  have h := bI_1 (i := i.toInt.toNat) (j := j) (by omega)
  rw [nI_tz h0] at h
  exact h
theorem ClI.add {d : ClD} {br lo br2 lo2 : Nat → Int32} {mu mu2 y m w i : Int32} (hv : cVal d) (hn : d.1 < 24) (h : ClI d br lo mu) (hm : cMrk y m i w br lo br2 lo2 4096) (hi : i.toInt = d.1) (hw : 0 ≤ w.toInt ∧ w.toInt ≤ 1000) (hmu : (w.toInt = 0 ∧ mu2 = mu ||| ((1 : Int32) <<< (i &&& 31))) ∨ (w.toInt ≠ 0 ∧ mu2 = mu)) : ClI (clAdd d y m w) br2 lo2 mu2 := by
  have h0 := hv.1
  have hbit : ∀ j, bI ((1 : Int32) <<< (i &&& 31)) j = decide (j = d.1.toNat) := fun j => by rw [bI_bit (by omega) (by omega), hi]
  have hd1 : (clAdd d y m w).1 = d.1 + 1 := rfl
  have e1 : (d.1 + 1).toNat = d.1.toNat + 1 := by omega
  have low : ∀ k, k < 4096 → bI (br k) d.1.toNat = false := by
    intro k hk
    cases h9 : bI (br k) d.1.toNat
    · rfl
    · have := ((h.1 k hk _).mp h9).1; omega
  refine ⟨fun k hk j => ?_, fun k hk => ?_, fun j => ?_⟩
  · rw [hd1]
    by_cases e : j = d.1.toNat
    · rw [e]
      by_cases hnk : (nI k &&& y) = 0 ∧ (nI k &&& m) = m
      · rw [((hm k hk).1 ⟨hk, hnk⟩).1, bI_xor, hbit, low k hk, decide_eq_true rfl]
        exact ⟨fun _ => ⟨by omega, kN_new.mpr hnk⟩, fun _ => rfl⟩
      · rw [((hm k hk).2 (fun h9 => hnk h9.2)).1, low k hk]
        exact ⟨fun h9 => (by cases h9), fun h9 => absurd (kN_new.mp h9.2) hnk⟩
    · have e9 : bI (br2 k) j = bI (br k) j := by
        by_cases hnk : (nI k &&& y) = 0 ∧ (nI k &&& m) = m
        · rw [((hm k hk).1 ⟨hk, hnk⟩).1, bI_xor, hbit, decide_eq_false e, Bool.xor_false]
        · rw [((hm k hk).2 (fun h9 => hnk h9.2)).1]
      rw [e9, kN_upd e, h.1 k hk j]
      constructor
      · intro h9; exact ⟨by omega, h9.2⟩
      · intro h9; exact ⟨by omega, h9.2⟩
  · rw [hd1, e1]
    have hs := cSum_upd (d := d) (y := y) (m := m) (w := w) (k := k) d.1.toNat (Nat.le_refl _)
    have hl := h.2.1 k hk
    have hb := cSum.bd hv k d.1.toNat (by omega)
    have hwn : ((clAdd d y m w).2.2.2 d.1.toNat).toInt = w.toInt := by
      show (upd d.2.2.2 d.1.toNat w d.1.toNat).toInt = w.toInt
      unfold upd
      rw [if_pos rfl]
    by_cases hnk : (nI k &&& y) = 0 ∧ (nI k &&& m) = m
    · rw [cSum_yes (kN_new.mpr hnk), hs, hwn, ((hm k hk).1 ⟨hk, hnk⟩).2, iI_t (by omega) (by omega), hl]
    · have hf : kN (clAdd d y m w) d.1.toNat k = false := by
        cases h9 : kN (clAdd d y m w) d.1.toNat k
        · rfl
        · exact absurd (kN_new.mp h9) hnk
      rw [cSum_no hf, hs, ((hm k hk).2 (fun h9 => hnk h9.2)).2, hl]
  · rw [hd1]
    show bI mu2 j = true ↔ ((j : Int) < d.1 + 1 ∧ (upd d.2.2.2 d.1.toNat w j).toInt = 0)
    unfold upd
    by_cases e : j = d.1.toNat
    · rw [if_pos e, e]
      have hlow : bI mu d.1.toNat = false := by
        cases h9 : bI mu d.1.toNat
        · rfl
        · have := ((h.2.2 _).mp h9).1; omega
      rcases hmu with ⟨h1, h2⟩ | ⟨h1, h2⟩
      · rw [h2, bI_or, hbit, decide_eq_true rfl, Bool.or_true]
        exact ⟨fun _ => ⟨by omega, h1⟩, fun _ => rfl⟩
      · rw [h2, hlow]
        exact ⟨fun h9 => (by cases h9), fun h9 => absurd h9.2 h1⟩
    · rw [if_neg e]
      have e9 : bI mu2 j = bI mu j := by
        rcases hmu with ⟨h1, h2⟩ | ⟨h1, h2⟩
        · rw [h2, bI_or, hbit, decide_eq_false e, Bool.or_false]
        · rw [h2]
      rw [e9, h.2.2 j]
      constructor
      · intro h9; exact ⟨by omega, h9.2⟩
      · intro h9; exact ⟨by omega, h9.2⟩
theorem kN_same {d : ClD} {n : Int} {i k : Nat} : kN (n, d.2) i k = kN d i k := rfl
theorem cSum_same {d : ClD} {n : Int} {k : Nat} : ∀ j, cSum (n, d.2) k j = cSum d k j := by
  intro j
  induction j with
  | zero => rfl
  | succ j ih =>
    show cSum (n, d.2) k j + (if kN d j k = true then (d.2.2.2 j).toInt else 0) = cSum d k j + (if kN d j k = true then (d.2.2.2 j).toInt else 0)
    rw [ih]
theorem ClI.drop {d : ClD} {br lo br2 lo2 : Nat → Int32} {mu mu2 w i : Int32} (hv : cVal d) (hn : 0 < d.1) (h : ClI d br lo mu) (hm : cMrk (d.2.1 (d.1 - 1).toNat) (d.2.2.1 (d.1 - 1).toNat) i w br lo br2 lo2 4096) (hi : i.toInt = d.1 - 1) (hw : w.toInt = - (d.2.2.2 (d.1 - 1).toNat).toInt) (hmu : mu2 = mu &&& (((1 : Int32) <<< (i &&& 31)) ^^^ (-1))) : ClI (d.1 - 1, d.2) br2 lo2 mu2 := by
  have h24 := hv.2.1
  have hbit : ∀ j, bI ((1 : Int32) <<< (i &&& 31)) j = decide (j = (d.1 - 1).toNat) := fun j => by rw [bI_bit (by omega) (by omega), hi]
  have e1 : d.1.toNat = (d.1 - 1).toNat + 1 := by omega
  have hwb := hv.2.2 (d.1 - 1).toNat (by omega)
  refine ⟨fun k hk j => ?_, fun k hk => ?_, fun j => ?_⟩
  · show bI (br2 k) j = true ↔ ((j : Int) < d.1 - 1 ∧ kN d j k = true)
    have hj := h.1 k hk j
    by_cases hnk : (nI k &&& d.2.1 (d.1 - 1).toNat) = 0 ∧ (nI k &&& d.2.2.1 (d.1 - 1).toNat) = d.2.2.1 (d.1 - 1).toNat
    · rw [((hm k hk).1 ⟨hk, hnk⟩).1, bI_xor, hbit]
      by_cases e : j = (d.1 - 1).toNat
      · have hT : bI (br k) j = true := hj.mpr ⟨by omega, by rw [e]; exact (kN_cls _ _ _).mpr hnk⟩
        rw [hT, decide_eq_true e]
        exact ⟨fun h9 => (by cases h9), fun h9 => by omega⟩
      · rw [decide_eq_false e, Bool.xor_false, hj]
        exact ⟨fun h9 => ⟨by omega, h9.2⟩, fun h9 => ⟨by omega, h9.2⟩⟩
    · rw [((hm k hk).2 (fun h9 => hnk h9.2)).1, hj]
      constructor
      · intro h9
        refine ⟨?_, h9.2⟩
        by_cases e : j = (d.1 - 1).toNat
        · exact absurd ((kN_cls _ _ _).mp (by rw [← e]; exact h9.2)) hnk
        · omega
      · intro h9; exact ⟨by omega, h9.2⟩
  · show (lo2 k).toInt = cSum (d.1 - 1, d.2) k (d.1 - 1).toNat
    rw [cSum_same]
    have hl := h.2.1 k hk
    have hb := cSum.bd hv k (d.1 - 1).toNat (by omega)
    rw [e1] at hl
    by_cases hnk : (nI k &&& d.2.1 (d.1 - 1).toNat) = 0 ∧ (nI k &&& d.2.2.1 (d.1 - 1).toNat) = d.2.2.1 (d.1 - 1).toNat
    · rw [cSum_yes ((kN_cls _ _ _).mpr hnk)] at hl
      rw [((hm k hk).1 ⟨hk, hnk⟩).2, iI_t (by omega) (by omega)]
      omega
    · have hf : kN d (d.1 - 1).toNat k = false := by
        cases h9 : kN d (d.1 - 1).toNat k
        · rfl
        · exact absurd ((kN_cls _ _ _).mp h9) hnk
      rw [cSum_no hf] at hl
      rw [((hm k hk).2 (fun h9 => hnk h9.2)).2]
      exact hl
  · show bI mu2 j = true ↔ ((j : Int) < d.1 - 1 ∧ (d.2.2.2 j).toInt = 0)
    rw [hmu, bI_and, bI_xor, hbit]
    by_cases hj : j < 32
    · rw [bI_m1 hj, Bool.and_eq_true, h.2.2 j]
      by_cases e : j = (d.1 - 1).toNat
      · rw [decide_eq_true e]
        exact ⟨fun h9 => (by cases h9.2), fun h9 => by omega⟩
      · rw [decide_eq_false e]
        exact ⟨fun h9 => ⟨by omega, h9.1.2⟩, fun h9 => ⟨⟨by omega, h9.2⟩, rfl⟩⟩
    · rw [bI_big (x := mu) (by omega)]
      exact ⟨fun h9 => (by cases h9), fun h9 => by omega⟩
theorem ClI.must {d : ClD} {br lo : Nat → Int32} {mu : Int32} (hv : cVal d) (h : ClI d br lo mu) {k : Nat} (hk : k < 4096) : (br k &&& mu) = 0 ↔ cMust d k d.1.toNat := by
  have h0 := hv.1
  rw [bI_zero]
  constructor
  · intro h9 i hi hn hw
    have e := h9 i
    rw [bI_and, (h.1 k hk i).mpr ⟨by omega, hn⟩, (h.2.2 i).mpr ⟨by omega, hw⟩] at e
    cases e
  · intro h9 j
    rw [bI_and]
    cases e1 : bI (br k) j
    · rfl
    · cases e2 : bI mu j
      · rfl
      · have a1 := (h.1 k hk j).mp e1
        have a2 := (h.2.2 j).mp e2
        exact absurd a2.2 (h9 j (by omega) a1.2)
theorem ClI.can {d : ClD} {br lo : Nat → Int32} {mu x : Int32} (hv : cVal d) (h : ClI d br lo mu) {k : Nat} (hk : k < 4096) : (br k &&& x) = 0 ↔ cSat d x k d.1.toNat = true := by
  have h0 := hv.1
  rw [bI_zero, cSat_iff]
  constructor
  · intro h9 i hi hx
    cases e : kN d i k
    · rfl
    · have e2 := h9 i
      rw [bI_and, (h.1 k hk i).mpr ⟨by omega, e⟩, hx] at e2
      cases e2
  · intro h9 j
    rw [bI_and]
    cases e1 : bI (br k) j
    · rfl
    · cases e2 : bI x j
      · rfl
      · have a1 := (h.1 k hk j).mp e1
        have a2 := h9 j (by omega) e2
        rw [a1.2] at a2; cases a2
theorem ClI.none {d : ClD} {br lo : Nat → Int32} {mu : Int32} (hv : cVal d) (h : ClI d br lo mu) {k : Nat} (hk : k < 4096) : br k = 0 ↔ cSat d (cFull d.1.toNat) k d.1.toNat = true := by
  have h0 := hv.1
  have h24 := hv.2.1
  rw [bI_zero, cSat_iff]
  constructor
  · intro h9 i hi _
    cases e : kN d i k
    · rfl
    · have e2 := h9 i
      rw [(h.1 k hk i).mpr ⟨by omega, e⟩] at e2
      cases e2
  · intro h9 j
    cases e1 : bI (br k) j
    · rfl
    · have a1 := (h.1 k hk j).mp e1
      have a2 := h9 j (by omega) (cFull_bit (by omega) (by omega))
      rw [a1.2] at a2; cases a2
theorem ClI.lno {d : ClD} {br lo : Nat → Int32} {mu a : Int32} {m : Nat} {c : Int} (hv : cVal d) (h : ClI d br lo mu) (hB : ∃ b, cBest d m b c) (hm : m < 4096) (ha : a = br m &&& mu) (h0 : a.toInt ≠ 0) : ∃ b, cBest d (m + 1) b c :=
  hB.elim (fun b hb => ⟨b, cBest.no hb (fun h9 => h0 (by rw [ha, (ClI.must hv h hm).mpr h9]; decide))⟩)
theorem ClI.lm {d : ClD} {br lo : Nat → Int32} {mu a : Int32} {m : Nat} (hv : cVal d) (h : ClI d br lo mu) (hm : m < 4096) (ha : a = br m &&& mu) (h0 : a.toInt = 0) : cMust d m d.1.toNat :=
  (ClI.must hv h hm).mp (by rw [← ha]; exact Int32.toInt_inj.mp (by rw [h0]; decide))
theorem ClI.lnew {d : ClD} {br lo : Nat → Int32} {mu a : Int32} {m : Nat} {c c2 : Int} (hv : cVal d) (h : ClI d br lo mu) (hB : ∃ b, cBest d m b c) (hm : m < 4096) (ha : a = br m &&& mu) (h0 : a.toInt = 0) (hc : c = -1) (hc2 : c2 = (m : Int)) : ∃ b, cBest d (m + 1) b c2 :=
  hB.elim (fun b hb => ⟨cSum d m d.1.toNat, cBest.take hb (ClI.lm hv h hm ha h0) rfl hc2 (Or.inl hc)⟩)
theorem ClI.lat {d : ClD} {br lo : Nat → Int32} {mu : Int32} {m : Nat} {b c : Int} (h : ClI d br lo mu) (hB : cBest d m b c) (hc : c ≠ -1) (hm : m ≤ 4096) : (lo c.toNat).toInt = b ∧ 0 ≤ c ∧ c < (m : Int) := by
  rcases hB with ⟨h1, _⟩ | ⟨h1, h2, _, h4, _⟩
  · exact absurd h1 hc
  · exact ⟨by rw [h4]; exact h.2.1 c.toNat (by omega), h1, h2⟩
theorem ClI.lless {d : ClD} {br lo : Nat → Int32} {mu a x y : Int32} {m : Nat} {c c2 : Int} (hv : cVal d) (h : ClI d br lo mu) (hB : ∃ b, cBest d m b c) (hm : m < 4096) (ha : a = br m &&& mu) (h0 : a.toInt = 0) (hc : c ≠ -1) (hx : x = lo m) (hy : y = lo c.toNat) (hl : x.toInt < y.toInt) (hc2 : c2 = (m : Int)) : ∃ b, cBest d (m + 1) b c2 :=
  hB.elim (fun b hb => ⟨cSum d m d.1.toNat, cBest.take hb (ClI.lm hv h hm ha h0) rfl hc2 (Or.inr (by rw [← h.2.1 m hm, ← (ClI.lat h hb hc (by omega)).1, ← hx, ← hy]; exact hl))⟩)
theorem ClI.lkeep {d : ClD} {br lo : Nat → Int32} {mu x y : Int32} {m : Nat} {c : Int} (h : ClI d br lo mu) (hB : ∃ b, cBest d m b c) (hm : m < 4096) (hc : c ≠ -1) (hx : x = lo m) (hy : y = lo c.toNat) (hl : ¬ x.toInt < y.toInt) : ∃ b, cBest d (m + 1) b c :=
  hB.elim (fun b hb => ⟨b, cBest.keep hb hc (by rw [← h.2.1 m hm, ← (ClI.lat h hb hc (by omega)).1, ← hx, ← hy]; exact hl)⟩)
theorem cBest.nob {d : ClD} {m : Nat} {c : Int} (hB : ∃ b, cBest d m b c) (hc : c = -1) : ∃ c2, cBest d m (-1) c2 := by
  obtain ⟨b, hb⟩ := hB
  have e : b = -1 := by
    rcases hb with ⟨_, h2, _⟩ | ⟨h1, _⟩
    · exact h2
    · omega
  rw [e] at hb
  exact ⟨c, hb⟩
theorem ClI.lost {d : ClD} {br lo : Nat → Int32} {mu x : Int32} {c : Int} (h : ClI d br lo mu) (hB : ∃ b, cBest d 4096 b c) (hc : c ≠ -1) (hx : x = lo c.toNat) : ∃ c2, cBest d 4096 x.toInt c2 :=
  hB.elim (fun b hb => ⟨c, by rw [hx, (ClI.lat h hb hc (Nat.le_refl _)).1]; exact hb⟩)
def cCnt (d : ClD) (m : Nat) : Nat := cntB (fun k => cSat d (cFull d.1.toNat) k d.1.toNat) m
theorem cCnt_le (d : ClD) (m : Nat) : cCnt d m ≤ m := cntB_le _ m
theorem ClI.cnt1 {d : ClD} {br lo : Nat → Int32} {mu x : Int32} {m : Nat} (hv : cVal d) (h : ClI d br lo mu) (hm : m < 4096) (hx : x = br m) (h0 : x.toInt = 0) : cCnt d (m + 1) = cCnt d m + 1 := by
  have e : cSat d (cFull d.1.toNat) m d.1.toNat = true := (ClI.none hv h hm).mp (by rw [← hx]; exact Int32.toInt_inj.mp (by rw [h0]; decide))
  show cntB (fun k => cSat d (cFull d.1.toNat) k d.1.toNat) m + (if cSat d (cFull d.1.toNat) m d.1.toNat = true then 1 else 0) = cCnt d m + 1
  rw [if_pos e]
  rfl
theorem ClI.cnt0 {d : ClD} {br lo : Nat → Int32} {mu x : Int32} {m : Nat} (hv : cVal d) (h : ClI d br lo mu) (hm : m < 4096) (hx : x = br m) (h0 : x.toInt ≠ 0) : cCnt d (m + 1) = cCnt d m := by
  have e : ¬ cSat d (cFull d.1.toNat) m d.1.toNat = true := fun h9 => h0 (by rw [hx, (ClI.none hv h hm).mpr h9]; decide)
  show cntB (fun k => cSat d (cFull d.1.toNat) k d.1.toNat) m + (if cSat d (cFull d.1.toNat) m d.1.toNat = true then 1 else 0) = cCnt d m
  rw [if_neg e]
  rfl
theorem ClI.nkeep {d : ClD} {br lo : Nat → Int32} {mu a x : Int32} {m : Nat} (hv : cVal d) (h : ClI d br lo mu) (hN : ∀ k, k < m → ¬ cSat d x k d.1.toNat = true) (hm : m < 4096) (ha : a = br m &&& x) (h0 : a.toInt ≠ 0) : ∀ k, k < m + 1 → ¬ cSat d x k d.1.toNat = true := by
  intro k hk h9
  by_cases e : k = m
  · rw [e] at h9
    exact h0 (by rw [ha, (ClI.can hv h hm).mpr h9]; decide)
  · exact hN k (by omega) h9
theorem ClI.ykeep {d : ClD} {br lo : Nat → Int32} {mu a x : Int32} {m : Nat} (hv : cVal d) (h : ClI d br lo mu) (hm : m < 4096) (ha : a = br m &&& x) (h0 : a.toInt = 0) : cCan d x :=
  ⟨m, hm, (ClI.can hv h hm).mp (by rw [← ha]; exact Int32.toInt_inj.mp (by rw [h0]; decide))⟩
theorem cCan.no {d : ClD} {x : Int32} {m : Nat} (hN : ∀ k, k < m → ¬ cSat d x k d.1.toNat = true) (hm : m = 4096) : ¬ cCan d x := fun ⟨k, hk, h⟩ => hN k (by omega) h
theorem cLess_of {x a l : Int32} (h0 : 0 ≤ l.toInt) (ha : a = x &&& (((1 : Int32) <<< (l &&& 31)) ^^^ (-1))) : a = cLess x l.toInt.toNat := by
  unfold cLess
  rw [nI_tz h0]
  exact ha
theorem cFull_of {y n : Int32} (h0 : 0 ≤ n.toInt) (hy : y = ((1 : Int32) <<< (n &&& 31)) - 1) : y = cFull n.toInt.toNat := by
  unfold cFull
  rw [nI_tz h0]
  exact hy
theorem cCore.y {d : ClD} {c n k : Nat} {x F : Int32} (hI : ∀ r, cCore d c x r → cCore d n F r) (hc : c = k + 1) (hy : cCan d (cLess x k)) : ∀ r, cCore d k x r → cCore d n F r := by
  subst hc
  exact fun r hr => hI r (Or.inl ⟨hy, hr⟩)
theorem cCore.n {d : ClD} {c n k : Nat} {x a F : Int32} (hI : ∀ r, cCore d c x r → cCore d n F r) (hc : c = k + 1) (ha : a = cLess x k) (hy : ¬ cCan d a) : ∀ r, cCore d k a r → cCore d n F r := by
  subst hc ha
  exact fun r hr => hI r (Or.inr ⟨hy, hr⟩)
theorem cCore.e {d : ClD} {c n : Nat} {x F : Int32} (hI : ∀ r, cCore d c x r → cCore d n F r) (hc : c = 0) : cCore d n F x := by
  subst hc
  exact hI x rfl
theorem cVal.z0 : cVal ((0 : Int32).toInt, (fun _ => 0), (fun _ => 0), (fun _ => 0)) := by
  have h := cVal.z
  rw [clZ_x (x := (0 : Int32).toInt) (by decide)] at h
  exact h
theorem ClI.z0 : ClI ((0 : Int32).toInt, (fun _ => 0), (fun _ => 0), (fun _ => 0)) (fun _ => 0) (fun _ => 0) 0 := by
  have h := ClI.z
  rw [clZ_x (x := (0 : Int32).toInt) (by decide)] at h
  exact h
end
section
theorem hd_yX0_mark_RX0 : yX0_mark.cls = RX0 ∧ yX0_mark.cls ≠ "java/lang/invoke/MethodHandle" ∧ yX0_mark.cls ≠ "java/lang/invoke/VarHandle" ∧ (parseMethodDescriptor yX0_mark.desc).map (fun d => d.parameters.length) = some 2 := by decide +kernel
theorem hd_yX0_canKeep_RX0 : yX0_canKeep.cls = RX0 ∧ yX0_canKeep.cls ≠ "java/lang/invoke/MethodHandle" ∧ yX0_canKeep.cls ≠ "java/lang/invoke/VarHandle" ∧ (parseMethodDescriptor yX0_canKeep.desc).map (fun d => d.parameters.length) = some 1 := by decide +kernel
def WC (hC : Nat → Nat) (aC : Nat → Nat) (kC : Nat → ClassId) (iC_clauses : Int32) (fC_wants : Nat → Int32) (fC_wantsNot : Nat → Int32) (fC_weight : Nat → Int32) (fC_broken : Nat → Int32) (fC_loss : Nat → Int32) (iC_musts : Int32) : va_W := [(hC 0, .inr (0, [.int iC_clauses, .ref (aC 0), .ref (aC 1), .ref (aC 2), .ref (aC 3), .ref (aC 4), .int iC_musts])), (aC 0, .inl (kC 0, 24, .inl fC_wants)), (aC 1, .inl (kC 1, 24, .inl fC_wantsNot)), (aC 2, .inl (kC 2, 24, .inl fC_weight)), (aC 3, .inl (kC 3, 4096, .inl fC_broken)), (aC 4, .inl (kC 4, 4096, .inl fC_loss))]
def tC (kC : Nat → ClassId) : List (ClassId × FieldType) := [(kC 0, .int), (kC 1, .int), (kC 2, .int), (kC 3, .int), (kC 4, .int)]
theorem dX0_mark_0 : decode cX0_mark 0 = .ok (.iconst 0, 1) := dk_3 (by decide +kernel)
theorem dX0_mark_1 : decode cX0_mark 1 = .ok (.istore_n 3, 1) := dk_62 (by decide +kernel)
theorem dX0_mark_2 : decode cX0_mark 2 = .ok (.iload_n 3, 1) := dk_29 (by decide +kernel)
theorem dX0_mark_3 : decode cX0_mark 3 = .ok (.sipush 4096, 3) := dk_17 (by decide +kernel)
theorem dX0_mark_6 : decode cX0_mark 6 = .ok (.if_icmp .ge 59, 3) := dk_162 (by decide +kernel)
theorem dX0_mark_9 : decode cX0_mark 9 = .ok (.iload_n 3, 1) := dk_29 (by decide +kernel)
theorem dX0_mark_10 : decode cX0_mark 10 = .ok (.aload_n 0, 1) := dk_42 (by decide +kernel)
theorem dX0_mark_11 : decode cX0_mark 11 = .ok (.getfield 11, 3) := dk_180 (by decide +kernel)
theorem dX0_mark_14 : decode cX0_mark 14 = .ok (.iload_n 1, 1) := dk_27 (by decide +kernel)
theorem dX0_mark_15 : decode cX0_mark 15 = .ok (.iaload, 1) := dk_46 (by decide +kernel)
theorem dX0_mark_16 : decode cX0_mark 16 = .ok (.iand, 1) := dk_126 (by decide +kernel)
theorem dX0_mark_17 : decode cX0_mark 17 = .ok (.ifCond .ne 42, 3) := dk_154 (by decide +kernel)
theorem dX0_mark_20 : decode cX0_mark 20 = .ok (.iload_n 3, 1) := dk_29 (by decide +kernel)
theorem dX0_mark_21 : decode cX0_mark 21 = .ok (.aload_n 0, 1) := dk_42 (by decide +kernel)
theorem dX0_mark_22 : decode cX0_mark 22 = .ok (.getfield 15, 3) := dk_180 (by decide +kernel)
theorem dX0_mark_25 : decode cX0_mark 25 = .ok (.iload_n 1, 1) := dk_27 (by decide +kernel)
theorem dX0_mark_26 : decode cX0_mark 26 = .ok (.iaload, 1) := dk_46 (by decide +kernel)
theorem dX0_mark_27 : decode cX0_mark 27 = .ok (.iand, 1) := dk_126 (by decide +kernel)
theorem dX0_mark_28 : decode cX0_mark 28 = .ok (.aload_n 0, 1) := dk_42 (by decide +kernel)
theorem dX0_mark_29 : decode cX0_mark 29 = .ok (.getfield 15, 3) := dk_180 (by decide +kernel)
theorem dX0_mark_32 : decode cX0_mark 32 = .ok (.iload_n 1, 1) := dk_27 (by decide +kernel)
theorem dX0_mark_33 : decode cX0_mark 33 = .ok (.iaload, 1) := dk_46 (by decide +kernel)
theorem dX0_mark_34 : decode cX0_mark 34 = .ok (.if_icmp .ne 25, 3) := dk_160 (by decide +kernel)
theorem dX0_mark_37 : decode cX0_mark 37 = .ok (.aload_n 0, 1) := dk_42 (by decide +kernel)
theorem dX0_mark_38 : decode cX0_mark 38 = .ok (.getfield 21, 3) := dk_180 (by decide +kernel)
theorem dX0_mark_41 : decode cX0_mark 41 = .ok (.iload_n 3, 1) := dk_29 (by decide +kernel)
theorem dX0_mark_42 : decode cX0_mark 42 = .ok (.dup2, 1) := dk_92 (by decide +kernel)
theorem dX0_mark_43 : decode cX0_mark 43 = .ok (.iaload, 1) := dk_46 (by decide +kernel)
theorem dX0_mark_44 : decode cX0_mark 44 = .ok (.iconst 1, 1) := dk_4 (by decide +kernel)
theorem dX0_mark_45 : decode cX0_mark 45 = .ok (.iload_n 1, 1) := dk_27 (by decide +kernel)
theorem dX0_mark_46 : decode cX0_mark 46 = .ok (.ishl, 1) := dk_120 (by decide +kernel)
theorem dX0_mark_47 : decode cX0_mark 47 = .ok (.ixor, 1) := dk_130 (by decide +kernel)
theorem dX0_mark_48 : decode cX0_mark 48 = .ok (.iastore, 1) := dk_79 (by decide +kernel)
theorem dX0_mark_49 : decode cX0_mark 49 = .ok (.aload_n 0, 1) := dk_42 (by decide +kernel)
theorem dX0_mark_50 : decode cX0_mark 50 = .ok (.getfield 24, 3) := dk_180 (by decide +kernel)
theorem dX0_mark_53 : decode cX0_mark 53 = .ok (.iload_n 3, 1) := dk_29 (by decide +kernel)
theorem dX0_mark_54 : decode cX0_mark 54 = .ok (.dup2, 1) := dk_92 (by decide +kernel)
theorem dX0_mark_55 : decode cX0_mark 55 = .ok (.iaload, 1) := dk_46 (by decide +kernel)
theorem dX0_mark_56 : decode cX0_mark 56 = .ok (.iload_n 2, 1) := dk_28 (by decide +kernel)
theorem dX0_mark_57 : decode cX0_mark 57 = .ok (.iadd, 1) := dk_96 (by decide +kernel)
theorem dX0_mark_58 : decode cX0_mark 58 = .ok (.iastore, 1) := dk_79 (by decide +kernel)
theorem dX0_mark_59 : decode cX0_mark 59 = .ok (.iinc 3 1, 3) := dk_132 (by decide +kernel)
theorem dX0_mark_62 : decode cX0_mark 62 = .ok (.goto (-60), 3) := dk_167 (by decide +kernel)
theorem dX0_mark_65 : decode cX0_mark 65 = .ok (.return_, 1) := dk_177 (by decide +kernel)
def wsMX0_mark : List Cond := .code yX0_mark cX0_mark 4 none :: ([.fieldLink RX0 11 "OptimaWorks$ClauseDesk" "wants" "[I", .fieldLink RX0 15 "OptimaWorks$ClauseDesk" "wantsNot" "[I", .fieldLink RX0 21 "OptimaWorks$ClauseDesk" "broken" "[I", .fieldLink RX0 24 "OptimaWorks$ClauseDesk" "loss" "[I"] ++ wsX00)
theorem iwsMX0_mark_in0 : ∀ w ∈ wsX00, w ∈ wsMX0_mark := fun _ h => List.mem_cons_of_mem _ (List.mem_append_right _ h)
theorem gdwsMX0_mark : wsMX0_mark.all goodWord = true := gdC rfl (gdA (by decide +kernel : ([.fieldLink RX0 11 "OptimaWorks$ClauseDesk" "wants" "[I", .fieldLink RX0 15 "OptimaWorks$ClauseDesk" "wantsNot" "[I", .fieldLink RX0 21 "OptimaWorks$ClauseDesk" "broken" "[I", .fieldLink RX0 24 "OptimaWorks$ClauseDesk" "loss" "[I"] : List Cond).all goodWord = true) gdwsX00)
theorem hm_m_X0_mark_0 : (.fieldLink RX0 15 "OptimaWorks$ClauseDesk" "wantsNot" "[I" : Cond) ∈ wsMX0_mark := by decide +kernel
set_option maxHeartbeats 4000000 in
set_option maxRecDepth 100000 in
/-- a clause is marked -/
theorem m_X0_mark (l : Launch) (dC : Nat → ClassId) (dI : Nat → Nat → Nat) (hC : Nat → Nat) (aC : Nat → Nat) (kC : Nat → ClassId) (iC_clauses : Int32) (fC_wants : Nat → Int32) (fC_wantsNot : Nat → Int32) (fC_weight : Nat → Int32) (fC_broken : Nat → Int32) (fC_loss : Nat → Int32) (iC_musts : Int32) (p1 : Int32) (p2 : Int32) (b_iC_clauses : 0 ≤ iC_clauses.toInt ∧ iC_clauses.toInt ≤ 24) (b_p1 : 0 ≤ p1.toInt ∧ p1.toInt ≤ 23) (sz : Nat) : Met l yX0_mark wsMX0_mark ({ frames := 0, cells := 0, slots := 0, locals := 0 }) (va_Pc [.ref (hC 0), .int p1, .int p2] (fun U => U.heap.size = sz ∧ va_P (dC, dI) vwCl (WC hC aC kC iC_clauses fC_wants fC_wantsNot fC_weight fC_broken fC_loss iC_musts) U.heap ∧ va_K (dC, dI) vwCl (tC kC) U ∧ va_D (fun _ => True) (WC hC aC kC iC_clauses fC_wants fC_wantsNot fC_weight fC_broken fC_loss iC_musts))) (va_Qv (fun (u : (Nat → Int32) × (Nat → Int32)) => (cMrk (fC_wants p1.toInt.toNat) (fC_wantsNot p1.toInt.toNat) p1 p2 fC_broken fC_loss (u.1) (u.2) 4096)) (fun (u : (Nat → Int32) × (Nat → Int32)) t => va_P (dC, dI) vwCl (WC hC aC kC iC_clauses fC_wants fC_wantsNot fC_weight (u.1) (u.2) iC_musts) t.heap ∧ va_D (va_A (WC hC aC kC iC_clauses fC_wants fC_wantsNot fC_weight fC_broken fC_loss iC_musts) sz) (WC hC aC kC iC_clauses fC_wants fC_wantsNot fC_weight (u.1) (u.2) iC_musts)) (va_A (WC hC aC kC iC_clauses fC_wants fC_wantsNot fC_weight fC_broken fC_loss iC_musts) sz)) 0 0 (va_A (WC hC aC kC iC_clauses fC_wants fC_wantsNot fC_weight fC_broken fC_loss iC_musts) sz) := by
  refine Met.ofW (cc := cX0_mark) (maxL := 4) (ret := none) (by decide) rfl ?_
  intro p e s m args below meth c s₁ B hml hv
  obtain ⟨rfl, hsz, hP, hK, hD0⟩ := hv
  have hx := B.exec
  have hb := B.bytes
  have hr := B.returns
  have hts := atoms_spec (ws := wsMX0_mark) B.pre
  have hown : s.vm.findClass RX0 = some m.cls := findClass_of_methodNamed B.named
  have hlocks := B.notSynchronized
  subst hsz
  have hD := hD0.self (sz := s.heap.size)
  generalize hAe : va_A (WC hC aC kC iC_clauses fC_wants fC_wantsNot fC_weight fC_broken fC_loss iC_musts) s.heap.size = A at hD ⊢
  have hA : ∀ q : Nat, s.heap.size ≤ q → A q := fun q h => by rw [← hAe]; exact Or.inr h
  have hS : va_S A s.heap s.heap [] := va_S.rf
  have hl := lv_entry ([.ref (hC 0), .int p1, .int p2]) (n := 4) (Nat.le_of_ble_eq_true rfl)
  rw [lg_entry_eq]
  generalize (lg_sl ([.ref (hC 0), .int p1, .int p2]) ++ List.replicate (4 - (lg_sl ([.ref (hC 0), .int p1, .int p2])).length) Slot.unset).toArray = ls at hl ⊢
  have hl : lv_has ls 4 [(0, .ref (hC 0)), (1, .int p1), (2, .int p2)] := hl
  refine lv_iconst (v := 0) hx hb dX0_mark_0 (by decide) ?_
  refine lv_istore_n hx hb dX0_mark_1 rfl hl (by decide) rfl (fun ls (hl : lv_has ls _ ([(3, .int 0), (0, .ref (hC 0)), (1, .int p1), (2, .int p2)])) => ?_)
  have hl : lv_has _ _ ([(3, .int 0), (0, .ref (hC 0)), (1, .int p1), (2, .int p2)]) := lv_sub hl [0, 1, 2, 3] rfl
  refine (fun (loop : ∀ (n9 : Nat) (fC_broken_x2 : Nat → Int32) (fC_loss_x2 : Nat → Int32) (l3_x2 : Int32) (H : Heap) (locs : List Loc) (ls : Array Slot), (0 ≤ l3_x2.toInt ∧ l3_x2.toInt ≤ 4096) → (cMrk (fC_wants p1.toInt.toNat) (fC_wantsNot p1.toInt.toNat) p1 p2 fC_broken fC_loss fC_broken_x2 fC_loss_x2 l3_x2.toInt.toNat) → (4096 - l3_x2.toInt < ((n9 : Nat) : Int)) → va_P (dC, dI) vwCl (WC hC aC kC iC_clauses fC_wants fC_wantsNot fC_weight fC_broken_x2 fC_loss_x2 iC_musts) H → va_D A (WC hC aC kC iC_clauses fC_wants fC_wantsNot fC_weight fC_broken_x2 fC_loss_x2 iC_musts) → va_S A s.heap H locs → lv_has ls 4 [(3, .int l3_x2), (0, .ref (hC 0)), (1, .int p1), (2, .int p2)] → W p l e _ s m _ below meth c H locs 0 0 _ (F0 m 2 ls [])) => loop (4097) fC_broken fC_loss 0 _ _ _ (show 0 ≤ (0 : Int32).toInt ∧ (0 : Int32).toInt ≤ 4096 from by decide) (show cMrk (fC_wants p1.toInt.toNat) (fC_wantsNot p1.toInt.toNat) p1 p2 fC_broken fC_loss fC_broken fC_loss (0 : Int32).toInt.toNat from cMrk.start (by decide)) ((by have e9 : (0 : Int32).toInt = 0 := (by decide : (0 : Int32).toInt = 0); omega)) hP hD hS hl) ?_
  intro n9
  induction n9 with
  | zero => intro fC_broken_x2 fC_loss_x2 l3_x2 H locs ls b_l3_x2 hMk hf9; exact False.elim (by omega)
  | succ n9 ihx2 =>
    intro fC_broken_x2 fC_loss_x2 l3_x2 H locs ls b_l3_x2 hMk hfx2 hP hD hS hl
    refine lv_iload_n hx hb dX0_mark_2 rfl (lv_at hl 0 rfl) ?_
    refine lv_sipush (v := 4096) hx hb dX0_mark_3 (by decide) ?_
    refine lv_icmp_ge (tgt := 65) hx hb dX0_mark_6 (by decide) (fun c_6 => ?_) (fun c_6 => ?_)
    · have t_6 : l3_x2.toInt ≥ 4096 := toI_ge c_6 rfl (by decide : (4096 : Int32).toInt = 4096)
      refine W.widen (k := 0) (n := 0) (by decide +kernel) (by decide +kernel) ?_
      exact W.vret hx hb hr (fun t9_ ht hW => ⟨⟨(fC_broken_x2, fC_loss_x2), rfl, (by (try dsimp only); rw [show 4096 = l3_x2.toInt.toNat from by omega]; exact hMk), by rw [ht]; exact hP, hD⟩, hS.F ht⟩) hS.2.2 dX0_mark_65
    · have t_6 : ¬ l3_x2.toInt ≥ 4096 := toI_nge c_6 rfl (by decide : (4096 : Int32).toInt = 4096)
      refine lv_iload_n hx hb dX0_mark_9 rfl (lv_at hl 0 rfl) ?_
      refine lv_aload_n hx hb dX0_mark_10 rfl (lv_at hl 1 rfl) ?_
      refine va_get (D := (dC, dI)) (ci := 0) (v := .ref (aC 0)) (C := RX0) (T := TX0) (N := 7) hx hb hts iwsMX0_mark_in0 hown hK hP 0 rfl rfl 1 (by decide) (hts (.fieldLink RX0 11 "OptimaWorks$ClauseDesk" "wants" "[I") (by decide +kernel)) (fun _ h9 => h9) rfl dX0_mark_11 ?_
      refine lv_iload_n hx hb dX0_mark_14 rfl (lv_at hl 2 rfl) ?_
      refine va_iald (cA := kC 0) (n := 24) (f := fC_wants) hx hb hK hP 1 0 rfl rfl (vp_in_iff.mpr ⟨b_p1.1, (Int.lt_of_le_of_lt (b_p1.2) (by decide))⟩) dX0_mark_15 ?_
      refine lv_topi (fun v49 hv49 => ?_)
      have b_v49 : v49 = fC_wants (p1).toNatClampNeg := hv49
      clear hv49
      refine lv_iand hx hb dX0_mark_16 ?_
      refine lv_topi (fun v50 hv50 => ?_)
      have b_v50 : v50 = l3_x2 &&& v49 := hv50
      clear hv50
      refine lv_if_ne (tgt := 59) hx hb dX0_mark_17 (by decide) (fun c_17 => ?_) (fun c_17 => ?_)
      · have t_17 : v50.toInt ≠ 0 := toI_ne c_17 rfl (by decide : (0 : Int32).toInt = 0)
        refine lv_iinc (v := (iI (l3_x2.toInt + 1))) hx hb dX0_mark_59 hl (k := 0) rfl (iI_add2 (iI_of _) (by decide : (1 : Int32) = iI 1)) (by decide) rfl (fun ls (hl : lv_has ls _ ([(3, .int (iI (l3_x2.toInt + 1))), (0, .ref (hC 0)), (1, .int p1), (2, .int p2)])) => ?_)
        refine lv_goto (tgt := 2) hx hb dX0_mark_62 (by decide) ?_
        have hl : lv_has _ _ ([(3, .int (iI (l3_x2.toInt + 1))), (0, .ref (hC 0)), (1, .int p1), (2, .int p2)]) := lv_sub hl [0, 1, 2, 3] rfl
        exact ihx2 fC_broken_x2 fC_loss_x2 (iI (l3_x2.toInt + 1)) _ _ _ (iI_rng (Int.le_trans (by decide) (Int.add_le_add (b_l3_x2.1) (Int.le_refl _))) (by omega) (by decide) (by decide)) (show cMrk (fC_wants p1.toInt.toNat) (fC_wantsNot p1.toInt.toNat) p1 p2 fC_broken fC_loss fC_broken_x2 fC_loss_x2 (iI (l3_x2.toInt + 1)).toInt.toNat from by rw [iI_t (by omega) (by omega), show (l3_x2.toInt + 1).toNat = l3_x2.toInt.toNat + 1 from by omega]; (have ew : v49 = fC_wants p1.toInt.toNat := b_v49; have e1 : (l3_x2 &&& fC_wants p1.toInt.toNat) = v50 := (by rw [b_v50, ← ew]); exact cMrk.no (r := l3_x2) hMk rfl (by omega) (fun h9 => by rw [e1] at h9; exact t_17 (by rw [h9.1]; decide)))) (by have e9 : ((iI (l3_x2.toInt + 1))).toInt = (l3_x2.toInt + 1) := (iI_t (Int.le_trans (by decide) (Int.add_le_add (b_l3_x2.1) (Int.le_refl _))) (Int.le_trans (Int.add_le_add (b_l3_x2.2) (Int.le_refl _)) (by decide))); omega) hP hD hS hl
      · have t_17 : v50.toInt = 0 := toI_nne c_17 rfl (by decide : (0 : Int32).toInt = 0)
        refine lv_iload_n hx hb dX0_mark_20 rfl (lv_at hl 0 rfl) ?_
        refine lv_aload_n hx hb dX0_mark_21 rfl (lv_at hl 1 rfl) ?_
        refine va_get (D := (dC, dI)) (ci := 0) (v := .ref (aC 1)) (C := RX0) (T := TX0) (N := 7) hx hb hts iwsMX0_mark_in0 hown hK hP 0 rfl rfl 2 (by decide) (hts _ hm_m_X0_mark_0) (fun _ h9 => h9) rfl dX0_mark_22 ?_
        refine lv_iload_n hx hb dX0_mark_25 rfl (lv_at hl 2 rfl) ?_
        refine va_iald (cA := kC 1) (n := 24) (f := fC_wantsNot) hx hb hK hP 2 1 rfl rfl (vp_in_iff.mpr ⟨b_p1.1, (Int.lt_of_le_of_lt (b_p1.2) (by decide))⟩) dX0_mark_26 ?_
        refine lv_topi (fun v51 hv51 => ?_)
        have b_v51 : v51 = fC_wantsNot (p1).toNatClampNeg := hv51
        clear hv51
        refine lv_iand hx hb dX0_mark_27 ?_
        refine lv_topi (fun v52 hv52 => ?_)
        have b_v52 : v52 = l3_x2 &&& v51 := hv52
        clear hv52
        refine lv_aload_n hx hb dX0_mark_28 rfl (lv_at hl 1 rfl) ?_
        refine va_get (D := (dC, dI)) (ci := 0) (v := .ref (aC 1)) (C := RX0) (T := TX0) (N := 7) hx hb hts iwsMX0_mark_in0 hown hK hP 0 rfl rfl 2 (by decide) (hts _ hm_m_X0_mark_0) (fun _ h9 => h9) rfl dX0_mark_29 ?_
        refine lv_iload_n hx hb dX0_mark_32 rfl (lv_at hl 2 rfl) ?_
        refine va_iald (cA := kC 1) (n := 24) (f := fC_wantsNot) hx hb hK hP 2 1 rfl rfl (vp_in_iff.mpr ⟨b_p1.1, (Int.lt_of_le_of_lt (b_p1.2) (by decide))⟩) dX0_mark_33 ?_
        refine lv_topi (fun v53 hv53 => ?_)
        have b_v53 : v53 = fC_wantsNot (p1).toNatClampNeg := hv53
        clear hv53
        refine lv_icmp_ne (tgt := 59) hx hb dX0_mark_34 (by decide) (fun c_34 => ?_) (fun c_34 => ?_)
        · have t_34 : v52.toInt ≠ v53.toInt := toI_ne c_34 rfl rfl
          refine lv_iinc (v := (iI (l3_x2.toInt + 1))) hx hb dX0_mark_59 hl (k := 0) rfl (iI_add2 (iI_of _) (by decide : (1 : Int32) = iI 1)) (by decide) rfl (fun ls (hl : lv_has ls _ ([(3, .int (iI (l3_x2.toInt + 1))), (0, .ref (hC 0)), (1, .int p1), (2, .int p2)])) => ?_)
          refine lv_goto (tgt := 2) hx hb dX0_mark_62 (by decide) ?_
          have hl : lv_has _ _ ([(3, .int (iI (l3_x2.toInt + 1))), (0, .ref (hC 0)), (1, .int p1), (2, .int p2)]) := lv_sub hl [0, 1, 2, 3] rfl
          exact ihx2 fC_broken_x2 fC_loss_x2 (iI (l3_x2.toInt + 1)) _ _ _ (iI_rng (Int.le_trans (by decide) (Int.add_le_add (b_l3_x2.1) (Int.le_refl _))) (by omega) (by decide) (by decide)) (show cMrk (fC_wants p1.toInt.toNat) (fC_wantsNot p1.toInt.toNat) p1 p2 fC_broken fC_loss fC_broken_x2 fC_loss_x2 (iI (l3_x2.toInt + 1)).toInt.toNat from by rw [iI_t (by omega) (by omega), show (l3_x2.toInt + 1).toNat = l3_x2.toInt.toNat + 1 from by omega]; first | (have en : v51 = fC_wantsNot p1.toInt.toNat := b_v51; have e2 : (l3_x2 &&& fC_wantsNot p1.toInt.toNat) = v52 := (by rw [b_v52, ← en]); have en2 : v53 = fC_wantsNot p1.toInt.toNat := b_v53; exact cMrk.no (r := l3_x2) hMk rfl (by omega) (fun h9 => by rw [e2, ← en2] at h9; exact t_34 (by rw [h9.2]))) | (have ew : v49 = fC_wants p1.toInt.toNat := b_v49; have e1 : (l3_x2 &&& fC_wants p1.toInt.toNat) = v50 := (by rw [b_v50, ← ew]); exact cMrk.no (r := l3_x2) hMk rfl (by omega) (fun h9 => by rw [e1] at h9; exact t_17 (by rw [h9.1]; decide)))) (by have e9 : ((iI (l3_x2.toInt + 1))).toInt = (l3_x2.toInt + 1) := (iI_t (Int.le_trans (by decide) (Int.add_le_add (b_l3_x2.1) (Int.le_refl _))) (Int.le_trans (Int.add_le_add (b_l3_x2.2) (Int.le_refl _)) (by decide))); omega) hP hD hS hl
        · have t_34 : v52.toInt = v53.toInt := toI_nne c_34 rfl rfl
          refine lv_aload_n hx hb dX0_mark_37 rfl (lv_at hl 1 rfl) ?_
          refine va_get (D := (dC, dI)) (ci := 0) (v := .ref (aC 3)) (C := RX0) (T := TX0) (N := 7) hx hb hts iwsMX0_mark_in0 hown hK hP 0 rfl rfl 4 (by decide) (hts (.fieldLink RX0 21 "OptimaWorks$ClauseDesk" "broken" "[I") (by decide +kernel)) (fun _ h9 => h9) rfl dX0_mark_38 ?_
          refine lv_iload_n hx hb dX0_mark_41 rfl (lv_at hl 0 rfl) ?_
          refine lv_dup2_11 hx hb dX0_mark_42 rfl rfl ?_
          refine va_iald (cA := kC 3) (n := 4096) (f := fC_broken_x2) hx hb hK hP 4 3 rfl rfl (vp_in_iff.mpr ⟨b_l3_x2.1, (Int.lt_of_lt_of_le (Int.not_le.mp t_6) (by decide))⟩) dX0_mark_43 ?_
          refine lv_topi (fun v54 hv54 => ?_)
          have b_v54 : v54 = fC_broken_x2 (l3_x2).toNatClampNeg := hv54
          clear hv54
          refine lv_iconst (v := 1) hx hb dX0_mark_44 (by decide) ?_
          refine lv_iload_n hx hb dX0_mark_45 rfl (lv_at hl 2 rfl) ?_
          refine lv_ishl hx hb dX0_mark_46 ?_
          refine lv_topi (fun v55 hv55 => ?_)
          have b_v55 : v55 = (1 : Int32) <<< (p1 &&& 31) := hv55
          clear hv55
          refine lv_ixor hx hb dX0_mark_47 ?_
          refine lv_topi (fun v56 hv56 => ?_)
          have b_v56 : v56 = v54 ^^^ v55 := hv56
          clear hv56
          refine va_iast (cA := kC 3) (n := 4096) (f := fC_broken_x2) hx hb hK hP hD hS 4 3 rfl rfl (vp_in_iff.mpr ⟨b_l3_x2.1, (Int.lt_of_lt_of_le (Int.not_le.mp t_6) (by decide))⟩) dX0_mark_48 (fun H locs hP hD hS => ?_)
          obtain ⟨u57, hu57⟩ : ∃ f9, f9 = upd fC_broken_x2 (l3_x2).toNatClampNeg v56 := ⟨_, rfl⟩
          have hP : va_P (dC, dI) vwCl (WC hC aC kC iC_clauses fC_wants fC_wantsNot fC_weight u57 fC_loss_x2 iC_musts) H := by rw [hu57]; exact hP
          have hD : va_D A (WC hC aC kC iC_clauses fC_wants fC_wantsNot fC_weight u57 fC_loss_x2 iC_musts) := by rw [hu57]; exact hD
          have b_u57 : u57 = upd fC_broken_x2 (l3_x2).toNatClampNeg v56 := hu57
          clear hu57
          refine lv_aload_n hx hb dX0_mark_49 rfl (lv_at hl 1 rfl) ?_
          refine va_get (D := (dC, dI)) (ci := 0) (v := .ref (aC 4)) (C := RX0) (T := TX0) (N := 7) hx hb hts iwsMX0_mark_in0 hown hK hP 0 rfl rfl 5 (by decide) (hts (.fieldLink RX0 24 "OptimaWorks$ClauseDesk" "loss" "[I") (by decide +kernel)) (fun _ h9 => h9) rfl dX0_mark_50 ?_
          refine lv_iload_n hx hb dX0_mark_53 rfl (lv_at hl 0 rfl) ?_
          refine lv_dup2_11 hx hb dX0_mark_54 rfl rfl ?_
          refine va_iald (cA := kC 4) (n := 4096) (f := fC_loss_x2) hx hb hK hP 5 4 rfl rfl (vp_in_iff.mpr ⟨b_l3_x2.1, (Int.lt_of_lt_of_le (Int.not_le.mp t_6) (by decide))⟩) dX0_mark_55 ?_
          refine lv_topi (fun v58 hv58 => ?_)
          have b_v58 : v58 = fC_loss_x2 (l3_x2).toNatClampNeg := hv58
          clear hv58
          refine lv_iload_n hx hb dX0_mark_56 rfl (lv_at hl 3 rfl) ?_
          refine lv_iadd hx hb dX0_mark_57 ?_
          refine lv_topi (fun y59 hy59 => ?_)
          obtain rfl : (iI (v58.toInt + p2.toInt)) = y59 := (hy59.trans (iI_add2 (iI_of _) (iI_of _))).symm
          refine va_iast (cA := kC 4) (n := 4096) (f := fC_loss_x2) hx hb hK hP hD hS 5 4 rfl rfl (vp_in_iff.mpr ⟨b_l3_x2.1, (Int.lt_of_lt_of_le (Int.not_le.mp t_6) (by decide))⟩) dX0_mark_58 (fun H locs hP hD hS => ?_)
          obtain ⟨u60, hu60⟩ : ∃ f9, f9 = upd fC_loss_x2 (l3_x2).toNatClampNeg (iI (v58.toInt + p2.toInt)) := ⟨_, rfl⟩
          have hP : va_P (dC, dI) vwCl (WC hC aC kC iC_clauses fC_wants fC_wantsNot fC_weight u57 u60 iC_musts) H := by rw [hu60]; exact hP
          have hD : va_D A (WC hC aC kC iC_clauses fC_wants fC_wantsNot fC_weight u57 u60 iC_musts) := by rw [hu60]; exact hD
          have b_u60 : u60 = upd fC_loss_x2 (l3_x2).toNatClampNeg (iI (v58.toInt + p2.toInt)) := hu60
          clear hu60
          refine lv_iinc (v := (iI (l3_x2.toInt + 1))) hx hb dX0_mark_59 hl (k := 0) rfl (iI_add2 (iI_of _) (by decide : (1 : Int32) = iI 1)) (by decide) rfl (fun ls (hl : lv_has ls _ ([(3, .int (iI (l3_x2.toInt + 1))), (0, .ref (hC 0)), (1, .int p1), (2, .int p2)])) => ?_)
          refine lv_goto (tgt := 2) hx hb dX0_mark_62 (by decide) ?_
          have hl : lv_has _ _ ([(3, .int (iI (l3_x2.toInt + 1))), (0, .ref (hC 0)), (1, .int p1), (2, .int p2)]) := lv_sub hl [0, 1, 2, 3] rfl
          exact ihx2 u57 u60 (iI (l3_x2.toInt + 1)) _ _ _ (iI_rng (Int.le_trans (by decide) (Int.add_le_add (b_l3_x2.1) (Int.le_refl _))) (by omega) (by decide) (by decide)) (show cMrk (fC_wants p1.toInt.toNat) (fC_wantsNot p1.toInt.toNat) p1 p2 fC_broken fC_loss u57 u60 (iI (l3_x2.toInt + 1)).toInt.toNat from by rw [iI_t (by omega) (by omega), show (l3_x2.toInt + 1).toNat = l3_x2.toInt.toNat + 1 from by omega]; (have ew : v49 = fC_wants p1.toInt.toNat := b_v49; have e1 : (l3_x2 &&& fC_wants p1.toInt.toNat) = v50 := (by rw [b_v50, ← ew]); have en : v51 = fC_wantsNot p1.toInt.toNat := b_v51; have e2 : (l3_x2 &&& fC_wantsNot p1.toInt.toNat) = v52 := (by rw [b_v52, ← en]); have en2 : v53 = fC_wantsNot p1.toInt.toNat := b_v53; exact cMrk.yes (r := l3_x2) hMk rfl (by omega) (by omega) (by rw [e1]; exact Int32.toInt_inj.mp (by rw [t_17]; decide)) (by rw [e2, ← en2]; exact Int32.toInt_inj.mp t_34) b_u57 (by rw [b_v56, b_v54, b_v55]) b_u60 (by rw [b_v58]))) (by have e9 : ((iI (l3_x2.toInt + 1))).toInt = (l3_x2.toInt + 1) := (iI_t (Int.le_trans (by decide) (Int.add_le_add (b_l3_x2.1) (Int.le_refl _))) (Int.le_trans (Int.add_le_add (b_l3_x2.2) (Int.le_refl _)) (by decide))); omega) hP hD hS hl
theorem dX0_addClause_0 : decode cX0_addClause 0 = .ok (.aload_n 0, 1) := dk_42 (by decide +kernel)
theorem dX0_addClause_1 : decode cX0_addClause 1 = .ok (.getfield 11, 3) := dk_180 (by decide +kernel)
theorem dX0_addClause_4 : decode cX0_addClause 4 = .ok (.aload_n 0, 1) := dk_42 (by decide +kernel)
theorem dX0_addClause_5 : decode cX0_addClause 5 = .ok (.getfield 27, 3) := dk_180 (by decide +kernel)
theorem dX0_addClause_8 : decode cX0_addClause 8 = .ok (.iload_n 1, 1) := dk_27 (by decide +kernel)
theorem dX0_addClause_9 : decode cX0_addClause 9 = .ok (.iastore, 1) := dk_79 (by decide +kernel)
theorem dX0_addClause_10 : decode cX0_addClause 10 = .ok (.aload_n 0, 1) := dk_42 (by decide +kernel)
theorem dX0_addClause_11 : decode cX0_addClause 11 = .ok (.getfield 15, 3) := dk_180 (by decide +kernel)
theorem dX0_addClause_14 : decode cX0_addClause 14 = .ok (.aload_n 0, 1) := dk_42 (by decide +kernel)
theorem dX0_addClause_15 : decode cX0_addClause 15 = .ok (.getfield 27, 3) := dk_180 (by decide +kernel)
theorem dX0_addClause_18 : decode cX0_addClause 18 = .ok (.iload_n 2, 1) := dk_28 (by decide +kernel)
theorem dX0_addClause_19 : decode cX0_addClause 19 = .ok (.iastore, 1) := dk_79 (by decide +kernel)
theorem dX0_addClause_20 : decode cX0_addClause 20 = .ok (.aload_n 0, 1) := dk_42 (by decide +kernel)
theorem dX0_addClause_21 : decode cX0_addClause 21 = .ok (.getfield 18, 3) := dk_180 (by decide +kernel)
theorem dX0_addClause_24 : decode cX0_addClause 24 = .ok (.aload_n 0, 1) := dk_42 (by decide +kernel)
theorem dX0_addClause_25 : decode cX0_addClause 25 = .ok (.getfield 27, 3) := dk_180 (by decide +kernel)
theorem dX0_addClause_28 : decode cX0_addClause 28 = .ok (.iload_n 3, 1) := dk_29 (by decide +kernel)
theorem dX0_addClause_29 : decode cX0_addClause 29 = .ok (.iastore, 1) := dk_79 (by decide +kernel)
theorem dX0_addClause_30 : decode cX0_addClause 30 = .ok (.iload_n 3, 1) := dk_29 (by decide +kernel)
theorem dX0_addClause_31 : decode cX0_addClause 31 = .ok (.ifCond .ne 18, 3) := dk_154 (by decide +kernel)
theorem dX0_addClause_34 : decode cX0_addClause 34 = .ok (.aload_n 0, 1) := dk_42 (by decide +kernel)
theorem dX0_addClause_35 : decode cX0_addClause 35 = .ok (.dup, 1) := dk_89 (by decide +kernel)
theorem dX0_addClause_36 : decode cX0_addClause 36 = .ok (.getfield 31, 3) := dk_180 (by decide +kernel)
theorem dX0_addClause_39 : decode cX0_addClause 39 = .ok (.iconst 1, 1) := dk_4 (by decide +kernel)
theorem dX0_addClause_40 : decode cX0_addClause 40 = .ok (.aload_n 0, 1) := dk_42 (by decide +kernel)
theorem dX0_addClause_41 : decode cX0_addClause 41 = .ok (.getfield 27, 3) := dk_180 (by decide +kernel)
theorem dX0_addClause_44 : decode cX0_addClause 44 = .ok (.ishl, 1) := dk_120 (by decide +kernel)
theorem dX0_addClause_45 : decode cX0_addClause 45 = .ok (.ior, 1) := dk_128 (by decide +kernel)
theorem dX0_addClause_46 : decode cX0_addClause 46 = .ok (.putfield 31, 3) := dk_181 (by decide +kernel)
theorem dX0_addClause_49 : decode cX0_addClause 49 = .ok (.aload_n 0, 1) := dk_42 (by decide +kernel)
theorem dX0_addClause_50 : decode cX0_addClause 50 = .ok (.aload_n 0, 1) := dk_42 (by decide +kernel)
theorem dX0_addClause_51 : decode cX0_addClause 51 = .ok (.getfield 27, 3) := dk_180 (by decide +kernel)
theorem dX0_addClause_54 : decode cX0_addClause 54 = .ok (.iload_n 3, 1) := dk_29 (by decide +kernel)
theorem dX0_addClause_55 : decode cX0_addClause 55 = .ok (.invokevirtual 34, 3) := dk_182 (by decide +kernel)
theorem dX0_addClause_58 : decode cX0_addClause 58 = .ok (.aload_n 0, 1) := dk_42 (by decide +kernel)
theorem dX0_addClause_59 : decode cX0_addClause 59 = .ok (.dup, 1) := dk_89 (by decide +kernel)
theorem dX0_addClause_60 : decode cX0_addClause 60 = .ok (.getfield 27, 3) := dk_180 (by decide +kernel)
theorem dX0_addClause_63 : decode cX0_addClause 63 = .ok (.iconst 1, 1) := dk_4 (by decide +kernel)
theorem dX0_addClause_64 : decode cX0_addClause 64 = .ok (.iadd, 1) := dk_96 (by decide +kernel)
theorem dX0_addClause_65 : decode cX0_addClause 65 = .ok (.putfield 27, 3) := dk_181 (by decide +kernel)
theorem dX0_addClause_68 : decode cX0_addClause 68 = .ok (.aload_n 0, 1) := dk_42 (by decide +kernel)
theorem dX0_addClause_69 : decode cX0_addClause 69 = .ok (.getfield 27, 3) := dk_180 (by decide +kernel)
theorem dX0_addClause_72 : decode cX0_addClause 72 = .ok (.iconst 1, 1) := dk_4 (by decide +kernel)
theorem dX0_addClause_73 : decode cX0_addClause 73 = .ok (.isub, 1) := dk_100 (by decide +kernel)
theorem dX0_addClause_74 : decode cX0_addClause 74 = .ok (.ireturn, 1) := dk_172 (by decide +kernel)
def wsMX0_addClause : List Cond := .code yX0_addClause cX0_addClause 4 (some .int) :: ([.fieldLink RX0 11 "OptimaWorks$ClauseDesk" "wants" "[I", .fieldLink RX0 27 "OptimaWorks$ClauseDesk" "clauses" "I", .fieldLink RX0 15 "OptimaWorks$ClauseDesk" "wantsNot" "[I", .fieldLink RX0 18 "OptimaWorks$ClauseDesk" "weight" "[I", .fieldLink RX0 31 "OptimaWorks$ClauseDesk" "musts" "I"] ++ wsX00 ++ (wsV RX0 34 RX0 yX0_mark wsMX0_mark))
theorem iwsMX0_addClause_in0 : ∀ w ∈ wsX00, w ∈ wsMX0_addClause := fun _ h => List.mem_cons_of_mem _ (List.mem_append_left _ (List.mem_append_right _ h))
theorem gwsMX0_addClause_0 : GoodIn wsMX0_addClause (wsV RX0 34 RX0 yX0_mark wsMX0_mark) := goodIn_sub (fun _ h => List.mem_cons_of_mem _ (List.mem_append_right _ h)) (gdV (by decide +kernel) gdwsMX0_mark)
theorem gdwsMX0_addClause : wsMX0_addClause.all goodWord = true := gdC rfl (gdA (gdA (by decide +kernel : ([.fieldLink RX0 11 "OptimaWorks$ClauseDesk" "wants" "[I", .fieldLink RX0 27 "OptimaWorks$ClauseDesk" "clauses" "I", .fieldLink RX0 15 "OptimaWorks$ClauseDesk" "wantsNot" "[I", .fieldLink RX0 18 "OptimaWorks$ClauseDesk" "weight" "[I", .fieldLink RX0 31 "OptimaWorks$ClauseDesk" "musts" "I"] : List Cond).all goodWord = true) gdwsX00) (gdV (by decide +kernel) gdwsMX0_mark))
theorem hm_m_X0_addClause_0 : (.fieldLink RX0 27 "OptimaWorks$ClauseDesk" "clauses" "I" : Cond) ∈ wsMX0_addClause := by decide +kernel
theorem hm_m_X0_addClause_1 : (.fieldLink RX0 31 "OptimaWorks$ClauseDesk" "musts" "I" : Cond) ∈ wsMX0_addClause := by decide +kernel
set_option maxHeartbeats 4000000 in
set_option maxRecDepth 100000 in
/-- a clause more -/
theorem m_X0_addClause (l : Launch) (dC : Nat → ClassId) (dI : Nat → Nat → Nat) (hC : Nat → Nat) (aC : Nat → Nat) (kC : Nat → ClassId) (iC_clauses : Int32) (fC_wants : Nat → Int32) (fC_wantsNot : Nat → Int32) (fC_weight : Nat → Int32) (fC_broken : Nat → Int32) (fC_loss : Nat → Int32) (iC_musts : Int32) (p1 : Int32) (p2 : Int32) (p3 : Int32) (b_iC_clauses : 0 ≤ iC_clauses.toInt ∧ iC_clauses.toInt ≤ 24) (b_p3 : 0 ≤ p3.toInt ∧ p3.toInt ≤ 1000) (hlt : iC_clauses.toInt < 24) (hCv : cVal (iC_clauses.toInt, fC_wants, fC_wantsNot, fC_weight)) (hCI : ClI (iC_clauses.toInt, fC_wants, fC_wantsNot, fC_weight) fC_broken fC_loss iC_musts) (sz : Nat) : Met l yX0_addClause wsMX0_addClause ({ frames := 1, cells := 0, slots := 0, locals := 23 }) (va_Pc [.ref (hC 0), .int p1, .int p2, .int p3] (fun U => U.heap.size = sz ∧ va_P (dC, dI) vwCl (WC hC aC kC iC_clauses fC_wants fC_wantsNot fC_weight fC_broken fC_loss iC_musts) U.heap ∧ va_K (dC, dI) vwCl (tC kC) U ∧ va_D (fun _ => True) (WC hC aC kC iC_clauses fC_wants fC_wantsNot fC_weight fC_broken fC_loss iC_musts))) (va_Qi (fun (r : Int32) (u : (Int32) × (Nat → Int32) × (Nat → Int32) × (Nat → Int32) × (Nat → Int32) × (Nat → Int32) × (Int32)) => (0 ≤ (u.1).toInt ∧ (u.1).toInt ≤ 24) ∧ ((u.1).toInt = iC_clauses.toInt + 1) ∧ (r.toInt = iC_clauses.toInt) ∧ ((u.2.1) = upd fC_wants iC_clauses.toInt.toNat p1) ∧ ((u.2.2.1) = upd fC_wantsNot iC_clauses.toInt.toNat p2) ∧ ((u.2.2.2.1) = upd fC_weight iC_clauses.toInt.toNat p3) ∧ (ClI ((u.1).toInt, (u.2.1), (u.2.2.1), (u.2.2.2.1)) (u.2.2.2.2.1) (u.2.2.2.2.2.1) (u.2.2.2.2.2.2)) ∧ (cVal ((u.1).toInt, (u.2.1), (u.2.2.1), (u.2.2.2.1)))) (fun (u : (Int32) × (Nat → Int32) × (Nat → Int32) × (Nat → Int32) × (Nat → Int32) × (Nat → Int32) × (Int32)) t => va_P (dC, dI) vwCl (WC hC aC kC (u.1) (u.2.1) (u.2.2.1) (u.2.2.2.1) (u.2.2.2.2.1) (u.2.2.2.2.2.1) (u.2.2.2.2.2.2)) t.heap ∧ va_D (va_A (WC hC aC kC iC_clauses fC_wants fC_wantsNot fC_weight fC_broken fC_loss iC_musts) sz) (WC hC aC kC (u.1) (u.2.1) (u.2.2.1) (u.2.2.2.1) (u.2.2.2.2.1) (u.2.2.2.2.2.1) (u.2.2.2.2.2.2))) (va_A (WC hC aC kC iC_clauses fC_wants fC_wantsNot fC_weight fC_broken fC_loss iC_musts) sz)) 0 0 (va_A (WC hC aC kC iC_clauses fC_wants fC_wantsNot fC_weight fC_broken fC_loss iC_musts) sz) := by
  refine Met.ofW (cc := cX0_addClause) (maxL := 4) (ret := (some .int)) (by decide) rfl ?_
  intro p e s m args below meth c s₁ B hml hv
  obtain ⟨rfl, hsz, hP, hK, hD0⟩ := hv
  have hx := B.exec
  have hb := B.bytes
  have hr := B.returns
  have hts := atoms_spec (ws := wsMX0_addClause) B.pre
  have hown : s.vm.findClass RX0 = some m.cls := findClass_of_methodNamed B.named
  have hlocks := B.notSynchronized
  subst hsz
  have hD := hD0.self (sz := s.heap.size)
  generalize hAe : va_A (WC hC aC kC iC_clauses fC_wants fC_wantsNot fC_weight fC_broken fC_loss iC_musts) s.heap.size = A at hD ⊢
  have hA : ∀ q : Nat, s.heap.size ≤ q → A q := fun q h => by rw [← hAe]; exact Or.inr h
  have hS : va_S A s.heap s.heap [] := va_S.rf
  have hl := lv_entry ([.ref (hC 0), .int p1, .int p2, .int p3]) (n := 4) (Nat.le_of_ble_eq_true rfl)
  rw [lg_entry_eq]
  generalize (lg_sl ([.ref (hC 0), .int p1, .int p2, .int p3]) ++ List.replicate (4 - (lg_sl ([.ref (hC 0), .int p1, .int p2, .int p3])).length) Slot.unset).toArray = ls at hl ⊢
  have hl : lv_has ls 4 [(0, .ref (hC 0)), (1, .int p1), (2, .int p2), (3, .int p3)] := hl
  refine lv_aload_n hx hb dX0_addClause_0 rfl (lv_at hl 0 rfl) ?_
  refine va_get (D := (dC, dI)) (ci := 0) (v := .ref (aC 0)) (C := RX0) (T := TX0) (N := 7) hx hb hts iwsMX0_addClause_in0 hown hK hP 0 rfl rfl 1 (by decide) (hts (.fieldLink RX0 11 "OptimaWorks$ClauseDesk" "wants" "[I") (by decide +kernel)) (fun _ h9 => h9) rfl dX0_addClause_1 ?_
  refine lv_aload_n hx hb dX0_addClause_4 rfl (lv_at hl 0 rfl) ?_
  refine va_get (D := (dC, dI)) (ci := 0) (v := .int iC_clauses) (C := RX0) (T := TX0) (N := 7) hx hb hts iwsMX0_addClause_in0 hown hK hP 0 rfl rfl 0 (by decide) (hts _ hm_m_X0_addClause_0) (fun _ h9 => h9) rfl dX0_addClause_5 ?_
  refine lv_iload_n hx hb dX0_addClause_8 rfl (lv_at hl 1 rfl) ?_
  refine va_iast (cA := kC 0) (n := 24) (f := fC_wants) hx hb hK hP hD hS 1 0 rfl rfl (vp_in_iff.mpr ⟨b_iC_clauses.1, (by omega)⟩) dX0_addClause_9 (fun H locs hP hD hS => ?_)
  obtain ⟨u1, hu1⟩ : ∃ f9, f9 = upd fC_wants (iC_clauses).toNatClampNeg p1 := ⟨_, rfl⟩
  have hP : va_P (dC, dI) vwCl (WC hC aC kC iC_clauses u1 fC_wantsNot fC_weight fC_broken fC_loss iC_musts) H := by rw [hu1]; exact hP
  have hD : va_D A (WC hC aC kC iC_clauses u1 fC_wantsNot fC_weight fC_broken fC_loss iC_musts) := by rw [hu1]; exact hD
  have b_u1 : u1 = upd fC_wants (iC_clauses).toNatClampNeg p1 := hu1
  clear hu1
  refine lv_aload_n hx hb dX0_addClause_10 rfl (lv_at hl 0 rfl) ?_
  refine va_get (D := (dC, dI)) (ci := 0) (v := .ref (aC 1)) (C := RX0) (T := TX0) (N := 7) hx hb hts iwsMX0_addClause_in0 hown hK hP 0 rfl rfl 2 (by decide) (hts (.fieldLink RX0 15 "OptimaWorks$ClauseDesk" "wantsNot" "[I") (by decide +kernel)) (fun _ h9 => h9) rfl dX0_addClause_11 ?_
  refine lv_aload_n hx hb dX0_addClause_14 rfl (lv_at hl 0 rfl) ?_
  refine va_get (D := (dC, dI)) (ci := 0) (v := .int iC_clauses) (C := RX0) (T := TX0) (N := 7) hx hb hts iwsMX0_addClause_in0 hown hK hP 0 rfl rfl 0 (by decide) (hts _ hm_m_X0_addClause_0) (fun _ h9 => h9) rfl dX0_addClause_15 ?_
  refine lv_iload_n hx hb dX0_addClause_18 rfl (lv_at hl 2 rfl) ?_
  refine va_iast (cA := kC 1) (n := 24) (f := fC_wantsNot) hx hb hK hP hD hS 2 1 rfl rfl (vp_in_iff.mpr ⟨b_iC_clauses.1, (by omega)⟩) dX0_addClause_19 (fun H locs hP hD hS => ?_)
  obtain ⟨u2, hu2⟩ : ∃ f9, f9 = upd fC_wantsNot (iC_clauses).toNatClampNeg p2 := ⟨_, rfl⟩
  have hP : va_P (dC, dI) vwCl (WC hC aC kC iC_clauses u1 u2 fC_weight fC_broken fC_loss iC_musts) H := by rw [hu2]; exact hP
  have hD : va_D A (WC hC aC kC iC_clauses u1 u2 fC_weight fC_broken fC_loss iC_musts) := by rw [hu2]; exact hD
  have b_u2 : u2 = upd fC_wantsNot (iC_clauses).toNatClampNeg p2 := hu2
  clear hu2
  refine lv_aload_n hx hb dX0_addClause_20 rfl (lv_at hl 0 rfl) ?_
  refine va_get (D := (dC, dI)) (ci := 0) (v := .ref (aC 2)) (C := RX0) (T := TX0) (N := 7) hx hb hts iwsMX0_addClause_in0 hown hK hP 0 rfl rfl 3 (by decide) (hts (.fieldLink RX0 18 "OptimaWorks$ClauseDesk" "weight" "[I") (by decide +kernel)) (fun _ h9 => h9) rfl dX0_addClause_21 ?_
  refine lv_aload_n hx hb dX0_addClause_24 rfl (lv_at hl 0 rfl) ?_
  refine va_get (D := (dC, dI)) (ci := 0) (v := .int iC_clauses) (C := RX0) (T := TX0) (N := 7) hx hb hts iwsMX0_addClause_in0 hown hK hP 0 rfl rfl 0 (by decide) (hts _ hm_m_X0_addClause_0) (fun _ h9 => h9) rfl dX0_addClause_25 ?_
  refine lv_iload_n hx hb dX0_addClause_28 rfl (lv_at hl 3 rfl) ?_
  refine va_iast (cA := kC 2) (n := 24) (f := fC_weight) hx hb hK hP hD hS 3 2 rfl rfl (vp_in_iff.mpr ⟨b_iC_clauses.1, (by omega)⟩) dX0_addClause_29 (fun H locs hP hD hS => ?_)
  obtain ⟨u3, hu3⟩ : ∃ f9, f9 = upd fC_weight (iC_clauses).toNatClampNeg p3 := ⟨_, rfl⟩
  have hP : va_P (dC, dI) vwCl (WC hC aC kC iC_clauses u1 u2 u3 fC_broken fC_loss iC_musts) H := by rw [hu3]; exact hP
  have hD : va_D A (WC hC aC kC iC_clauses u1 u2 u3 fC_broken fC_loss iC_musts) := by rw [hu3]; exact hD
  have b_u3 : u3 = upd fC_weight (iC_clauses).toNatClampNeg p3 := hu3
  clear hu3
  refine lv_iload_n hx hb dX0_addClause_30 rfl (lv_at hl 3 rfl) ?_
  refine W.cut (pc := 49) (fun H locs ls stk => ∃ (iC_musts_j2 : Int32), ((p3.toInt = 0 ∧ iC_musts_j2 = iC_musts ||| ((1 : Int32) <<< (iC_clauses &&& 31))) ∨ (p3.toInt ≠ 0 ∧ iC_musts_j2 = iC_musts)) ∧  stk = [] ∧ va_P (dC, dI) vwCl (WC hC aC kC iC_clauses u1 u2 u3 fC_broken fC_loss iC_musts_j2) H ∧ va_D A (WC hC aC kC iC_clauses u1 u2 u3 fC_broken fC_loss iC_musts_j2) ∧ va_S A s.heap H locs ∧ lv_has ls 4 [(0, .ref (hC 0)), (1, .int p1), (2, .int p2), (3, .int p3)]) (fun join2 => ?_) ?_
  · refine lv_if_ne (tgt := 49) hx hb dX0_addClause_31 (by decide) (fun c_31 => ?_) (fun c_31 => ?_)
    · have t_31 : p3.toInt ≠ 0 := toI_ne c_31 rfl (by decide : (0 : Int32).toInt = 0)
      have hl : lv_has _ _ ([(0, .ref (hC 0)), (1, .int p1), (2, .int p2), (3, .int p3)]) := lv_sub hl [0, 1, 2, 3] rfl
      exact join2 _ _ _ _ ⟨iC_musts, (show (p3.toInt = 0 ∧ iC_musts = iC_musts ||| ((1 : Int32) <<< (iC_clauses &&& 31))) ∨ (p3.toInt ≠ 0 ∧ iC_musts = iC_musts) from by first | exact Or.inl ⟨t_31, by rw [b_v5, b_v4]⟩ | exact Or.inr ⟨t_31, rfl⟩), rfl, hP, hD, hS, hl⟩
    · have t_31 : p3.toInt = 0 := toI_nne c_31 rfl (by decide : (0 : Int32).toInt = 0)
      refine lv_aload_n hx hb dX0_addClause_34 rfl (lv_at hl 0 rfl) ?_
      refine lv_dup hx hb dX0_addClause_35 rfl ?_
      refine va_get (D := (dC, dI)) (ci := 0) (v := .int iC_musts) (C := RX0) (T := TX0) (N := 7) hx hb hts iwsMX0_addClause_in0 hown hK hP 0 rfl rfl 6 (by decide) (hts _ hm_m_X0_addClause_1) (fun _ h9 => h9) rfl dX0_addClause_36 ?_
      refine lv_iconst (v := 1) hx hb dX0_addClause_39 (by decide) ?_
      refine lv_aload_n hx hb dX0_addClause_40 rfl (lv_at hl 0 rfl) ?_
      refine va_get (D := (dC, dI)) (ci := 0) (v := .int iC_clauses) (C := RX0) (T := TX0) (N := 7) hx hb hts iwsMX0_addClause_in0 hown hK hP 0 rfl rfl 0 (by decide) (hts _ hm_m_X0_addClause_0) (fun _ h9 => h9) rfl dX0_addClause_41 ?_
      refine lv_ishl hx hb dX0_addClause_44 ?_
      refine lv_topi (fun v6 hv6 => ?_)
      have b_v6 : v6 = (1 : Int32) <<< (iC_clauses &&& 31) := hv6
      clear hv6
      refine lv_ior hx hb dX0_addClause_45 ?_
      refine lv_topi (fun v7 hv7 => ?_)
      have b_v7 : v7 = iC_musts ||| v6 := hv7
      clear hv7
      refine va_put (D := (dC, dI)) (ci := 0) (v := .int v7) (ty := .int) (C := RX0) (T := TX0) (N := 7) hx hb hts iwsMX0_addClause_in0 tyX0 tyX0_ok nmX0 hown hK hP hD hS 0 rfl rfl 6 (by decide) (hts _ hm_m_X0_addClause_1) (fun _ h9 => h9) rfl (by decide +kernel) rfl rfl (Nat.le_of_ble_eq_true rfl) dX0_addClause_46 (fun H locs hP hD hS => ?_)
      have hP : va_P (dC, dI) vwCl (WC hC aC kC iC_clauses u1 u2 u3 fC_broken fC_loss v7) H := hP
      have hD := fz_sd hP (hD) rfl
      have hl : lv_has _ _ ([(0, .ref (hC 0)), (1, .int p1), (2, .int p2), (3, .int p3)]) := lv_sub hl [0, 1, 2, 3] rfl
      exact join2 _ _ _ _ ⟨v7, (show (p3.toInt = 0 ∧ v7 = iC_musts ||| ((1 : Int32) <<< (iC_clauses &&& 31))) ∨ (p3.toInt ≠ 0 ∧ v7 = iC_musts) from by first | exact Or.inl ⟨t_31, by rw [b_v7, b_v6]⟩ | exact Or.inr ⟨t_31, rfl⟩), rfl, hP, hD, hS, hl⟩
  · rintro H locs ls stk ⟨iC_musts_j2, hmu, rfl, hP, hD, hS, hl⟩
    refine lv_aload_n hx hb dX0_addClause_49 rfl (lv_at hl 0 rfl) ?_
    refine lv_aload_n hx hb dX0_addClause_50 rfl (lv_at hl 0 rfl) ?_
    refine va_get (D := (dC, dI)) (ci := 0) (v := .int iC_clauses) (C := RX0) (T := TX0) (N := 7) hx hb hts iwsMX0_addClause_in0 hown hK hP 0 rfl rfl 0 (by decide) (hts _ hm_m_X0_addClause_0) (fun _ h9 => h9) rfl dX0_addClause_51 ?_
    refine lv_iload_n hx hb dX0_addClause_54 rfl (lv_at hl 3 rfl) ?_
    have hFc := allFree hD hS hA
    refine va_callv (va_runV (As := [.int iC_clauses, .int p3]) (rest := []) ⟨hx, hb, hml, hown, hts⟩ (m_X0_mark l dC dI hC aC kC iC_clauses u1 u2 u3 fC_broken fC_loss iC_musts_j2 iC_clauses p3 (b_iC_clauses) (by first | exact b_iC_clauses | with_reducible assumption | exact ⟨by omega, by omega⟩ | assumption) H.size) (cwV 2 hts gwsMX0_addClause_0 rfl rfl rfl hd_yX0_mark_RX0 (by decide +kernel)) (fz_pre (va_recv hK hP (ci := 0) (q0 := 0) rfl rfl) hP hK hD) rfl rfl hl.1 rfl (lv_room (Nat.le_of_ble_eq_true rfl)) dX0_addClause_55 (by decide +kernel)) hS (fun q _ h => hFc q h) hFc (fun u t9_ H locs ht hvm hw9 hB9 hz1 hk1 hS => ?_)
    revert u hw9 hB9
    refine fz_p2 ?_
    intro fC_broken_8 fC_loss_8 hw9 hB9
    try dsimp only at hw9 hB9
    have f8_0 := hw9
    try dsimp only at f8_0
    have hP : va_P (dC, dI) vwCl (WC hC aC kC iC_clauses u1 u2 u3 fC_broken_8 fC_loss_8 iC_musts_j2) H := fz_P ht hB9.1
    have hD := fz_sd hP (hB9.2.weaken (fun _ q _ h => hFc q.1 h)) rfl
    have hmk9 := f8_0
    refine lv_aload_n hx hb dX0_addClause_58 rfl (lv_at hl 0 rfl) ?_
    refine lv_dup hx hb dX0_addClause_59 rfl ?_
    refine va_get (D := (dC, dI)) (ci := 0) (v := .int iC_clauses) (C := RX0) (T := TX0) (N := 7) hx hb hts iwsMX0_addClause_in0 hown hK hP 0 rfl rfl 0 (by decide) (hts _ hm_m_X0_addClause_0) (fun _ h9 => h9) rfl dX0_addClause_60 ?_
    refine lv_iconst (v := 1) hx hb dX0_addClause_63 (by decide) ?_
    refine lv_iadd hx hb dX0_addClause_64 ?_
    refine lv_topi (fun y9 hy9 => ?_)
    obtain rfl : (iI (iC_clauses.toInt + 1)) = y9 := (hy9.trans (iI_add2 (iI_of _) (by decide : (1 : Int32) = iI 1))).symm
    refine va_put (D := (dC, dI)) (ci := 0) (v := .int (iI (iC_clauses.toInt + 1))) (ty := .int) (C := RX0) (T := TX0) (N := 7) hx hb hts iwsMX0_addClause_in0 tyX0 tyX0_ok nmX0 hown hK hP hD hS 0 rfl rfl 0 (by decide) (hts _ hm_m_X0_addClause_0) (fun _ h9 => h9) rfl (by decide +kernel) rfl rfl (Nat.le_of_ble_eq_true rfl) dX0_addClause_65 (fun H locs hP hD hS => ?_)
    have hP : va_P (dC, dI) vwCl (WC hC aC kC (iI (iC_clauses.toInt + 1)) u1 u2 u3 fC_broken_8 fC_loss_8 iC_musts_j2) H := hP
    have hD := fz_sd hP (hD) rfl
    refine lv_aload_n hx hb dX0_addClause_68 rfl (lv_at hl 0 rfl) ?_
    refine va_get (D := (dC, dI)) (ci := 0) (v := .int (iI (iC_clauses.toInt + 1))) (C := RX0) (T := TX0) (N := 7) hx hb hts iwsMX0_addClause_in0 hown hK hP 0 rfl rfl 0 (by decide) (hts _ hm_m_X0_addClause_0) (fun _ h9 => h9) rfl dX0_addClause_69 ?_
    refine lv_iconst (v := 1) hx hb dX0_addClause_72 (by decide) ?_
    refine lv_isub hx hb dX0_addClause_73 ?_
    refine lv_topi (fun y10 hy10 => ?_)
    obtain rfl : (iI ((iC_clauses.toInt + 1) - 1)) = y10 := (hy10.trans (iI_sub2 rfl (by decide : (1 : Int32) = iI 1))).symm
    refine W.widen (k := 0) (n := 0) (by decide +kernel) (by decide +kernel) ?_
    exact W.iret (v := (iI ((iC_clauses.toInt + 1) - 1))) hx hb hr (fun t9_ ht hW => ⟨⟨(iI ((iC_clauses.toInt + 1) - 1)), ((iI (iC_clauses.toInt + 1)), u1, u2, u3, fC_broken_8, fC_loss_8, iC_musts_j2), rfl, ⟨(by (try dsimp only); exact (iI_rng (Int.le_trans (by decide) (Int.add_le_add (b_iC_clauses.1) (Int.le_refl _))) (by omega) (by decide) (by decide))), (by (try dsimp only); first | (rw [iI_t (by omega) (by omega)] <;> omega) | omega), (by (try dsimp only); first | (rw [iI_t (by omega) (by omega)] <;> omega) | omega), b_u1, b_u2, b_u3, (by (try dsimp only); have e0 : iC_clauses.toNatClampNeg = iC_clauses.toInt.toNat := rfl; have ek : ((iI (iC_clauses.toInt + 1)).toInt, u1, u2, u3) = clAdd (iC_clauses.toInt, fC_wants, fC_wantsNot, fC_weight) p1 p2 p3 := clAdd_of (by rw [iI_t (by omega) (by omega)]) e0 b_u1 b_u2 b_u3; rw [ek]; refine ClI.add (i := iC_clauses) hCv (by (try dsimp only); omega) hCI ?_ rfl ⟨by omega, by omega⟩ hmu; have h9 := hmk9; rw [b_u1, b_u2] at h9; rw [show (upd fC_wants iC_clauses.toNatClampNeg p1) iC_clauses.toInt.toNat = p1 from if_pos rfl, show (upd fC_wantsNot iC_clauses.toNatClampNeg p2) iC_clauses.toInt.toNat = p2 from if_pos rfl] at h9; exact h9), (by (try dsimp only); have e0 : iC_clauses.toNatClampNeg = iC_clauses.toInt.toNat := rfl; have ek : ((iI (iC_clauses.toInt + 1)).toInt, u1, u2, u3) = clAdd (iC_clauses.toInt, fC_wants, fC_wantsNot, fC_weight) p1 p2 p3 := clAdd_of (by rw [iI_t (by omega) (by omega)]) e0 b_u1 b_u2 b_u3; rw [ek]; exact cVal.add hCv (by (try dsimp only); omega) ⟨by omega, by omega⟩)⟩, by rw [ht]; exact hP, hD⟩, hS.F ht⟩) hS.2.2 dX0_addClause_74
theorem dX0_dropClause_0 : decode cX0_dropClause 0 = .ok (.aload_n 0, 1) := dk_42 (by decide +kernel)
theorem dX0_dropClause_1 : decode cX0_dropClause 1 = .ok (.getfield 27, 3) := dk_180 (by decide +kernel)
theorem dX0_dropClause_4 : decode cX0_dropClause 4 = .ok (.ifCond .ne 5, 3) := dk_154 (by decide +kernel)
theorem dX0_dropClause_7 : decode cX0_dropClause 7 = .ok (.iconst 0, 1) := dk_3 (by decide +kernel)
theorem dX0_dropClause_8 : decode cX0_dropClause 8 = .ok (.ireturn, 1) := dk_172 (by decide +kernel)
theorem dX0_dropClause_9 : decode cX0_dropClause 9 = .ok (.aload_n 0, 1) := dk_42 (by decide +kernel)
theorem dX0_dropClause_10 : decode cX0_dropClause 10 = .ok (.dup, 1) := dk_89 (by decide +kernel)
theorem dX0_dropClause_11 : decode cX0_dropClause 11 = .ok (.getfield 27, 3) := dk_180 (by decide +kernel)
theorem dX0_dropClause_14 : decode cX0_dropClause 14 = .ok (.iconst 1, 1) := dk_4 (by decide +kernel)
theorem dX0_dropClause_15 : decode cX0_dropClause 15 = .ok (.isub, 1) := dk_100 (by decide +kernel)
theorem dX0_dropClause_16 : decode cX0_dropClause 16 = .ok (.putfield 27, 3) := dk_181 (by decide +kernel)
theorem dX0_dropClause_19 : decode cX0_dropClause 19 = .ok (.aload_n 0, 1) := dk_42 (by decide +kernel)
theorem dX0_dropClause_20 : decode cX0_dropClause 20 = .ok (.dup, 1) := dk_89 (by decide +kernel)
theorem dX0_dropClause_21 : decode cX0_dropClause 21 = .ok (.getfield 31, 3) := dk_180 (by decide +kernel)
theorem dX0_dropClause_24 : decode cX0_dropClause 24 = .ok (.iconst 1, 1) := dk_4 (by decide +kernel)
theorem dX0_dropClause_25 : decode cX0_dropClause 25 = .ok (.aload_n 0, 1) := dk_42 (by decide +kernel)
theorem dX0_dropClause_26 : decode cX0_dropClause 26 = .ok (.getfield 27, 3) := dk_180 (by decide +kernel)
theorem dX0_dropClause_29 : decode cX0_dropClause 29 = .ok (.ishl, 1) := dk_120 (by decide +kernel)
theorem dX0_dropClause_30 : decode cX0_dropClause 30 = .ok (.iconst (-1), 1) := dk_2 (by decide +kernel)
theorem dX0_dropClause_31 : decode cX0_dropClause 31 = .ok (.ixor, 1) := dk_130 (by decide +kernel)
theorem dX0_dropClause_32 : decode cX0_dropClause 32 = .ok (.iand, 1) := dk_126 (by decide +kernel)
theorem dX0_dropClause_33 : decode cX0_dropClause 33 = .ok (.putfield 31, 3) := dk_181 (by decide +kernel)
theorem dX0_dropClause_36 : decode cX0_dropClause 36 = .ok (.aload_n 0, 1) := dk_42 (by decide +kernel)
theorem dX0_dropClause_37 : decode cX0_dropClause 37 = .ok (.aload_n 0, 1) := dk_42 (by decide +kernel)
theorem dX0_dropClause_38 : decode cX0_dropClause 38 = .ok (.getfield 27, 3) := dk_180 (by decide +kernel)
theorem dX0_dropClause_41 : decode cX0_dropClause 41 = .ok (.aload_n 0, 1) := dk_42 (by decide +kernel)
theorem dX0_dropClause_42 : decode cX0_dropClause 42 = .ok (.getfield 18, 3) := dk_180 (by decide +kernel)
theorem dX0_dropClause_45 : decode cX0_dropClause 45 = .ok (.aload_n 0, 1) := dk_42 (by decide +kernel)
theorem dX0_dropClause_46 : decode cX0_dropClause 46 = .ok (.getfield 27, 3) := dk_180 (by decide +kernel)
theorem dX0_dropClause_49 : decode cX0_dropClause 49 = .ok (.iaload, 1) := dk_46 (by decide +kernel)
theorem dX0_dropClause_50 : decode cX0_dropClause 50 = .ok (.ineg, 1) := dk_116 (by decide +kernel)
theorem dX0_dropClause_51 : decode cX0_dropClause 51 = .ok (.invokevirtual 34, 3) := dk_182 (by decide +kernel)
theorem dX0_dropClause_54 : decode cX0_dropClause 54 = .ok (.iconst 1, 1) := dk_4 (by decide +kernel)
theorem dX0_dropClause_55 : decode cX0_dropClause 55 = .ok (.ireturn, 1) := dk_172 (by decide +kernel)
def wsMX0_dropClause : List Cond := .code yX0_dropClause cX0_dropClause 1 (some .boolean) :: ([.fieldLink RX0 27 "OptimaWorks$ClauseDesk" "clauses" "I", .fieldLink RX0 31 "OptimaWorks$ClauseDesk" "musts" "I", .fieldLink RX0 18 "OptimaWorks$ClauseDesk" "weight" "[I"] ++ wsX00 ++ (wsV RX0 34 RX0 yX0_mark wsMX0_mark))
theorem iwsMX0_dropClause_in0 : ∀ w ∈ wsX00, w ∈ wsMX0_dropClause := fun _ h => List.mem_cons_of_mem _ (List.mem_append_left _ (List.mem_append_right _ h))
theorem gwsMX0_dropClause_0 : GoodIn wsMX0_dropClause (wsV RX0 34 RX0 yX0_mark wsMX0_mark) := goodIn_sub (fun _ h => List.mem_cons_of_mem _ (List.mem_append_right _ h)) (gdV (by decide +kernel) gdwsMX0_mark)
theorem gdwsMX0_dropClause : wsMX0_dropClause.all goodWord = true := gdC rfl (gdA (gdA (by decide +kernel : ([.fieldLink RX0 27 "OptimaWorks$ClauseDesk" "clauses" "I", .fieldLink RX0 31 "OptimaWorks$ClauseDesk" "musts" "I", .fieldLink RX0 18 "OptimaWorks$ClauseDesk" "weight" "[I"] : List Cond).all goodWord = true) gdwsX00) (gdV (by decide +kernel) gdwsMX0_mark))
theorem hm_m_X0_dropClause_0 : (.fieldLink RX0 27 "OptimaWorks$ClauseDesk" "clauses" "I" : Cond) ∈ wsMX0_dropClause := by decide +kernel
theorem hm_m_X0_dropClause_1 : (.fieldLink RX0 31 "OptimaWorks$ClauseDesk" "musts" "I" : Cond) ∈ wsMX0_dropClause := by decide +kernel
set_option maxHeartbeats 4000000 in
set_option maxRecDepth 100000 in
/-- a clause less -/
theorem m_X0_dropClause (l : Launch) (dC : Nat → ClassId) (dI : Nat → Nat → Nat) (hC : Nat → Nat) (aC : Nat → Nat) (kC : Nat → ClassId) (iC_clauses : Int32) (fC_wants : Nat → Int32) (fC_wantsNot : Nat → Int32) (fC_weight : Nat → Int32) (fC_broken : Nat → Int32) (fC_loss : Nat → Int32) (iC_musts : Int32) (b_iC_clauses : 0 ≤ iC_clauses.toInt ∧ iC_clauses.toInt ≤ 24) (hCv : cVal (iC_clauses.toInt, fC_wants, fC_wantsNot, fC_weight)) (hCI : ClI (iC_clauses.toInt, fC_wants, fC_wantsNot, fC_weight) fC_broken fC_loss iC_musts) (sz : Nat) : Met l yX0_dropClause wsMX0_dropClause ({ frames := 1, cells := 0, slots := 0, locals := 23 }) (va_Pc [.ref (hC 0)] (fun U => U.heap.size = sz ∧ va_P (dC, dI) vwCl (WC hC aC kC iC_clauses fC_wants fC_wantsNot fC_weight fC_broken fC_loss iC_musts) U.heap ∧ va_K (dC, dI) vwCl (tC kC) U ∧ va_D (fun _ => True) (WC hC aC kC iC_clauses fC_wants fC_wantsNot fC_weight fC_broken fC_loss iC_musts))) (va_Qi (fun (r : Int32) (u : (Int32) × (Nat → Int32) × (Nat → Int32) × (Int32)) => (0 ≤ (u.1).toInt ∧ (u.1).toInt ≤ 24) ∧ (0 ≤ r.toInt ∧ r.toInt ≤ 1) ∧ ((iC_clauses.toInt = 0 ∧ r.toInt = 0 ∧ (u.1).toInt = 0) ∨ (0 < iC_clauses.toInt ∧ r.toInt = 1 ∧ (u.1).toInt = iC_clauses.toInt - 1)) ∧ (ClI ((u.1).toInt, fC_wants, fC_wantsNot, fC_weight) (u.2.1) (u.2.2.1) (u.2.2.2)) ∧ (cVal ((u.1).toInt, fC_wants, fC_wantsNot, fC_weight))) (fun (u : (Int32) × (Nat → Int32) × (Nat → Int32) × (Int32)) t => va_P (dC, dI) vwCl (WC hC aC kC (u.1) fC_wants fC_wantsNot fC_weight (u.2.1) (u.2.2.1) (u.2.2.2)) t.heap ∧ va_D (va_A (WC hC aC kC iC_clauses fC_wants fC_wantsNot fC_weight fC_broken fC_loss iC_musts) sz) (WC hC aC kC (u.1) fC_wants fC_wantsNot fC_weight (u.2.1) (u.2.2.1) (u.2.2.2))) (va_A (WC hC aC kC iC_clauses fC_wants fC_wantsNot fC_weight fC_broken fC_loss iC_musts) sz)) 0 0 (va_A (WC hC aC kC iC_clauses fC_wants fC_wantsNot fC_weight fC_broken fC_loss iC_musts) sz) := by
  refine Met.ofW (cc := cX0_dropClause) (maxL := 1) (ret := (some .boolean)) (by decide) rfl ?_
  intro p e s m args below meth c s₁ B hml hv
  obtain ⟨rfl, hsz, hP, hK, hD0⟩ := hv
  have hx := B.exec
  have hb := B.bytes
  have hr := B.returns
  have hts := atoms_spec (ws := wsMX0_dropClause) B.pre
  have hown : s.vm.findClass RX0 = some m.cls := findClass_of_methodNamed B.named
  have hlocks := B.notSynchronized
  subst hsz
  have hD := hD0.self (sz := s.heap.size)
  generalize hAe : va_A (WC hC aC kC iC_clauses fC_wants fC_wantsNot fC_weight fC_broken fC_loss iC_musts) s.heap.size = A at hD ⊢
  have hA : ∀ q : Nat, s.heap.size ≤ q → A q := fun q h => by rw [← hAe]; exact Or.inr h
  have hS : va_S A s.heap s.heap [] := va_S.rf
  have hl := lv_entry ([.ref (hC 0)]) (n := 1) (Nat.le_of_ble_eq_true rfl)
  rw [lg_entry_eq]
  generalize (lg_sl ([.ref (hC 0)]) ++ List.replicate (1 - (lg_sl ([.ref (hC 0)])).length) Slot.unset).toArray = ls at hl ⊢
  have hl : lv_has ls 1 [(0, .ref (hC 0))] := hl
  refine lv_aload_n hx hb dX0_dropClause_0 rfl (lv_at hl 0 rfl) ?_
  refine va_get (D := (dC, dI)) (ci := 0) (v := .int iC_clauses) (C := RX0) (T := TX0) (N := 7) hx hb hts iwsMX0_dropClause_in0 hown hK hP 0 rfl rfl 0 (by decide) (hts _ hm_m_X0_dropClause_0) (fun _ h9 => h9) rfl dX0_dropClause_1 ?_
  refine lv_if_ne (tgt := 9) hx hb dX0_dropClause_4 (by decide) (fun c_4 => ?_) (fun c_4 => ?_)
  · have t_4 : iC_clauses.toInt ≠ 0 := toI_ne c_4 rfl (by decide : (0 : Int32).toInt = 0)
    refine lv_aload_n hx hb dX0_dropClause_9 rfl (lv_at hl 0 rfl) ?_
    refine lv_dup hx hb dX0_dropClause_10 rfl ?_
    refine va_get (D := (dC, dI)) (ci := 0) (v := .int iC_clauses) (C := RX0) (T := TX0) (N := 7) hx hb hts iwsMX0_dropClause_in0 hown hK hP 0 rfl rfl 0 (by decide) (hts _ hm_m_X0_dropClause_0) (fun _ h9 => h9) rfl dX0_dropClause_11 ?_
    refine lv_iconst (v := 1) hx hb dX0_dropClause_14 (by decide) ?_
    refine lv_isub hx hb dX0_dropClause_15 ?_
    refine lv_topi (fun y1 hy1 => ?_)
    obtain rfl : (iI (iC_clauses.toInt - 1)) = y1 := (hy1.trans (iI_sub2 (iI_of _) (by decide : (1 : Int32) = iI 1))).symm
    refine va_put (D := (dC, dI)) (ci := 0) (v := .int (iI (iC_clauses.toInt - 1))) (ty := .int) (C := RX0) (T := TX0) (N := 7) hx hb hts iwsMX0_dropClause_in0 tyX0 tyX0_ok nmX0 hown hK hP hD hS 0 rfl rfl 0 (by decide) (hts _ hm_m_X0_dropClause_0) (fun _ h9 => h9) rfl (by decide +kernel) rfl rfl (Nat.le_of_ble_eq_true rfl) dX0_dropClause_16 (fun H locs hP hD hS => ?_)
    have hP : va_P (dC, dI) vwCl (WC hC aC kC (iI (iC_clauses.toInt - 1)) fC_wants fC_wantsNot fC_weight fC_broken fC_loss iC_musts) H := hP
    have hD := fz_sd hP (hD) rfl
    refine lv_aload_n hx hb dX0_dropClause_19 rfl (lv_at hl 0 rfl) ?_
    refine lv_dup hx hb dX0_dropClause_20 rfl ?_
    refine va_get (D := (dC, dI)) (ci := 0) (v := .int iC_musts) (C := RX0) (T := TX0) (N := 7) hx hb hts iwsMX0_dropClause_in0 hown hK hP 0 rfl rfl 6 (by decide) (hts _ hm_m_X0_dropClause_1) (fun _ h9 => h9) rfl dX0_dropClause_21 ?_
    refine lv_iconst (v := 1) hx hb dX0_dropClause_24 (by decide) ?_
    refine lv_aload_n hx hb dX0_dropClause_25 rfl (lv_at hl 0 rfl) ?_
    refine va_get (D := (dC, dI)) (ci := 0) (v := .int (iI (iC_clauses.toInt - 1))) (C := RX0) (T := TX0) (N := 7) hx hb hts iwsMX0_dropClause_in0 hown hK hP 0 rfl rfl 0 (by decide) (hts _ hm_m_X0_dropClause_0) (fun _ h9 => h9) rfl dX0_dropClause_26 ?_
    refine lv_ishl hx hb dX0_dropClause_29 ?_
    refine lv_topi (fun v2 hv2 => ?_)
    have b_v2 : v2 = (1 : Int32) <<< ((iI (iC_clauses.toInt - 1)) &&& 31) := hv2
    clear hv2
    refine lv_iconst (v := (-1)) hx hb dX0_dropClause_30 (by decide) ?_
    refine lv_ixor hx hb dX0_dropClause_31 ?_
    refine lv_topi (fun v3 hv3 => ?_)
    have b_v3 : v3 = v2 ^^^ ((-1) : Int32) := hv3
    clear hv3
    refine lv_iand hx hb dX0_dropClause_32 ?_
    refine lv_topi (fun v4 hv4 => ?_)
    have b_v4 : v4 = iC_musts &&& v3 := hv4
    clear hv4
    refine va_put (D := (dC, dI)) (ci := 0) (v := .int v4) (ty := .int) (C := RX0) (T := TX0) (N := 7) hx hb hts iwsMX0_dropClause_in0 tyX0 tyX0_ok nmX0 hown hK hP hD hS 0 rfl rfl 6 (by decide) (hts _ hm_m_X0_dropClause_1) (fun _ h9 => h9) rfl (by decide +kernel) rfl rfl (Nat.le_of_ble_eq_true rfl) dX0_dropClause_33 (fun H locs hP hD hS => ?_)
    have hP : va_P (dC, dI) vwCl (WC hC aC kC (iI (iC_clauses.toInt - 1)) fC_wants fC_wantsNot fC_weight fC_broken fC_loss v4) H := hP
    have hD := fz_sd hP (hD) rfl
    refine lv_aload_n hx hb dX0_dropClause_36 rfl (lv_at hl 0 rfl) ?_
    refine lv_aload_n hx hb dX0_dropClause_37 rfl (lv_at hl 0 rfl) ?_
    refine va_get (D := (dC, dI)) (ci := 0) (v := .int (iI (iC_clauses.toInt - 1))) (C := RX0) (T := TX0) (N := 7) hx hb hts iwsMX0_dropClause_in0 hown hK hP 0 rfl rfl 0 (by decide) (hts _ hm_m_X0_dropClause_0) (fun _ h9 => h9) rfl dX0_dropClause_38 ?_
    refine lv_aload_n hx hb dX0_dropClause_41 rfl (lv_at hl 0 rfl) ?_
    refine va_get (D := (dC, dI)) (ci := 0) (v := .ref (aC 2)) (C := RX0) (T := TX0) (N := 7) hx hb hts iwsMX0_dropClause_in0 hown hK hP 0 rfl rfl 3 (by decide) (hts (.fieldLink RX0 18 "OptimaWorks$ClauseDesk" "weight" "[I") (by decide +kernel)) (fun _ h9 => h9) rfl dX0_dropClause_42 ?_
    refine lv_aload_n hx hb dX0_dropClause_45 rfl (lv_at hl 0 rfl) ?_
    refine va_get (D := (dC, dI)) (ci := 0) (v := .int (iI (iC_clauses.toInt - 1))) (C := RX0) (T := TX0) (N := 7) hx hb hts iwsMX0_dropClause_in0 hown hK hP 0 rfl rfl 0 (by decide) (hts _ hm_m_X0_dropClause_0) (fun _ h9 => h9) rfl dX0_dropClause_46 ?_
    refine va_iald (cA := kC 2) (n := 24) (f := fC_weight) hx hb hK hP 3 2 rfl rfl (vp_iI (by omega) (Int.lt_of_le_of_lt (Int.sub_le_sub (b_iC_clauses.2) (Int.le_refl _)) (by decide)) (by decide)) dX0_dropClause_49 ?_
    refine lv_topi (fun v5 hv5 => ?_)
    have b_v5 : v5 = fC_weight ((iI (iC_clauses.toInt - 1))).toNatClampNeg := hv5
    clear hv5
    refine lv_ineg hx hb dX0_dropClause_50 ?_
    refine lv_topi (fun y6 hy6 => ?_)
    obtain rfl : (iI (-v5.toInt)) = y6 := (hy6.trans (iI_neg2 (iI_of _))).symm
    have hFc := allFree hD hS hA
    refine va_callv (va_runV (As := [.int (iI (iC_clauses.toInt - 1)), .int (iI (-v5.toInt))]) (rest := []) ⟨hx, hb, hml, hown, hts⟩ (m_X0_mark l dC dI hC aC kC (iI (iC_clauses.toInt - 1)) fC_wants fC_wantsNot fC_weight fC_broken fC_loss v4 (iI (iC_clauses.toInt - 1)) (iI (-v5.toInt)) (iI_rng (by omega) (Int.le_trans (Int.sub_le_sub (b_iC_clauses.2) (Int.le_refl _)) (by decide)) (by decide) (by decide)) (iI_rng (by omega) (Int.le_trans (Int.sub_le_sub (b_iC_clauses.2) (Int.le_refl _)) (by decide)) (by decide) (by decide)) H.size) (cwV 2 hts gwsMX0_dropClause_0 rfl rfl rfl hd_yX0_mark_RX0 (by decide +kernel)) (fz_pre (va_recv hK hP (ci := 0) (q0 := 0) rfl rfl) hP hK hD) rfl rfl hl.1 rfl (lv_room (Nat.le_of_ble_eq_true rfl)) dX0_dropClause_51 (by decide +kernel)) hS (fun q _ h => hFc q h) hFc (fun u t9_ H locs ht hvm hw9 hB9 hz1 hk1 hS => ?_)
    revert u hw9 hB9
    refine fz_p2 ?_
    intro fC_broken_7 fC_loss_7 hw9 hB9
    try dsimp only at hw9 hB9
    have f7_0 := hw9
    try dsimp only at f7_0
    have hP : va_P (dC, dI) vwCl (WC hC aC kC (iI (iC_clauses.toInt - 1)) fC_wants fC_wantsNot fC_weight fC_broken_7 fC_loss_7 v4) H := fz_P ht hB9.1
    have hD := fz_sd hP (hB9.2.weaken (fun _ q _ h => hFc q.1 h)) rfl
    have hmk9 := f7_0
    refine lv_iconst (v := 1) hx hb dX0_dropClause_54 (by decide) ?_
    refine W.widen (k := 0) (n := 0) (by decide +kernel) (by decide +kernel) ?_
    exact W.zret (v := 1) hx hb hr rfl (fun t9_ ht hW => ⟨⟨(1 : Int32), ((iI (iC_clauses.toInt - 1)), fC_broken_7, fC_loss_7, v4), rfl, ⟨(by (try dsimp only); exact (iI_rng (by omega) (Int.le_trans (Int.sub_le_sub (b_iC_clauses.2) (Int.le_refl _)) (by decide)) (by decide) (by decide))), (show 0 ≤ (1 : Int32).toInt ∧ (1 : Int32).toInt ≤ 1 from by decide), (by (try dsimp only); first | exact Or.inl ⟨by omega, by decide, by omega⟩ | exact Or.inr ⟨by omega, by decide, by first | (rw [iI_t (by omega) (by omega)] <;> omega) | omega⟩), (by (try dsimp only); have e1 := (show (iI (iC_clauses.toInt - 1)).toInt = iC_clauses.toInt - 1 from iI_t (by omega) (by omega)); have h9 := hmk9; rw [e1] at h9 ⊢; have e5 : v5 = fC_weight (iC_clauses.toInt - 1).toNat := (show v5 = fC_weight (iI (iC_clauses.toInt - 1)).toInt.toNat from b_v5).trans (by rw [e1]); have hw5 := hCv.2.2 (iC_clauses.toInt - 1).toNat (by (try dsimp only); omega); (try dsimp only at hw5); rw [← e5] at hw5; exact ClI.drop (d := (iC_clauses.toInt, fC_wants, fC_wantsNot, fC_weight)) (i := (iI (iC_clauses.toInt - 1))) (w := iI (-v5.toInt)) hCv (by (try dsimp only); omega) hCI h9 e1 (by rw [iI_t (by omega) (by omega)]; (try dsimp only); rw [← e5]) (by rw [b_v4, b_v3, b_v2])), (by (try dsimp only); exact cVal.less hCv (by rw [iI_t (by omega) (by omega)]; omega) (by rw [iI_t (by omega) (by omega)]; omega))⟩, by rw [ht]; exact hP, hD⟩, hS.F ht⟩) hS.2.2 dX0_dropClause_55
  · have t_4 : iC_clauses.toInt = 0 := toI_nne c_4 rfl (by decide : (0 : Int32).toInt = 0)
    refine lv_iconst (v := 0) hx hb dX0_dropClause_7 (by decide) ?_
    refine W.widen (k := 0) (n := 0) (by decide +kernel) (by decide +kernel) ?_
    exact W.zret (v := 0) hx hb hr rfl (fun t9_ ht hW => ⟨⟨(0 : Int32), (iC_clauses, fC_broken, fC_loss, iC_musts), rfl, ⟨b_iC_clauses, (show 0 ≤ (0 : Int32).toInt ∧ (0 : Int32).toInt ≤ 1 from by decide), (by (try dsimp only); first | exact Or.inl ⟨by omega, by decide, by omega⟩ | exact Or.inr ⟨by omega, by decide, by first | (rw [iI_t (by omega) (by omega)] <;> omega) | omega⟩), (by (try dsimp only); exact hCI), (by (try dsimp only); exact hCv)⟩, by rw [ht]; exact hP, hD⟩, hS.F ht⟩) hS.2.2 dX0_dropClause_8
theorem dX0_least_0 : decode cX0_least 0 = .ok (.iconst (-1), 1) := dk_2 (by decide +kernel)
theorem dX0_least_1 : decode cX0_least 1 = .ok (.istore_n 2, 1) := dk_61 (by decide +kernel)
theorem dX0_least_2 : decode cX0_least 2 = .ok (.iconst 0, 1) := dk_3 (by decide +kernel)
theorem dX0_least_3 : decode cX0_least 3 = .ok (.istore_n 3, 1) := dk_62 (by decide +kernel)
theorem dX0_least_4 : decode cX0_least 4 = .ok (.iload_n 3, 1) := dk_29 (by decide +kernel)
theorem dX0_least_5 : decode cX0_least 5 = .ok (.sipush 4096, 3) := dk_17 (by decide +kernel)
theorem dX0_least_8 : decode cX0_least 8 = .ok (.if_icmp .ge 45, 3) := dk_162 (by decide +kernel)
theorem dX0_least_11 : decode cX0_least 11 = .ok (.aload_n 0, 1) := dk_42 (by decide +kernel)
theorem dX0_least_12 : decode cX0_least 12 = .ok (.getfield 21, 3) := dk_180 (by decide +kernel)
theorem dX0_least_15 : decode cX0_least 15 = .ok (.iload_n 3, 1) := dk_29 (by decide +kernel)
theorem dX0_least_16 : decode cX0_least 16 = .ok (.iaload, 1) := dk_46 (by decide +kernel)
theorem dX0_least_17 : decode cX0_least 17 = .ok (.aload_n 0, 1) := dk_42 (by decide +kernel)
theorem dX0_least_18 : decode cX0_least 18 = .ok (.getfield 31, 3) := dk_180 (by decide +kernel)
theorem dX0_least_21 : decode cX0_least 21 = .ok (.iand, 1) := dk_126 (by decide +kernel)
theorem dX0_least_22 : decode cX0_least 22 = .ok (.ifCond .ne 25, 3) := dk_154 (by decide +kernel)
theorem dX0_least_25 : decode cX0_least 25 = .ok (.iload_n 2, 1) := dk_28 (by decide +kernel)
theorem dX0_least_26 : decode cX0_least 26 = .ok (.iconst (-1), 1) := dk_2 (by decide +kernel)
theorem dX0_least_27 : decode cX0_least 27 = .ok (.if_icmp .eq 18, 3) := dk_159 (by decide +kernel)
theorem dX0_least_30 : decode cX0_least 30 = .ok (.aload_n 0, 1) := dk_42 (by decide +kernel)
theorem dX0_least_31 : decode cX0_least 31 = .ok (.getfield 24, 3) := dk_180 (by decide +kernel)
theorem dX0_least_34 : decode cX0_least 34 = .ok (.iload_n 3, 1) := dk_29 (by decide +kernel)
theorem dX0_least_35 : decode cX0_least 35 = .ok (.iaload, 1) := dk_46 (by decide +kernel)
theorem dX0_least_36 : decode cX0_least 36 = .ok (.aload_n 0, 1) := dk_42 (by decide +kernel)
theorem dX0_least_37 : decode cX0_least 37 = .ok (.getfield 24, 3) := dk_180 (by decide +kernel)
theorem dX0_least_40 : decode cX0_least 40 = .ok (.iload_n 2, 1) := dk_28 (by decide +kernel)
theorem dX0_least_41 : decode cX0_least 41 = .ok (.iaload, 1) := dk_46 (by decide +kernel)
theorem dX0_least_42 : decode cX0_least 42 = .ok (.if_icmp .ge 5, 3) := dk_162 (by decide +kernel)
theorem dX0_least_45 : decode cX0_least 45 = .ok (.iload_n 3, 1) := dk_29 (by decide +kernel)
theorem dX0_least_46 : decode cX0_least 46 = .ok (.istore_n 2, 1) := dk_61 (by decide +kernel)
theorem dX0_least_47 : decode cX0_least 47 = .ok (.iinc 3 1, 3) := dk_132 (by decide +kernel)
theorem dX0_least_50 : decode cX0_least 50 = .ok (.goto (-46), 3) := dk_167 (by decide +kernel)
theorem dX0_least_53 : decode cX0_least 53 = .ok (.iload_n 2, 1) := dk_28 (by decide +kernel)
theorem dX0_least_54 : decode cX0_least 54 = .ok (.iconst (-1), 1) := dk_2 (by decide +kernel)
theorem dX0_least_55 : decode cX0_least 55 = .ok (.if_icmp .eq 7, 3) := dk_159 (by decide +kernel)
theorem dX0_least_58 : decode cX0_least 58 = .ok (.iload_n 1, 1) := dk_27 (by decide +kernel)
theorem dX0_least_59 : decode cX0_least 59 = .ok (.ifCond .ne 7, 3) := dk_154 (by decide +kernel)
theorem dX0_least_62 : decode cX0_least 62 = .ok (.iload_n 2, 1) := dk_28 (by decide +kernel)
theorem dX0_least_63 : decode cX0_least 63 = .ok (.goto 9, 3) := dk_167 (by decide +kernel)
theorem dX0_least_66 : decode cX0_least 66 = .ok (.aload_n 0, 1) := dk_42 (by decide +kernel)
theorem dX0_least_67 : decode cX0_least 67 = .ok (.getfield 24, 3) := dk_180 (by decide +kernel)
theorem dX0_least_70 : decode cX0_least 70 = .ok (.iload_n 2, 1) := dk_28 (by decide +kernel)
theorem dX0_least_71 : decode cX0_least 71 = .ok (.iaload, 1) := dk_46 (by decide +kernel)
theorem dX0_least_72 : decode cX0_least 72 = .ok (.ireturn, 1) := dk_172 (by decide +kernel)
def wsMX0_least : List Cond := .code yX0_least cX0_least 4 (some .int) :: ([.fieldLink RX0 21 "OptimaWorks$ClauseDesk" "broken" "[I", .fieldLink RX0 31 "OptimaWorks$ClauseDesk" "musts" "I", .fieldLink RX0 24 "OptimaWorks$ClauseDesk" "loss" "[I"] ++ wsX00)
theorem iwsMX0_least_in0 : ∀ w ∈ wsX00, w ∈ wsMX0_least := fun _ h => List.mem_cons_of_mem _ (List.mem_append_right _ h)
theorem gdwsMX0_least : wsMX0_least.all goodWord = true := gdC rfl (gdA (by decide +kernel : ([.fieldLink RX0 21 "OptimaWorks$ClauseDesk" "broken" "[I", .fieldLink RX0 31 "OptimaWorks$ClauseDesk" "musts" "I", .fieldLink RX0 24 "OptimaWorks$ClauseDesk" "loss" "[I"] : List Cond).all goodWord = true) gdwsX00)
theorem hm_m_X0_least_0 : (.fieldLink RX0 24 "OptimaWorks$ClauseDesk" "loss" "[I" : Cond) ∈ wsMX0_least := by decide +kernel
set_option maxHeartbeats 4000000 in
set_option maxRecDepth 100000 in
/-- the least loss -/
theorem m_X0_least (l : Launch) (dC : Nat → ClassId) (dI : Nat → Nat → Nat) (hC : Nat → Nat) (aC : Nat → Nat) (kC : Nat → ClassId) (iC_clauses : Int32) (fC_wants : Nat → Int32) (fC_wantsNot : Nat → Int32) (fC_weight : Nat → Int32) (fC_broken : Nat → Int32) (fC_loss : Nat → Int32) (iC_musts : Int32) (p1 : Int32) (b_iC_clauses : 0 ≤ iC_clauses.toInt ∧ iC_clauses.toInt ≤ 24) (hCv : cVal (iC_clauses.toInt, fC_wants, fC_wantsNot, fC_weight)) (hCI : ClI (iC_clauses.toInt, fC_wants, fC_wantsNot, fC_weight) fC_broken fC_loss iC_musts) (sz : Nat) : Met l yX0_least wsMX0_least ({ frames := 0, cells := 0, slots := 0, locals := 0 }) (va_Pc [.ref (hC 0), .int p1] (fun U => U.heap.size = sz ∧ va_P (dC, dI) vwCl (WC hC aC kC iC_clauses fC_wants fC_wantsNot fC_weight fC_broken fC_loss iC_musts) U.heap ∧ va_K (dC, dI) vwCl (tC kC) U ∧ va_D (fun _ => True) (WC hC aC kC iC_clauses fC_wants fC_wantsNot fC_weight fC_broken fC_loss iC_musts))) (va_Qi (fun (r : Int32) (u : Unit) => ((p1.toInt = 0 → ∃ b, cBest (iC_clauses.toInt, fC_wants, fC_wantsNot, fC_weight) 4096 b r.toInt) ∧ (p1.toInt ≠ 0 → ∃ c, cBest (iC_clauses.toInt, fC_wants, fC_wantsNot, fC_weight) 4096 r.toInt c))) (fun (u : Unit) t => va_P (dC, dI) vwCl (WC hC aC kC iC_clauses fC_wants fC_wantsNot fC_weight fC_broken fC_loss iC_musts) t.heap ∧ va_D (va_A (WC hC aC kC iC_clauses fC_wants fC_wantsNot fC_weight fC_broken fC_loss iC_musts) sz) (WC hC aC kC iC_clauses fC_wants fC_wantsNot fC_weight fC_broken fC_loss iC_musts)) (va_A (WC hC aC kC iC_clauses fC_wants fC_wantsNot fC_weight fC_broken fC_loss iC_musts) sz)) 0 0 (va_A (WC hC aC kC iC_clauses fC_wants fC_wantsNot fC_weight fC_broken fC_loss iC_musts) sz) := by
  refine Met.ofW (cc := cX0_least) (maxL := 4) (ret := (some .int)) (by decide) rfl ?_
  intro p e s m args below meth c s₁ B hml hv
  obtain ⟨rfl, hsz, hP, hK, hD0⟩ := hv
  have hx := B.exec
  have hb := B.bytes
  have hr := B.returns
  have hts := atoms_spec (ws := wsMX0_least) B.pre
  have hown : s.vm.findClass RX0 = some m.cls := findClass_of_methodNamed B.named
  have hlocks := B.notSynchronized
  subst hsz
  have hD := hD0.self (sz := s.heap.size)
  generalize hAe : va_A (WC hC aC kC iC_clauses fC_wants fC_wantsNot fC_weight fC_broken fC_loss iC_musts) s.heap.size = A at hD ⊢
  have hA : ∀ q : Nat, s.heap.size ≤ q → A q := fun q h => by rw [← hAe]; exact Or.inr h
  have hS : va_S A s.heap s.heap [] := va_S.rf
  have hl := lv_entry ([.ref (hC 0), .int p1]) (n := 4) (Nat.le_of_ble_eq_true rfl)
  rw [lg_entry_eq]
  generalize (lg_sl ([.ref (hC 0), .int p1]) ++ List.replicate (4 - (lg_sl ([.ref (hC 0), .int p1])).length) Slot.unset).toArray = ls at hl ⊢
  have hl : lv_has ls 4 [(0, .ref (hC 0)), (1, .int p1)] := hl
  refine lv_iconst (v := (-1)) hx hb dX0_least_0 (by decide) ?_
  refine lv_istore_n hx hb dX0_least_1 rfl hl (by decide) rfl (fun ls (hl : lv_has ls _ ([(2, .int (-1)), (0, .ref (hC 0)), (1, .int p1)])) => ?_)
  refine lv_iconst (v := 0) hx hb dX0_least_2 (by decide) ?_
  refine lv_istore_n hx hb dX0_least_3 rfl hl (by decide) rfl (fun ls (hl : lv_has ls _ ([(3, .int 0), (2, .int (-1)), (0, .ref (hC 0)), (1, .int p1)])) => ?_)
  have hl : lv_has _ _ ([(3, .int 0), (2, .int (-1)), (0, .ref (hC 0)), (1, .int p1)]) := lv_sub hl [0, 1, 2, 3] rfl
  refine (fun (loop : ∀ (n9 : Nat) (l3_x4 : Int32) (l2_x4 : Int32) (H : Heap) (locs : List Loc) (ls : Array Slot), (0 ≤ l3_x4.toInt ∧ l3_x4.toInt ≤ 4096) → ((-1) ≤ l2_x4.toInt ∧ l2_x4.toInt ≤ 4095) → (∃ b, cBest (iC_clauses.toInt, fC_wants, fC_wantsNot, fC_weight) l3_x4.toInt.toNat b l2_x4.toInt) → (4096 - l3_x4.toInt < ((n9 : Nat) : Int)) → va_P (dC, dI) vwCl (WC hC aC kC iC_clauses fC_wants fC_wantsNot fC_weight fC_broken fC_loss iC_musts) H → va_D A (WC hC aC kC iC_clauses fC_wants fC_wantsNot fC_weight fC_broken fC_loss iC_musts) → va_S A s.heap H locs → lv_has ls 4 [(3, .int l3_x4), (2, .int l2_x4), (0, .ref (hC 0)), (1, .int p1)] → W p l e _ s m _ below meth c H locs 0 0 _ (F0 m 4 ls [])) => loop (4097) 0 (-1) _ _ _ (show 0 ≤ (0 : Int32).toInt ∧ (0 : Int32).toInt ≤ 4096 from by decide) (show (-1) ≤ ((-1) : Int32).toInt ∧ ((-1) : Int32).toInt ≤ 4095 from by decide) (show ∃ b, cBest (iC_clauses.toInt, fC_wants, fC_wantsNot, fC_weight) (0 : Int32).toInt.toNat b ((-1) : Int32).toInt from by rw [show (0 : Int32).toInt.toNat = 0 from by decide]; exact ⟨-1, cBest.start rfl (by decide)⟩) ((by have e9 : (0 : Int32).toInt = 0 := (by decide : (0 : Int32).toInt = 0); omega)) hP hD hS hl) ?_
  intro n9
  induction n9 with
  | zero => intro l3_x4 l2_x4 H locs ls b_l3_x4 b_l2_x4 hB hf9; exact False.elim (by omega)
  | succ n9 ihx4 =>
    intro l3_x4 l2_x4 H locs ls b_l3_x4 b_l2_x4 hB hfx4 hP hD hS hl
    refine lv_iload_n hx hb dX0_least_4 rfl (lv_at hl 0 rfl) ?_
    refine lv_sipush (v := 4096) hx hb dX0_least_5 (by decide) ?_
    refine lv_icmp_ge (tgt := 53) hx hb dX0_least_8 (by decide) (fun c_8 => ?_) (fun c_8 => ?_)
    · have t_8 : l3_x4.toInt ≥ 4096 := toI_ge c_8 rfl (by decide : (4096 : Int32).toInt = 4096)
      refine lv_iload_n hx hb dX0_least_53 rfl (lv_at hl 1 rfl) ?_
      refine lv_iconst (v := (-1)) hx hb dX0_least_54 (by decide) ?_
      refine lv_icmp_eq (tgt := 62) hx hb dX0_least_55 (by decide) (fun c_55 => ?_) (fun c_55 => ?_)
      · have t_55 : l2_x4.toInt = (-1) := toI_eq c_55 rfl (by decide : ((-1) : Int32).toInt = (-1))
        refine lv_iload_n hx hb dX0_least_62 rfl (lv_at hl 1 rfl) ?_
        refine lv_goto (tgt := 72) hx hb dX0_least_63 (by decide) ?_
        refine W.widen (k := 0) (n := 0) (by decide +kernel) (by decide +kernel) ?_
        exact W.iret (v := l2_x4) hx hb hr (fun t9_ ht hW => ⟨⟨l2_x4, (), rfl, (by (try dsimp only); have hB4 : ∃ b, cBest (iC_clauses.toInt, fC_wants, fC_wantsNot, fC_weight) 4096 b l2_x4.toInt := (by rw [show 4096 = l3_x4.toInt.toNat from by omega]; exact hB); first | exact ⟨fun _ => hB4, fun _ => by rw [show l2_x4.toInt = -1 from t_55]; exact cBest.nob hB4 t_55⟩ | exact ⟨fun _ => hB4, fun h9 => absurd t_59 h9⟩ | exact ⟨fun h9 => absurd h9 t_59, fun _ => ClI.lost hCI hB4 t_55 b_v9⟩), by rw [ht]; exact hP, hD⟩, hS.F ht⟩) hS.2.2 dX0_least_72
      · have t_55 : ¬ l2_x4.toInt = (-1) := toI_neq c_55 rfl (by decide : ((-1) : Int32).toInt = (-1))
        refine lv_iload_n hx hb dX0_least_58 rfl (lv_at hl 3 rfl) ?_
        refine lv_if_ne (tgt := 66) hx hb dX0_least_59 (by decide) (fun c_59 => ?_) (fun c_59 => ?_)
        · have t_59 : p1.toInt ≠ 0 := toI_ne c_59 rfl (by decide : (0 : Int32).toInt = 0)
          refine lv_aload_n hx hb dX0_least_66 rfl (lv_at hl 2 rfl) ?_
          refine va_get (D := (dC, dI)) (ci := 0) (v := .ref (aC 4)) (C := RX0) (T := TX0) (N := 7) hx hb hts iwsMX0_least_in0 hown hK hP 0 rfl rfl 5 (by decide) (hts _ hm_m_X0_least_0) (fun _ h9 => h9) rfl dX0_least_67 ?_
          refine lv_iload_n hx hb dX0_least_70 rfl (lv_at hl 1 rfl) ?_
          refine va_iald (cA := kC 4) (n := 4096) (f := fC_loss) hx hb hK hP 5 4 rfl rfl (vp_in_iff.mpr ⟨(by omega), (Int.lt_of_le_of_lt (b_l2_x4.2) (by decide))⟩) dX0_least_71 ?_
          refine lv_topi (fun v22 hv22 => ?_)
          have b_v22 : v22 = fC_loss (l2_x4).toNatClampNeg := hv22
          clear hv22
          refine W.widen (k := 0) (n := 0) (by decide +kernel) (by decide +kernel) ?_
          exact W.iret (v := v22) hx hb hr (fun t9_ ht hW => ⟨⟨v22, (), rfl, (by (try dsimp only); have hB4 : ∃ b, cBest (iC_clauses.toInt, fC_wants, fC_wantsNot, fC_weight) 4096 b l2_x4.toInt := (by rw [show 4096 = l3_x4.toInt.toNat from by omega]; exact hB); first | exact ⟨fun _ => hB4, fun _ => by rw [show l2_x4.toInt = -1 from t_55]; exact cBest.nob hB4 t_55⟩ | exact ⟨fun _ => hB4, fun h9 => absurd t_59 h9⟩ | exact ⟨fun h9 => absurd h9 t_59, fun _ => ClI.lost hCI hB4 t_55 b_v22⟩), by rw [ht]; exact hP, hD⟩, hS.F ht⟩) hS.2.2 dX0_least_72
        · have t_59 : p1.toInt = 0 := toI_nne c_59 rfl (by decide : (0 : Int32).toInt = 0)
          refine lv_iload_n hx hb dX0_least_62 rfl (lv_at hl 1 rfl) ?_
          refine lv_goto (tgt := 72) hx hb dX0_least_63 (by decide) ?_
          refine W.widen (k := 0) (n := 0) (by decide +kernel) (by decide +kernel) ?_
          exact W.iret (v := l2_x4) hx hb hr (fun t9_ ht hW => ⟨⟨l2_x4, (), rfl, (by (try dsimp only); have hB4 : ∃ b, cBest (iC_clauses.toInt, fC_wants, fC_wantsNot, fC_weight) 4096 b l2_x4.toInt := (by rw [show 4096 = l3_x4.toInt.toNat from by omega]; exact hB); first | exact ⟨fun _ => hB4, fun _ => by rw [show l2_x4.toInt = -1 from t_55]; exact cBest.nob hB4 t_55⟩ | exact ⟨fun _ => hB4, fun h9 => absurd t_59 h9⟩ | exact ⟨fun h9 => absurd h9 t_59, fun _ => ClI.lost hCI hB4 t_55 b_v22⟩), by rw [ht]; exact hP, hD⟩, hS.F ht⟩) hS.2.2 dX0_least_72
    · have t_8 : ¬ l3_x4.toInt ≥ 4096 := toI_nge c_8 rfl (by decide : (4096 : Int32).toInt = 4096)
      refine lv_aload_n hx hb dX0_least_11 rfl (lv_at hl 2 rfl) ?_
      refine va_get (D := (dC, dI)) (ci := 0) (v := .ref (aC 3)) (C := RX0) (T := TX0) (N := 7) hx hb hts iwsMX0_least_in0 hown hK hP 0 rfl rfl 4 (by decide) (hts (.fieldLink RX0 21 "OptimaWorks$ClauseDesk" "broken" "[I") (by decide +kernel)) (fun _ h9 => h9) rfl dX0_least_12 ?_
      refine lv_iload_n hx hb dX0_least_15 rfl (lv_at hl 0 rfl) ?_
      refine va_iald (cA := kC 3) (n := 4096) (f := fC_broken) hx hb hK hP 4 3 rfl rfl (vp_in_iff.mpr ⟨b_l3_x4.1, (Int.lt_of_lt_of_le (Int.not_le.mp t_8) (by decide))⟩) dX0_least_16 ?_
      refine lv_topi (fun v23 hv23 => ?_)
      have b_v23 : v23 = fC_broken (l3_x4).toNatClampNeg := hv23
      clear hv23
      refine lv_aload_n hx hb dX0_least_17 rfl (lv_at hl 2 rfl) ?_
      refine va_get (D := (dC, dI)) (ci := 0) (v := .int iC_musts) (C := RX0) (T := TX0) (N := 7) hx hb hts iwsMX0_least_in0 hown hK hP 0 rfl rfl 6 (by decide) (hts (.fieldLink RX0 31 "OptimaWorks$ClauseDesk" "musts" "I") (by decide +kernel)) (fun _ h9 => h9) rfl dX0_least_18 ?_
      refine lv_iand hx hb dX0_least_21 ?_
      refine lv_topi (fun v24 hv24 => ?_)
      have b_v24 : v24 = v23 &&& iC_musts := hv24
      clear hv24
      refine W.cut (pc := 47) (fun H locs ls stk => ∃ (l2_j10 : Int32), ((-1) ≤ l2_j10.toInt ∧ l2_j10.toInt ≤ 4095) ∧ (∃ b, cBest (iC_clauses.toInt, fC_wants, fC_wantsNot, fC_weight) (l3_x4.toInt.toNat + 1) b l2_j10.toInt) ∧  stk = [] ∧ va_P (dC, dI) vwCl (WC hC aC kC iC_clauses fC_wants fC_wantsNot fC_weight fC_broken fC_loss iC_musts) H ∧ va_D A (WC hC aC kC iC_clauses fC_wants fC_wantsNot fC_weight fC_broken fC_loss iC_musts) ∧ va_S A s.heap H locs ∧ lv_has ls 4 [(3, .int l3_x4), (2, .int l2_j10), (0, .ref (hC 0)), (1, .int p1)]) (fun join10 => ?_) ?_
      · refine lv_if_ne (tgt := 47) hx hb dX0_least_22 (by decide) (fun c_22 => ?_) (fun c_22 => ?_)
        · have t_22 : v24.toInt ≠ 0 := toI_ne c_22 rfl (by decide : (0 : Int32).toInt = 0)
          have hl : lv_has _ _ ([(3, .int l3_x4), (2, .int l2_x4), (0, .ref (hC 0)), (1, .int p1)]) := lv_sub hl [0, 1, 2, 3] rfl
          exact join10 _ _ _ _ ⟨l2_x4, (b_l2_x4), (show ∃ b, cBest (iC_clauses.toInt, fC_wants, fC_wantsNot, fC_weight) (l3_x4.toInt.toNat + 1) b l2_x4.toInt from by first | (exact ClI.lno hCv hCI hB (by omega) (by rw [b_v24, b_v23] <;> rfl) t_22) | (exact ClI.lnew hCv hCI hB (by omega) (by rw [b_v24, b_v23] <;> rfl) t_22 t_27 (by omega)) | (exact ClI.lless hCv hCI hB (by omega) (by rw [b_v24, b_v23] <;> rfl) t_22 t_27 b_v25 b_v26 (by omega) (by omega)) | (exact ClI.lkeep hCI hB (by omega) t_27 b_v25 b_v26 (by omega))), rfl, hP, hD, hS, hl⟩
        · have t_22 : v24.toInt = 0 := toI_nne c_22 rfl (by decide : (0 : Int32).toInt = 0)
          refine lv_iload_n hx hb dX0_least_25 rfl (lv_at hl 1 rfl) ?_
          refine lv_iconst (v := (-1)) hx hb dX0_least_26 (by decide) ?_
          refine lv_icmp_eq (tgt := 45) hx hb dX0_least_27 (by decide) (fun c_27 => ?_) (fun c_27 => ?_)
          · have t_27 : l2_x4.toInt = (-1) := toI_eq c_27 rfl (by decide : ((-1) : Int32).toInt = (-1))
            refine lv_iload_n hx hb dX0_least_45 rfl (lv_at hl 0 rfl) ?_
            refine lv_istore_n hx hb dX0_least_46 rfl hl (by decide) rfl (fun ls (hl : lv_has ls _ ([(2, .int l3_x4), (3, .int l3_x4), (0, .ref (hC 0)), (1, .int p1)])) => ?_)
            have hl : lv_has _ _ ([(3, .int l3_x4), (2, .int l3_x4), (0, .ref (hC 0)), (1, .int p1)]) := lv_sub hl [1, 0, 2, 3] rfl
            exact join10 _ _ _ _ ⟨l3_x4, (by first | exact b_l3_x4 | with_reducible assumption | exact ⟨by omega, by omega⟩ | assumption), (show ∃ b, cBest (iC_clauses.toInt, fC_wants, fC_wantsNot, fC_weight) (l3_x4.toInt.toNat + 1) b l3_x4.toInt from by first | (exact ClI.lno hCv hCI hB (by omega) (by rw [b_v24, b_v23] <;> rfl) t_22) | (exact ClI.lnew hCv hCI hB (by omega) (by rw [b_v24, b_v23] <;> rfl) t_22 t_27 (by omega)) | (exact ClI.lless hCv hCI hB (by omega) (by rw [b_v24, b_v23] <;> rfl) t_22 t_27 b_v25 b_v26 (by omega) (by omega)) | (exact ClI.lkeep hCI hB (by omega) t_27 b_v25 b_v26 (by omega))), rfl, hP, hD, hS, hl⟩
          · have t_27 : ¬ l2_x4.toInt = (-1) := toI_neq c_27 rfl (by decide : ((-1) : Int32).toInt = (-1))
            refine lv_aload_n hx hb dX0_least_30 rfl (lv_at hl 2 rfl) ?_
            refine va_get (D := (dC, dI)) (ci := 0) (v := .ref (aC 4)) (C := RX0) (T := TX0) (N := 7) hx hb hts iwsMX0_least_in0 hown hK hP 0 rfl rfl 5 (by decide) (hts _ hm_m_X0_least_0) (fun _ h9 => h9) rfl dX0_least_31 ?_
            refine lv_iload_n hx hb dX0_least_34 rfl (lv_at hl 0 rfl) ?_
            refine va_iald (cA := kC 4) (n := 4096) (f := fC_loss) hx hb hK hP 5 4 rfl rfl (vp_in_iff.mpr ⟨b_l3_x4.1, (by omega)⟩) dX0_least_35 ?_
            refine lv_topi (fun v27 hv27 => ?_)
            have b_v27 : v27 = fC_loss (l3_x4).toNatClampNeg := hv27
            clear hv27
            refine lv_aload_n hx hb dX0_least_36 rfl (lv_at hl 2 rfl) ?_
            refine va_get (D := (dC, dI)) (ci := 0) (v := .ref (aC 4)) (C := RX0) (T := TX0) (N := 7) hx hb hts iwsMX0_least_in0 hown hK hP 0 rfl rfl 5 (by decide) (hts _ hm_m_X0_least_0) (fun _ h9 => h9) rfl dX0_least_37 ?_
            refine lv_iload_n hx hb dX0_least_40 rfl (lv_at hl 1 rfl) ?_
            refine va_iald (cA := kC 4) (n := 4096) (f := fC_loss) hx hb hK hP 5 4 rfl rfl (vp_in_iff.mpr ⟨(by omega), (Int.lt_of_le_of_lt (b_l2_x4.2) (by decide))⟩) dX0_least_41 ?_
            refine lv_topi (fun v28 hv28 => ?_)
            have b_v28 : v28 = fC_loss (l2_x4).toNatClampNeg := hv28
            clear hv28
            refine lv_icmp_ge (tgt := 47) hx hb dX0_least_42 (by decide) (fun c_42 => ?_) (fun c_42 => ?_)
            · have t_42 : v27.toInt ≥ v28.toInt := toI_ge c_42 rfl rfl
              have hl : lv_has _ _ ([(3, .int l3_x4), (2, .int l2_x4), (0, .ref (hC 0)), (1, .int p1)]) := lv_sub hl [0, 1, 2, 3] rfl
              exact join10 _ _ _ _ ⟨l2_x4, (b_l2_x4), (show ∃ b, cBest (iC_clauses.toInt, fC_wants, fC_wantsNot, fC_weight) (l3_x4.toInt.toNat + 1) b l2_x4.toInt from by first | (exact ClI.lno hCv hCI hB (by omega) (by rw [b_v24, b_v23] <;> rfl) t_22) | (exact ClI.lnew hCv hCI hB (by omega) (by rw [b_v24, b_v23] <;> rfl) t_22 t_27 (by omega)) | (exact ClI.lless hCv hCI hB (by omega) (by rw [b_v24, b_v23] <;> rfl) t_22 t_27 b_v27 b_v28 (by omega) (by omega)) | (exact ClI.lkeep hCI hB (by omega) t_27 b_v27 b_v28 (by omega))), rfl, hP, hD, hS, hl⟩
            · have t_42 : ¬ v27.toInt ≥ v28.toInt := toI_nge c_42 rfl rfl
              refine lv_iload_n hx hb dX0_least_45 rfl (lv_at hl 0 rfl) ?_
              refine lv_istore_n hx hb dX0_least_46 rfl hl (by decide) rfl (fun ls (hl : lv_has ls _ ([(2, .int l3_x4), (3, .int l3_x4), (0, .ref (hC 0)), (1, .int p1)])) => ?_)
              have hl : lv_has _ _ ([(3, .int l3_x4), (2, .int l3_x4), (0, .ref (hC 0)), (1, .int p1)]) := lv_sub hl [1, 0, 2, 3] rfl
              exact join10 _ _ _ _ ⟨l3_x4, (by first | exact b_l3_x4 | with_reducible assumption | exact ⟨by omega, by omega⟩ | assumption), (show ∃ b, cBest (iC_clauses.toInt, fC_wants, fC_wantsNot, fC_weight) (l3_x4.toInt.toNat + 1) b l3_x4.toInt from by first | (exact ClI.lno hCv hCI hB (by omega) (by rw [b_v24, b_v23] <;> rfl) t_22) | (exact ClI.lnew hCv hCI hB (by omega) (by rw [b_v24, b_v23] <;> rfl) t_22 t_27 (by omega)) | (exact ClI.lless hCv hCI hB (by omega) (by rw [b_v24, b_v23] <;> rfl) t_22 t_27 b_v27 b_v28 (by omega) (by omega)) | (exact ClI.lkeep hCI hB (by omega) t_27 b_v27 b_v28 (by omega))), rfl, hP, hD, hS, hl⟩
      · intro H locs ls stk
        refine fz_e1 ?_
        intro l2_j10
        refine fz_a7 ?_
        intro b_l2_j10 hB2 hst9_2 hP hD hS hl
        subst hst9_2
        refine lv_iinc (v := (iI (l3_x4.toInt + 1))) hx hb dX0_least_47 hl (k := 0) rfl (iI_add2 (iI_of _) (by decide : (1 : Int32) = iI 1)) (by decide) rfl (fun ls (hl : lv_has ls _ ([(3, .int (iI (l3_x4.toInt + 1))), (2, .int l2_j10), (0, .ref (hC 0)), (1, .int p1)])) => ?_)
        refine lv_goto (tgt := 4) hx hb dX0_least_50 (by decide) ?_
        have hl : lv_has _ _ ([(3, .int (iI (l3_x4.toInt + 1))), (2, .int l2_j10), (0, .ref (hC 0)), (1, .int p1)]) := lv_sub hl [0, 1, 2, 3] rfl
        exact ihx4 (iI (l3_x4.toInt + 1)) l2_j10 _ _ _ (iI_rng (Int.le_trans (by decide) (Int.add_le_add (b_l3_x4.1) (Int.le_refl _))) (by omega) (by decide) (by decide)) (b_l2_j10) (show ∃ b, cBest (iC_clauses.toInt, fC_wants, fC_wantsNot, fC_weight) (iI (l3_x4.toInt + 1)).toInt.toNat b l2_j10.toInt from by rw [iI_t (by omega) (by omega), show (l3_x4.toInt + 1).toNat = l3_x4.toInt.toNat + 1 from by omega]; exact hB2) (by have e9 : ((iI (l3_x4.toInt + 1))).toInt = (l3_x4.toInt + 1) := (iI_t (Int.le_trans (by decide) (Int.add_le_add (b_l3_x4.1) (Int.le_refl _))) (Int.le_trans (Int.add_le_add (b_l3_x4.2) (Int.le_refl _)) (by decide))); omega) hP hD hS hl
theorem dX0_models_0 : decode cX0_models 0 = .ok (.iconst 0, 1) := dk_3 (by decide +kernel)
theorem dX0_models_1 : decode cX0_models 1 = .ok (.istore_n 1, 1) := dk_60 (by decide +kernel)
theorem dX0_models_2 : decode cX0_models 2 = .ok (.iconst 0, 1) := dk_3 (by decide +kernel)
theorem dX0_models_3 : decode cX0_models 3 = .ok (.istore_n 2, 1) := dk_61 (by decide +kernel)
theorem dX0_models_4 : decode cX0_models 4 = .ok (.iload_n 2, 1) := dk_28 (by decide +kernel)
theorem dX0_models_5 : decode cX0_models 5 = .ok (.sipush 4096, 3) := dk_17 (by decide +kernel)
theorem dX0_models_8 : decode cX0_models 8 = .ok (.if_icmp .ge 26, 3) := dk_162 (by decide +kernel)
theorem dX0_models_11 : decode cX0_models 11 = .ok (.iload_n 1, 1) := dk_27 (by decide +kernel)
theorem dX0_models_12 : decode cX0_models 12 = .ok (.aload_n 0, 1) := dk_42 (by decide +kernel)
theorem dX0_models_13 : decode cX0_models 13 = .ok (.getfield 21, 3) := dk_180 (by decide +kernel)
theorem dX0_models_16 : decode cX0_models 16 = .ok (.iload_n 2, 1) := dk_28 (by decide +kernel)
theorem dX0_models_17 : decode cX0_models 17 = .ok (.iaload, 1) := dk_46 (by decide +kernel)
theorem dX0_models_18 : decode cX0_models 18 = .ok (.ifCond .ne 7, 3) := dk_154 (by decide +kernel)
theorem dX0_models_21 : decode cX0_models 21 = .ok (.iconst 1, 1) := dk_4 (by decide +kernel)
theorem dX0_models_22 : decode cX0_models 22 = .ok (.goto 4, 3) := dk_167 (by decide +kernel)
theorem dX0_models_25 : decode cX0_models 25 = .ok (.iconst 0, 1) := dk_3 (by decide +kernel)
theorem dX0_models_26 : decode cX0_models 26 = .ok (.iadd, 1) := dk_96 (by decide +kernel)
theorem dX0_models_27 : decode cX0_models 27 = .ok (.istore_n 1, 1) := dk_60 (by decide +kernel)
theorem dX0_models_28 : decode cX0_models 28 = .ok (.iinc 2 1, 3) := dk_132 (by decide +kernel)
theorem dX0_models_31 : decode cX0_models 31 = .ok (.goto (-27), 3) := dk_167 (by decide +kernel)
theorem dX0_models_34 : decode cX0_models 34 = .ok (.iload_n 1, 1) := dk_27 (by decide +kernel)
theorem dX0_models_35 : decode cX0_models 35 = .ok (.ireturn, 1) := dk_172 (by decide +kernel)
def wsMX0_models : List Cond := .code yX0_models cX0_models 3 (some .int) :: ([.fieldLink RX0 21 "OptimaWorks$ClauseDesk" "broken" "[I"] ++ wsX00)
theorem iwsMX0_models_in0 : ∀ w ∈ wsX00, w ∈ wsMX0_models := fun _ h => List.mem_cons_of_mem _ (List.mem_append_right _ h)
theorem gdwsMX0_models : wsMX0_models.all goodWord = true := gdC rfl (gdA (by decide +kernel : ([.fieldLink RX0 21 "OptimaWorks$ClauseDesk" "broken" "[I"] : List Cond).all goodWord = true) gdwsX00)
set_option maxHeartbeats 4000000 in
set_option maxRecDepth 100000 in
/-- rows that keep all -/
theorem m_X0_models (l : Launch) (dC : Nat → ClassId) (dI : Nat → Nat → Nat) (hC : Nat → Nat) (aC : Nat → Nat) (kC : Nat → ClassId) (iC_clauses : Int32) (fC_wants : Nat → Int32) (fC_wantsNot : Nat → Int32) (fC_weight : Nat → Int32) (fC_broken : Nat → Int32) (fC_loss : Nat → Int32) (iC_musts : Int32) (b_iC_clauses : 0 ≤ iC_clauses.toInt ∧ iC_clauses.toInt ≤ 24) (hCv : cVal (iC_clauses.toInt, fC_wants, fC_wantsNot, fC_weight)) (hCI : ClI (iC_clauses.toInt, fC_wants, fC_wantsNot, fC_weight) fC_broken fC_loss iC_musts) (sz : Nat) : Met l yX0_models wsMX0_models ({ frames := 0, cells := 0, slots := 0, locals := 0 }) (va_Pc [.ref (hC 0)] (fun U => U.heap.size = sz ∧ va_P (dC, dI) vwCl (WC hC aC kC iC_clauses fC_wants fC_wantsNot fC_weight fC_broken fC_loss iC_musts) U.heap ∧ va_K (dC, dI) vwCl (tC kC) U ∧ va_D (fun _ => True) (WC hC aC kC iC_clauses fC_wants fC_wantsNot fC_weight fC_broken fC_loss iC_musts))) (va_Qi (fun (r : Int32) (u : Unit) => (r.toInt = ((cMods (iC_clauses.toInt, fC_wants, fC_wantsNot, fC_weight) (cFull iC_clauses.toInt.toNat) : Nat) : Int))) (fun (u : Unit) t => va_P (dC, dI) vwCl (WC hC aC kC iC_clauses fC_wants fC_wantsNot fC_weight fC_broken fC_loss iC_musts) t.heap ∧ va_D (va_A (WC hC aC kC iC_clauses fC_wants fC_wantsNot fC_weight fC_broken fC_loss iC_musts) sz) (WC hC aC kC iC_clauses fC_wants fC_wantsNot fC_weight fC_broken fC_loss iC_musts)) (va_A (WC hC aC kC iC_clauses fC_wants fC_wantsNot fC_weight fC_broken fC_loss iC_musts) sz)) 0 0 (va_A (WC hC aC kC iC_clauses fC_wants fC_wantsNot fC_weight fC_broken fC_loss iC_musts) sz) := by
  refine Met.ofW (cc := cX0_models) (maxL := 3) (ret := (some .int)) (by decide) rfl ?_
  intro p e s m args below meth c s₁ B hml hv
  obtain ⟨rfl, hsz, hP, hK, hD0⟩ := hv
  have hx := B.exec
  have hb := B.bytes
  have hr := B.returns
  have hts := atoms_spec (ws := wsMX0_models) B.pre
  have hown : s.vm.findClass RX0 = some m.cls := findClass_of_methodNamed B.named
  have hlocks := B.notSynchronized
  subst hsz
  have hD := hD0.self (sz := s.heap.size)
  generalize hAe : va_A (WC hC aC kC iC_clauses fC_wants fC_wantsNot fC_weight fC_broken fC_loss iC_musts) s.heap.size = A at hD ⊢
  have hA : ∀ q : Nat, s.heap.size ≤ q → A q := fun q h => by rw [← hAe]; exact Or.inr h
  have hS : va_S A s.heap s.heap [] := va_S.rf
  have hl := lv_entry ([.ref (hC 0)]) (n := 3) (Nat.le_of_ble_eq_true rfl)
  rw [lg_entry_eq]
  generalize (lg_sl ([.ref (hC 0)]) ++ List.replicate (3 - (lg_sl ([.ref (hC 0)])).length) Slot.unset).toArray = ls at hl ⊢
  have hl : lv_has ls 3 [(0, .ref (hC 0))] := hl
  refine lv_iconst (v := 0) hx hb dX0_models_0 (by decide) ?_
  refine lv_istore_n hx hb dX0_models_1 rfl hl (by decide) rfl (fun ls (hl : lv_has ls _ ([(1, .int 0), (0, .ref (hC 0))])) => ?_)
  refine lv_iconst (v := 0) hx hb dX0_models_2 (by decide) ?_
  refine lv_istore_n hx hb dX0_models_3 rfl hl (by decide) rfl (fun ls (hl : lv_has ls _ ([(2, .int 0), (1, .int 0), (0, .ref (hC 0))])) => ?_)
  have hl : lv_has _ _ ([(2, .int 0), (1, .int 0), (0, .ref (hC 0))]) := lv_sub hl [0, 1, 2] rfl
  refine (fun (loop : ∀ (n9 : Nat) (l2_x4 : Int32) (l1_x4 : Int32) (H : Heap) (locs : List Loc) (ls : Array Slot), (0 ≤ l2_x4.toInt ∧ l2_x4.toInt ≤ 4096) → (l1_x4.toInt = ((cCnt (iC_clauses.toInt, fC_wants, fC_wantsNot, fC_weight) l2_x4.toInt.toNat : Nat) : Int)) → (4096 - l2_x4.toInt < ((n9 : Nat) : Int)) → va_P (dC, dI) vwCl (WC hC aC kC iC_clauses fC_wants fC_wantsNot fC_weight fC_broken fC_loss iC_musts) H → va_D A (WC hC aC kC iC_clauses fC_wants fC_wantsNot fC_weight fC_broken fC_loss iC_musts) → va_S A s.heap H locs → lv_has ls 3 [(2, .int l2_x4), (1, .int l1_x4), (0, .ref (hC 0))] → W p l e _ s m _ below meth c H locs 0 0 _ (F0 m 4 ls [])) => loop (4097) 0 0 _ _ _ (show 0 ≤ (0 : Int32).toInt ∧ (0 : Int32).toInt ≤ 4096 from by decide) (show (0 : Int32).toInt = ((cCnt (iC_clauses.toInt, fC_wants, fC_wantsNot, fC_weight) (0 : Int32).toInt.toNat : Nat) : Int) from by rw [show (0 : Int32).toInt.toNat = 0 from by decide]; rfl) ((by have e9 : (0 : Int32).toInt = 0 := (by decide : (0 : Int32).toInt = 0); omega)) hP hD hS hl) ?_
  intro n9
  induction n9 with
  | zero => intro l2_x4 l1_x4 H locs ls b_l2_x4 hN hf9; exact False.elim (by omega)
  | succ n9 ihx4 =>
    intro l2_x4 l1_x4 H locs ls b_l2_x4 hN hfx4 hP hD hS hl
    refine lv_iload_n hx hb dX0_models_4 rfl (lv_at hl 0 rfl) ?_
    refine lv_sipush (v := 4096) hx hb dX0_models_5 (by decide) ?_
    refine lv_icmp_ge (tgt := 34) hx hb dX0_models_8 (by decide) (fun c_8 => ?_) (fun c_8 => ?_)
    · have t_8 : l2_x4.toInt ≥ 4096 := toI_ge c_8 rfl (by decide : (4096 : Int32).toInt = 4096)
      refine lv_iload_n hx hb dX0_models_34 rfl (lv_at hl 1 rfl) ?_
      refine W.widen (k := 0) (n := 0) (by decide +kernel) (by decide +kernel) ?_
      exact W.iret (v := l1_x4) hx hb hr (fun t9_ ht hW => ⟨⟨l1_x4, (), rfl, (by (try dsimp only); show l1_x4.toInt = ((cCnt (iC_clauses.toInt, fC_wants, fC_wantsNot, fC_weight) 4096 : Nat) : Int); rw [show 4096 = l2_x4.toInt.toNat from by omega]; exact hN), by rw [ht]; exact hP, hD⟩, hS.F ht⟩) hS.2.2 dX0_models_35
    · have t_8 : ¬ l2_x4.toInt ≥ 4096 := toI_nge c_8 rfl (by decide : (4096 : Int32).toInt = 4096)
      have hcl := cCnt_le (iC_clauses.toInt, fC_wants, fC_wantsNot, fC_weight) l2_x4.toInt.toNat
      refine lv_iload_n hx hb dX0_models_11 rfl (lv_at hl 1 rfl) ?_
      refine lv_aload_n hx hb dX0_models_12 rfl (lv_at hl 2 rfl) ?_
      refine va_get (D := (dC, dI)) (ci := 0) (v := .ref (aC 3)) (C := RX0) (T := TX0) (N := 7) hx hb hts iwsMX0_models_in0 hown hK hP 0 rfl rfl 4 (by decide) (hts (.fieldLink RX0 21 "OptimaWorks$ClauseDesk" "broken" "[I") (by decide +kernel)) (fun _ h9 => h9) rfl dX0_models_13 ?_
      refine lv_iload_n hx hb dX0_models_16 rfl (lv_at hl 0 rfl) ?_
      refine va_iald (cA := kC 3) (n := 4096) (f := fC_broken) hx hb hK hP 4 3 rfl rfl (vp_in_iff.mpr ⟨b_l2_x4.1, (Int.lt_of_lt_of_le (Int.not_le.mp t_8) (by decide))⟩) dX0_models_17 ?_
      refine lv_topi (fun v13 hv13 => ?_)
      have b_v13 : v13 = fC_broken (l2_x4).toNatClampNeg := hv13
      clear hv13
      refine lv_if_ne (tgt := 25) hx hb dX0_models_18 (by decide) (fun c_18 => ?_) (fun c_18 => ?_)
      · have t_18 : v13.toInt ≠ 0 := toI_ne c_18 rfl (by decide : (0 : Int32).toInt = 0)
        refine lv_iconst (v := 0) hx hb dX0_models_25 (by decide) ?_
        refine lv_iadd hx hb dX0_models_26 ?_
        refine lv_topi (fun y14 hy14 => ?_)
        obtain rfl : (iI (l1_x4.toInt + 0)) = y14 := (hy14.trans (iI_add2 (iI_of _) (by decide : (0 : Int32) = iI 0))).symm
        refine lv_istore_n hx hb dX0_models_27 rfl hl (by decide) rfl (fun ls (hl : lv_has ls _ ([(1, .int (iI (l1_x4.toInt + 0))), (2, .int l2_x4), (0, .ref (hC 0))])) => ?_)
        refine lv_iinc (v := (iI (l2_x4.toInt + 1))) hx hb dX0_models_28 hl (k := 1) rfl (iI_add2 (iI_of _) (by decide : (1 : Int32) = iI 1)) (by decide) rfl (fun ls (hl : lv_has ls _ ([(2, .int (iI (l2_x4.toInt + 1))), (1, .int (iI (l1_x4.toInt + 0))), (0, .ref (hC 0))])) => ?_)
        refine lv_goto (tgt := 4) hx hb dX0_models_31 (by decide) ?_
        have hl : lv_has _ _ ([(2, .int (iI (l2_x4.toInt + 1))), (1, .int (iI (l1_x4.toInt + 0))), (0, .ref (hC 0))]) := lv_sub hl [0, 1, 2] rfl
        exact ihx4 (iI (l2_x4.toInt + 1)) (iI (l1_x4.toInt + 0)) _ _ _ (iI_rng (Int.le_trans (by decide) (Int.add_le_add (b_l2_x4.1) (Int.le_refl _))) (by omega) (by decide) (by decide)) (show (iI (l1_x4.toInt + 0)).toInt = ((cCnt (iC_clauses.toInt, fC_wants, fC_wantsNot, fC_weight) (iI (l2_x4.toInt + 1)).toInt.toNat : Nat) : Int) from by first | (have hc9 := ClI.cnt1 hCv hCI (m := l2_x4.toInt.toNat) (by omega) b_v13 t_18; rw [iI_t (by omega) (by omega), iI_t (by omega) (by omega), show (l2_x4.toInt + 1).toNat = l2_x4.toInt.toNat + 1 from by omega, hc9]; omega) | (have hc9 := ClI.cnt0 hCv hCI (m := l2_x4.toInt.toNat) (by omega) b_v13 t_18; rw [iI_t (by omega) (by omega), iI_t (by omega) (by omega), show (l2_x4.toInt + 1).toNat = l2_x4.toInt.toNat + 1 from by omega, hc9]; omega)) (by have e9 : ((iI (l2_x4.toInt + 1))).toInt = (l2_x4.toInt + 1) := (iI_t (Int.le_trans (by decide) (Int.add_le_add (b_l2_x4.1) (Int.le_refl _))) (Int.le_trans (Int.add_le_add (b_l2_x4.2) (Int.le_refl _)) (by decide))); omega) hP hD hS hl
      · have t_18 : v13.toInt = 0 := toI_nne c_18 rfl (by decide : (0 : Int32).toInt = 0)
        refine lv_iconst (v := 1) hx hb dX0_models_21 (by decide) ?_
        refine lv_goto (tgt := 26) hx hb dX0_models_22 (by decide) ?_
        refine lv_iadd hx hb dX0_models_26 ?_
        refine lv_topi (fun y15 hy15 => ?_)
        obtain rfl : (iI (l1_x4.toInt + 1)) = y15 := (hy15.trans (iI_add2 (iI_of _) (by decide : (1 : Int32) = iI 1))).symm
        refine lv_istore_n hx hb dX0_models_27 rfl hl (by decide) rfl (fun ls (hl : lv_has ls _ ([(1, .int (iI (l1_x4.toInt + 1))), (2, .int l2_x4), (0, .ref (hC 0))])) => ?_)
        refine lv_iinc (v := (iI (l2_x4.toInt + 1))) hx hb dX0_models_28 hl (k := 1) rfl (iI_add2 (iI_of _) (by decide : (1 : Int32) = iI 1)) (by decide) rfl (fun ls (hl : lv_has ls _ ([(2, .int (iI (l2_x4.toInt + 1))), (1, .int (iI (l1_x4.toInt + 1))), (0, .ref (hC 0))])) => ?_)
        refine lv_goto (tgt := 4) hx hb dX0_models_31 (by decide) ?_
        have hl : lv_has _ _ ([(2, .int (iI (l2_x4.toInt + 1))), (1, .int (iI (l1_x4.toInt + 1))), (0, .ref (hC 0))]) := lv_sub hl [0, 1, 2] rfl
        exact ihx4 (iI (l2_x4.toInt + 1)) (iI (l1_x4.toInt + 1)) _ _ _ (iI_rng (Int.le_trans (by decide) (Int.add_le_add (b_l2_x4.1) (Int.le_refl _))) (by omega) (by decide) (by decide)) (show (iI (l1_x4.toInt + 1)).toInt = ((cCnt (iC_clauses.toInt, fC_wants, fC_wantsNot, fC_weight) (iI (l2_x4.toInt + 1)).toInt.toNat : Nat) : Int) from by first | (have hc9 := ClI.cnt1 hCv hCI (m := l2_x4.toInt.toNat) (by omega) b_v13 t_18; rw [iI_t (by omega) (by omega), iI_t (by omega) (by omega), show (l2_x4.toInt + 1).toNat = l2_x4.toInt.toNat + 1 from by omega, hc9]; omega) | (have hc9 := ClI.cnt0 hCv hCI (m := l2_x4.toInt.toNat) (by omega) b_v13 t_18; rw [iI_t (by omega) (by omega), iI_t (by omega) (by omega), show (l2_x4.toInt + 1).toNat = l2_x4.toInt.toNat + 1 from by omega, hc9]; omega)) (by have e9 : ((iI (l2_x4.toInt + 1))).toInt = (l2_x4.toInt + 1) := (iI_t (Int.le_trans (by decide) (Int.add_le_add (b_l2_x4.1) (Int.le_refl _))) (Int.le_trans (Int.add_le_add (b_l2_x4.2) (Int.le_refl _)) (by decide))); omega) hP hD hS hl
theorem dX0_canKeep_0 : decode cX0_canKeep 0 = .ok (.iconst 0, 1) := dk_3 (by decide +kernel)
theorem dX0_canKeep_1 : decode cX0_canKeep 1 = .ok (.istore_n 2, 1) := dk_61 (by decide +kernel)
theorem dX0_canKeep_2 : decode cX0_canKeep 2 = .ok (.iload_n 2, 1) := dk_28 (by decide +kernel)
theorem dX0_canKeep_3 : decode cX0_canKeep 3 = .ok (.sipush 4096, 3) := dk_17 (by decide +kernel)
theorem dX0_canKeep_6 : decode cX0_canKeep 6 = .ok (.if_icmp .ge 22, 3) := dk_162 (by decide +kernel)
theorem dX0_canKeep_9 : decode cX0_canKeep 9 = .ok (.aload_n 0, 1) := dk_42 (by decide +kernel)
theorem dX0_canKeep_10 : decode cX0_canKeep 10 = .ok (.getfield 21, 3) := dk_180 (by decide +kernel)
theorem dX0_canKeep_13 : decode cX0_canKeep 13 = .ok (.iload_n 2, 1) := dk_28 (by decide +kernel)
theorem dX0_canKeep_14 : decode cX0_canKeep 14 = .ok (.iaload, 1) := dk_46 (by decide +kernel)
theorem dX0_canKeep_15 : decode cX0_canKeep 15 = .ok (.iload_n 1, 1) := dk_27 (by decide +kernel)
theorem dX0_canKeep_16 : decode cX0_canKeep 16 = .ok (.iand, 1) := dk_126 (by decide +kernel)
theorem dX0_canKeep_17 : decode cX0_canKeep 17 = .ok (.ifCond .ne 5, 3) := dk_154 (by decide +kernel)
theorem dX0_canKeep_20 : decode cX0_canKeep 20 = .ok (.iconst 1, 1) := dk_4 (by decide +kernel)
theorem dX0_canKeep_21 : decode cX0_canKeep 21 = .ok (.ireturn, 1) := dk_172 (by decide +kernel)
theorem dX0_canKeep_22 : decode cX0_canKeep 22 = .ok (.iinc 2 1, 3) := dk_132 (by decide +kernel)
theorem dX0_canKeep_25 : decode cX0_canKeep 25 = .ok (.goto (-23), 3) := dk_167 (by decide +kernel)
theorem dX0_canKeep_28 : decode cX0_canKeep 28 = .ok (.iconst 0, 1) := dk_3 (by decide +kernel)
theorem dX0_canKeep_29 : decode cX0_canKeep 29 = .ok (.ireturn, 1) := dk_172 (by decide +kernel)
def wsMX0_canKeep : List Cond := .code yX0_canKeep cX0_canKeep 3 (some .boolean) :: ([.fieldLink RX0 21 "OptimaWorks$ClauseDesk" "broken" "[I"] ++ wsX00)
theorem iwsMX0_canKeep_in0 : ∀ w ∈ wsX00, w ∈ wsMX0_canKeep := fun _ h => List.mem_cons_of_mem _ (List.mem_append_right _ h)
theorem gdwsMX0_canKeep : wsMX0_canKeep.all goodWord = true := gdC rfl (gdA (by decide +kernel : ([.fieldLink RX0 21 "OptimaWorks$ClauseDesk" "broken" "[I"] : List Cond).all goodWord = true) gdwsX00)
set_option maxHeartbeats 4000000 in
set_option maxRecDepth 100000 in
/-- can a set be kept -/
theorem m_X0_canKeep (l : Launch) (dC : Nat → ClassId) (dI : Nat → Nat → Nat) (hC : Nat → Nat) (aC : Nat → Nat) (kC : Nat → ClassId) (iC_clauses : Int32) (fC_wants : Nat → Int32) (fC_wantsNot : Nat → Int32) (fC_weight : Nat → Int32) (fC_broken : Nat → Int32) (fC_loss : Nat → Int32) (iC_musts : Int32) (p1 : Int32) (b_iC_clauses : 0 ≤ iC_clauses.toInt ∧ iC_clauses.toInt ≤ 24) (hCv : cVal (iC_clauses.toInt, fC_wants, fC_wantsNot, fC_weight)) (hCI : ClI (iC_clauses.toInt, fC_wants, fC_wantsNot, fC_weight) fC_broken fC_loss iC_musts) (sz : Nat) : Met l yX0_canKeep wsMX0_canKeep ({ frames := 0, cells := 0, slots := 0, locals := 0 }) (va_Pc [.ref (hC 0), .int p1] (fun U => U.heap.size = sz ∧ va_P (dC, dI) vwCl (WC hC aC kC iC_clauses fC_wants fC_wantsNot fC_weight fC_broken fC_loss iC_musts) U.heap ∧ va_K (dC, dI) vwCl (tC kC) U ∧ va_D (fun _ => True) (WC hC aC kC iC_clauses fC_wants fC_wantsNot fC_weight fC_broken fC_loss iC_musts))) (va_Qi (fun (r : Int32) (u : Unit) => (0 ≤ r.toInt ∧ r.toInt ≤ 1) ∧ (r.toInt ≠ 0 → cCan (iC_clauses.toInt, fC_wants, fC_wantsNot, fC_weight) p1) ∧ (r.toInt = 0 → ¬ cCan (iC_clauses.toInt, fC_wants, fC_wantsNot, fC_weight) p1)) (fun (u : Unit) t => va_P (dC, dI) vwCl (WC hC aC kC iC_clauses fC_wants fC_wantsNot fC_weight fC_broken fC_loss iC_musts) t.heap ∧ va_D (va_A (WC hC aC kC iC_clauses fC_wants fC_wantsNot fC_weight fC_broken fC_loss iC_musts) sz) (WC hC aC kC iC_clauses fC_wants fC_wantsNot fC_weight fC_broken fC_loss iC_musts)) (va_A (WC hC aC kC iC_clauses fC_wants fC_wantsNot fC_weight fC_broken fC_loss iC_musts) sz)) 0 0 (va_A (WC hC aC kC iC_clauses fC_wants fC_wantsNot fC_weight fC_broken fC_loss iC_musts) sz) := by
  refine Met.ofW (cc := cX0_canKeep) (maxL := 3) (ret := (some .boolean)) (by decide) rfl ?_
  intro p e s m args below meth c s₁ B hml hv
  obtain ⟨rfl, hsz, hP, hK, hD0⟩ := hv
  have hx := B.exec
  have hb := B.bytes
  have hr := B.returns
  have hts := atoms_spec (ws := wsMX0_canKeep) B.pre
  have hown : s.vm.findClass RX0 = some m.cls := findClass_of_methodNamed B.named
  have hlocks := B.notSynchronized
  subst hsz
  have hD := hD0.self (sz := s.heap.size)
  generalize hAe : va_A (WC hC aC kC iC_clauses fC_wants fC_wantsNot fC_weight fC_broken fC_loss iC_musts) s.heap.size = A at hD ⊢
  have hA : ∀ q : Nat, s.heap.size ≤ q → A q := fun q h => by rw [← hAe]; exact Or.inr h
  have hS : va_S A s.heap s.heap [] := va_S.rf
  have hl := lv_entry ([.ref (hC 0), .int p1]) (n := 3) (Nat.le_of_ble_eq_true rfl)
  rw [lg_entry_eq]
  generalize (lg_sl ([.ref (hC 0), .int p1]) ++ List.replicate (3 - (lg_sl ([.ref (hC 0), .int p1])).length) Slot.unset).toArray = ls at hl ⊢
  have hl : lv_has ls 3 [(0, .ref (hC 0)), (1, .int p1)] := hl
  refine lv_iconst (v := 0) hx hb dX0_canKeep_0 (by decide) ?_
  refine lv_istore_n hx hb dX0_canKeep_1 rfl hl (by decide) rfl (fun ls (hl : lv_has ls _ ([(2, .int 0), (0, .ref (hC 0)), (1, .int p1)])) => ?_)
  have hl : lv_has _ _ ([(2, .int 0), (0, .ref (hC 0)), (1, .int p1)]) := lv_sub hl [0, 1, 2] rfl
  refine (fun (loop : ∀ (n9 : Nat) (l2_x2 : Int32) (H : Heap) (locs : List Loc) (ls : Array Slot), (0 ≤ l2_x2.toInt ∧ l2_x2.toInt ≤ 4096) → (∀ k, k < l2_x2.toInt.toNat → ¬ cSat (iC_clauses.toInt, fC_wants, fC_wantsNot, fC_weight) p1 k iC_clauses.toInt.toNat = true) → (4096 - l2_x2.toInt < ((n9 : Nat) : Int)) → va_P (dC, dI) vwCl (WC hC aC kC iC_clauses fC_wants fC_wantsNot fC_weight fC_broken fC_loss iC_musts) H → va_D A (WC hC aC kC iC_clauses fC_wants fC_wantsNot fC_weight fC_broken fC_loss iC_musts) → va_S A s.heap H locs → lv_has ls 3 [(2, .int l2_x2), (0, .ref (hC 0)), (1, .int p1)] → W p l e _ s m _ below meth c H locs 0 0 _ (F0 m 2 ls [])) => loop (4097) 0 _ _ _ (show 0 ≤ (0 : Int32).toInt ∧ (0 : Int32).toInt ≤ 4096 from by decide) (show ∀ k, k < (0 : Int32).toInt.toNat → ¬ cSat (iC_clauses.toInt, fC_wants, fC_wantsNot, fC_weight) p1 k iC_clauses.toInt.toNat = true from fun k hk => absurd hk (by rw [show (0 : Int32).toInt.toNat = 0 from by decide]; exact Nat.not_lt_zero k)) ((by have e9 : (0 : Int32).toInt = 0 := (by decide : (0 : Int32).toInt = 0); omega)) hP hD hS hl) ?_
  intro n9
  induction n9 with
  | zero => intro l2_x2 H locs ls b_l2_x2 hN hf9; exact False.elim (by omega)
  | succ n9 ihx2 =>
    intro l2_x2 H locs ls b_l2_x2 hN hfx2 hP hD hS hl
    refine lv_iload_n hx hb dX0_canKeep_2 rfl (lv_at hl 0 rfl) ?_
    refine lv_sipush (v := 4096) hx hb dX0_canKeep_3 (by decide) ?_
    refine lv_icmp_ge (tgt := 28) hx hb dX0_canKeep_6 (by decide) (fun c_6 => ?_) (fun c_6 => ?_)
    · have t_6 : l2_x2.toInt ≥ 4096 := toI_ge c_6 rfl (by decide : (4096 : Int32).toInt = 4096)
      refine lv_iconst (v := 0) hx hb dX0_canKeep_28 (by decide) ?_
      refine W.widen (k := 0) (n := 0) (by decide +kernel) (by decide +kernel) ?_
      exact W.zret (v := 0) hx hb hr rfl (fun t9_ ht hW => ⟨⟨(0 : Int32), (), rfl, ⟨(show 0 ≤ (0 : Int32).toInt ∧ (0 : Int32).toInt ≤ 1 from by decide), (by (try dsimp only); exact (fun h9 => absurd (show (0 : Int32).toInt = 0 from by decide) h9)), (by (try dsimp only); exact (fun _ => cCan.no hN (by omega)))⟩, by rw [ht]; exact hP, hD⟩, hS.F ht⟩) hS.2.2 dX0_canKeep_29
    · have t_6 : ¬ l2_x2.toInt ≥ 4096 := toI_nge c_6 rfl (by decide : (4096 : Int32).toInt = 4096)
      refine lv_aload_n hx hb dX0_canKeep_9 rfl (lv_at hl 1 rfl) ?_
      refine va_get (D := (dC, dI)) (ci := 0) (v := .ref (aC 3)) (C := RX0) (T := TX0) (N := 7) hx hb hts iwsMX0_canKeep_in0 hown hK hP 0 rfl rfl 4 (by decide) (hts (.fieldLink RX0 21 "OptimaWorks$ClauseDesk" "broken" "[I") (by decide +kernel)) (fun _ h9 => h9) rfl dX0_canKeep_10 ?_
      refine lv_iload_n hx hb dX0_canKeep_13 rfl (lv_at hl 0 rfl) ?_
      refine va_iald (cA := kC 3) (n := 4096) (f := fC_broken) hx hb hK hP 4 3 rfl rfl (vp_in_iff.mpr ⟨b_l2_x2.1, (Int.lt_of_lt_of_le (Int.not_le.mp t_6) (by decide))⟩) dX0_canKeep_14 ?_
      refine lv_topi (fun v5 hv5 => ?_)
      have b_v5 : v5 = fC_broken (l2_x2).toNatClampNeg := hv5
      clear hv5
      refine lv_iload_n hx hb dX0_canKeep_15 rfl (lv_at hl 2 rfl) ?_
      refine lv_iand hx hb dX0_canKeep_16 ?_
      refine lv_topi (fun v6 hv6 => ?_)
      have b_v6 : v6 = v5 &&& p1 := hv6
      clear hv6
      refine lv_if_ne (tgt := 22) hx hb dX0_canKeep_17 (by decide) (fun c_17 => ?_) (fun c_17 => ?_)
      · have t_17 : v6.toInt ≠ 0 := toI_ne c_17 rfl (by decide : (0 : Int32).toInt = 0)
        refine lv_iinc (v := (iI (l2_x2.toInt + 1))) hx hb dX0_canKeep_22 hl (k := 0) rfl (iI_add2 (iI_of _) (by decide : (1 : Int32) = iI 1)) (by decide) rfl (fun ls (hl : lv_has ls _ ([(2, .int (iI (l2_x2.toInt + 1))), (0, .ref (hC 0)), (1, .int p1)])) => ?_)
        refine lv_goto (tgt := 2) hx hb dX0_canKeep_25 (by decide) ?_
        have hl : lv_has _ _ ([(2, .int (iI (l2_x2.toInt + 1))), (0, .ref (hC 0)), (1, .int p1)]) := lv_sub hl [0, 1, 2] rfl
        exact ihx2 (iI (l2_x2.toInt + 1)) _ _ _ (iI_rng (Int.le_trans (by decide) (Int.add_le_add (b_l2_x2.1) (Int.le_refl _))) (by omega) (by decide) (by decide)) (show ∀ k, k < (iI (l2_x2.toInt + 1)).toInt.toNat → ¬ cSat (iC_clauses.toInt, fC_wants, fC_wantsNot, fC_weight) p1 k iC_clauses.toInt.toNat = true from by rw [iI_t (by omega) (by omega), show (l2_x2.toInt + 1).toNat = l2_x2.toInt.toNat + 1 from by omega]; exact ClI.nkeep hCv hCI hN (by omega) (by rw [b_v6, b_v5] <;> rfl) t_17) (by have e9 : ((iI (l2_x2.toInt + 1))).toInt = (l2_x2.toInt + 1) := (iI_t (Int.le_trans (by decide) (Int.add_le_add (b_l2_x2.1) (Int.le_refl _))) (Int.le_trans (Int.add_le_add (b_l2_x2.2) (Int.le_refl _)) (by decide))); omega) hP hD hS hl
      · have t_17 : v6.toInt = 0 := toI_nne c_17 rfl (by decide : (0 : Int32).toInt = 0)
        refine lv_iconst (v := 1) hx hb dX0_canKeep_20 (by decide) ?_
        refine W.widen (k := 0) (n := 0) (by decide +kernel) (by decide +kernel) ?_
        exact W.zret (v := 1) hx hb hr rfl (fun t9_ ht hW => ⟨⟨(1 : Int32), (), rfl, ⟨(show 0 ≤ (1 : Int32).toInt ∧ (1 : Int32).toInt ≤ 1 from by decide), (by (try dsimp only); exact (fun _ => ClI.ykeep (m := l2_x2.toInt.toNat) hCv hCI (by omega) (by rw [b_v6, b_v5] <;> rfl) t_17)), (by (try dsimp only); exact (fun h9 => absurd h9 (by decide)))⟩, by rw [ht]; exact hP, hD⟩, hS.F ht⟩) hS.2.2 dX0_canKeep_21
theorem dX0_core_0 : decode cX0_core 0 = .ok (.iconst 1, 1) := dk_4 (by decide +kernel)
theorem dX0_core_1 : decode cX0_core 1 = .ok (.aload_n 0, 1) := dk_42 (by decide +kernel)
theorem dX0_core_2 : decode cX0_core 2 = .ok (.getfield 27, 3) := dk_180 (by decide +kernel)
theorem dX0_core_5 : decode cX0_core 5 = .ok (.ishl, 1) := dk_120 (by decide +kernel)
theorem dX0_core_6 : decode cX0_core 6 = .ok (.iconst 1, 1) := dk_4 (by decide +kernel)
theorem dX0_core_7 : decode cX0_core 7 = .ok (.isub, 1) := dk_100 (by decide +kernel)
theorem dX0_core_8 : decode cX0_core 8 = .ok (.istore_n 1, 1) := dk_60 (by decide +kernel)
theorem dX0_core_9 : decode cX0_core 9 = .ok (.aload_n 0, 1) := dk_42 (by decide +kernel)
theorem dX0_core_10 : decode cX0_core 10 = .ok (.iload_n 1, 1) := dk_27 (by decide +kernel)
theorem dX0_core_11 : decode cX0_core 11 = .ok (.invokevirtual 38, 3) := dk_182 (by decide +kernel)
theorem dX0_core_14 : decode cX0_core 14 = .ok (.ifCond .eq 5, 3) := dk_153 (by decide +kernel)
theorem dX0_core_17 : decode cX0_core 17 = .ok (.iconst 0, 1) := dk_3 (by decide +kernel)
theorem dX0_core_18 : decode cX0_core 18 = .ok (.ireturn, 1) := dk_172 (by decide +kernel)
theorem dX0_core_19 : decode cX0_core 19 = .ok (.aload_n 0, 1) := dk_42 (by decide +kernel)
theorem dX0_core_20 : decode cX0_core 20 = .ok (.getfield 27, 3) := dk_180 (by decide +kernel)
theorem dX0_core_23 : decode cX0_core 23 = .ok (.iconst 1, 1) := dk_4 (by decide +kernel)
theorem dX0_core_24 : decode cX0_core 24 = .ok (.isub, 1) := dk_100 (by decide +kernel)
theorem dX0_core_25 : decode cX0_core 25 = .ok (.istore_n 2, 1) := dk_61 (by decide +kernel)
theorem dX0_core_26 : decode cX0_core 26 = .ok (.iload_n 2, 1) := dk_28 (by decide +kernel)
theorem dX0_core_27 : decode cX0_core 27 = .ok (.ifCond .lt 27, 3) := dk_155 (by decide +kernel)
theorem dX0_core_30 : decode cX0_core 30 = .ok (.iload_n 1, 1) := dk_27 (by decide +kernel)
theorem dX0_core_31 : decode cX0_core 31 = .ok (.iconst 1, 1) := dk_4 (by decide +kernel)
theorem dX0_core_32 : decode cX0_core 32 = .ok (.iload_n 2, 1) := dk_28 (by decide +kernel)
theorem dX0_core_33 : decode cX0_core 33 = .ok (.ishl, 1) := dk_120 (by decide +kernel)
theorem dX0_core_34 : decode cX0_core 34 = .ok (.iconst (-1), 1) := dk_2 (by decide +kernel)
theorem dX0_core_35 : decode cX0_core 35 = .ok (.ixor, 1) := dk_130 (by decide +kernel)
theorem dX0_core_36 : decode cX0_core 36 = .ok (.iand, 1) := dk_126 (by decide +kernel)
theorem dX0_core_37 : decode cX0_core 37 = .ok (.istore_n 3, 1) := dk_62 (by decide +kernel)
theorem dX0_core_38 : decode cX0_core 38 = .ok (.aload_n 0, 1) := dk_42 (by decide +kernel)
theorem dX0_core_39 : decode cX0_core 39 = .ok (.iload_n 3, 1) := dk_29 (by decide +kernel)
theorem dX0_core_40 : decode cX0_core 40 = .ok (.invokevirtual 38, 3) := dk_182 (by decide +kernel)
theorem dX0_core_43 : decode cX0_core 43 = .ok (.ifCond .ne 5, 3) := dk_154 (by decide +kernel)
theorem dX0_core_46 : decode cX0_core 46 = .ok (.iload_n 3, 1) := dk_29 (by decide +kernel)
theorem dX0_core_47 : decode cX0_core 47 = .ok (.istore_n 1, 1) := dk_60 (by decide +kernel)
theorem dX0_core_48 : decode cX0_core 48 = .ok (.iinc 2 (-1), 3) := dk_132 (by decide +kernel)
theorem dX0_core_51 : decode cX0_core 51 = .ok (.goto (-25), 3) := dk_167 (by decide +kernel)
theorem dX0_core_54 : decode cX0_core 54 = .ok (.iload_n 1, 1) := dk_27 (by decide +kernel)
theorem dX0_core_55 : decode cX0_core 55 = .ok (.ireturn, 1) := dk_172 (by decide +kernel)
def wsMX0_core : List Cond := .code yX0_core cX0_core 4 (some .int) :: ([.fieldLink RX0 27 "OptimaWorks$ClauseDesk" "clauses" "I"] ++ wsX00 ++ (wsV RX0 38 RX0 yX0_canKeep wsMX0_canKeep))
theorem iwsMX0_core_in0 : ∀ w ∈ wsX00, w ∈ wsMX0_core := fun _ h => List.mem_cons_of_mem _ (List.mem_append_left _ (List.mem_append_right _ h))
theorem gwsMX0_core_0 : GoodIn wsMX0_core (wsV RX0 38 RX0 yX0_canKeep wsMX0_canKeep) := goodIn_sub (fun _ h => List.mem_cons_of_mem _ (List.mem_append_right _ h)) (gdV (by decide +kernel) gdwsMX0_canKeep)
theorem gdwsMX0_core : wsMX0_core.all goodWord = true := gdC rfl (gdA (gdA (by decide +kernel : ([.fieldLink RX0 27 "OptimaWorks$ClauseDesk" "clauses" "I"] : List Cond).all goodWord = true) gdwsX00) (gdV (by decide +kernel) gdwsMX0_canKeep))
theorem hm_m_X0_core_0 : (.fieldLink RX0 27 "OptimaWorks$ClauseDesk" "clauses" "I" : Cond) ∈ wsMX0_core := by decide +kernel
set_option maxHeartbeats 4000000 in
set_option maxRecDepth 100000 in
/-- a core -/
theorem m_X0_core (l : Launch) (dC : Nat → ClassId) (dI : Nat → Nat → Nat) (hC : Nat → Nat) (aC : Nat → Nat) (kC : Nat → ClassId) (iC_clauses : Int32) (fC_wants : Nat → Int32) (fC_wantsNot : Nat → Int32) (fC_weight : Nat → Int32) (fC_broken : Nat → Int32) (fC_loss : Nat → Int32) (iC_musts : Int32) (b_iC_clauses : 0 ≤ iC_clauses.toInt ∧ iC_clauses.toInt ≤ 24) (hCv : cVal (iC_clauses.toInt, fC_wants, fC_wantsNot, fC_weight)) (hCI : ClI (iC_clauses.toInt, fC_wants, fC_wantsNot, fC_weight) fC_broken fC_loss iC_musts) (sz : Nat) : Met l yX0_core wsMX0_core ({ frames := 1, cells := 0, slots := 0, locals := 22 }) (va_Pc [.ref (hC 0)] (fun U => U.heap.size = sz ∧ va_P (dC, dI) vwCl (WC hC aC kC iC_clauses fC_wants fC_wantsNot fC_weight fC_broken fC_loss iC_musts) U.heap ∧ va_K (dC, dI) vwCl (tC kC) U ∧ va_D (fun _ => True) (WC hC aC kC iC_clauses fC_wants fC_wantsNot fC_weight fC_broken fC_loss iC_musts))) (va_Qi (fun (r : Int32) (u : Unit) => ((cCan (iC_clauses.toInt, fC_wants, fC_wantsNot, fC_weight) (cFull iC_clauses.toInt.toNat) ∧ r = 0) ∨ (¬ cCan (iC_clauses.toInt, fC_wants, fC_wantsNot, fC_weight) (cFull iC_clauses.toInt.toNat) ∧ cCore (iC_clauses.toInt, fC_wants, fC_wantsNot, fC_weight) iC_clauses.toInt.toNat (cFull iC_clauses.toInt.toNat) r))) (fun (u : Unit) t => va_P (dC, dI) vwCl (WC hC aC kC iC_clauses fC_wants fC_wantsNot fC_weight fC_broken fC_loss iC_musts) t.heap ∧ va_D (va_A (WC hC aC kC iC_clauses fC_wants fC_wantsNot fC_weight fC_broken fC_loss iC_musts) sz) (WC hC aC kC iC_clauses fC_wants fC_wantsNot fC_weight fC_broken fC_loss iC_musts)) (va_A (WC hC aC kC iC_clauses fC_wants fC_wantsNot fC_weight fC_broken fC_loss iC_musts) sz)) 0 0 (va_A (WC hC aC kC iC_clauses fC_wants fC_wantsNot fC_weight fC_broken fC_loss iC_musts) sz) := by
  refine Met.ofW (cc := cX0_core) (maxL := 4) (ret := (some .int)) (by decide) rfl ?_
  intro p e s m args below meth c s₁ B hml hv
  obtain ⟨rfl, hsz, hP, hK, hD0⟩ := hv
  have hx := B.exec
  have hb := B.bytes
  have hr := B.returns
  have hts := atoms_spec (ws := wsMX0_core) B.pre
  have hown : s.vm.findClass RX0 = some m.cls := findClass_of_methodNamed B.named
  have hlocks := B.notSynchronized
  subst hsz
  have hD := hD0.self (sz := s.heap.size)
  generalize hAe : va_A (WC hC aC kC iC_clauses fC_wants fC_wantsNot fC_weight fC_broken fC_loss iC_musts) s.heap.size = A at hD ⊢
  have hA : ∀ q : Nat, s.heap.size ≤ q → A q := fun q h => by rw [← hAe]; exact Or.inr h
  have hS : va_S A s.heap s.heap [] := va_S.rf
  have hl := lv_entry ([.ref (hC 0)]) (n := 4) (Nat.le_of_ble_eq_true rfl)
  rw [lg_entry_eq]
  generalize (lg_sl ([.ref (hC 0)]) ++ List.replicate (4 - (lg_sl ([.ref (hC 0)])).length) Slot.unset).toArray = ls at hl ⊢
  have hl : lv_has ls 4 [(0, .ref (hC 0))] := hl
  refine lv_iconst (v := 1) hx hb dX0_core_0 (by decide) ?_
  refine lv_aload_n hx hb dX0_core_1 rfl (lv_at hl 0 rfl) ?_
  refine va_get (D := (dC, dI)) (ci := 0) (v := .int iC_clauses) (C := RX0) (T := TX0) (N := 7) hx hb hts iwsMX0_core_in0 hown hK hP 0 rfl rfl 0 (by decide) (hts _ hm_m_X0_core_0) (fun _ h9 => h9) rfl dX0_core_2 ?_
  refine lv_ishl hx hb dX0_core_5 ?_
  refine lv_topi (fun v1 hv1 => ?_)
  have b_v1 : v1 = (1 : Int32) <<< (iC_clauses &&& 31) := hv1
  clear hv1
  refine lv_iconst (v := 1) hx hb dX0_core_6 (by decide) ?_
  refine lv_isub hx hb dX0_core_7 ?_
  refine lv_topi (fun y2 hy2 => ?_)
  obtain rfl : (iI (v1.toInt - 1)) = y2 := (hy2.trans (iI_sub2 (iI_of _) (by decide : (1 : Int32) = iI 1))).symm
  refine lv_istore_n hx hb dX0_core_8 rfl hl (by decide) rfl (fun ls (hl : lv_has ls _ ([(1, .int (iI (v1.toInt - 1))), (0, .ref (hC 0))])) => ?_)
  have eF : (iI (v1.toInt - 1)) = cFull iC_clauses.toInt.toNat := cFull_of (by omega) (by rw [← b_v1]; exact (iI_sub2 (iI_of _) (by decide : (1 : Int32) = iI 1)).symm)
  refine lv_aload_n hx hb dX0_core_9 rfl (lv_at hl 1 rfl) ?_
  refine lv_iload_n hx hb dX0_core_10 rfl (lv_at hl 0 rfl) ?_
  have hFc := allFree hD hS hA
  refine va_calli (va_runV (As := [.int (iI (v1.toInt - 1))]) (rest := []) ⟨hx, hb, hml, hown, hts⟩ (m_X0_canKeep l dC dI hC aC kC iC_clauses fC_wants fC_wantsNot fC_weight fC_broken fC_loss iC_musts (iI (v1.toInt - 1)) (b_iC_clauses) (hCv) (hCI) s.heap.size) (cwV 1 hts gwsMX0_core_0 rfl rfl rfl hd_yX0_canKeep_RX0 (by decide +kernel)) (fz_pre (va_recv hK hP (ci := 0) (q0 := 0) rfl rfl) hP hK hD) rfl rfl hl.1 rfl (lv_room (Nat.le_of_ble_eq_true rfl)) dX0_core_11 (by decide +kernel)) hS (fun q _ h => hFc q h) hFc (fun r3 u t9_ H locs ht hvm hw9 hB9 hz1 hk1 hS => ?_)
  revert hw9
  refine fz_a3 ?_
  intro b_r3 f3_0 f3_1
  have hP : va_P (dC, dI) vwCl (WC hC aC kC iC_clauses fC_wants fC_wantsNot fC_weight fC_broken fC_loss iC_musts) H := fz_P ht hB9.1
  have hD := fz_sd hP (hB9.2.weaken (fun _ q _ h => hFc q.1 h)) rfl
  have hk11y := f3_0
  have hk11n := f3_1
  refine lv_if_eq (tgt := 19) hx hb dX0_core_14 (by decide) (fun c_14 => ?_) (fun c_14 => ?_)
  · have t_14 : r3.toInt = 0 := toI_eq c_14 rfl (by decide : (0 : Int32).toInt = 0)
    have hnc : ¬ cCan (iC_clauses.toInt, fC_wants, fC_wantsNot, fC_weight) (cFull iC_clauses.toInt.toNat) := (by rw [← eF]; exact hk11n t_14)
    refine lv_aload_n hx hb dX0_core_19 rfl (lv_at hl 1 rfl) ?_
    refine va_get (D := (dC, dI)) (ci := 0) (v := .int iC_clauses) (C := RX0) (T := TX0) (N := 7) hx hb hts iwsMX0_core_in0 hown hK hP 0 rfl rfl 0 (by decide) (hts _ hm_m_X0_core_0) (fun _ h9 => h9) rfl dX0_core_20 ?_
    refine lv_iconst (v := 1) hx hb dX0_core_23 (by decide) ?_
    refine lv_isub hx hb dX0_core_24 ?_
    refine lv_topi (fun y4 hy4 => ?_)
    obtain rfl : (iI (iC_clauses.toInt - 1)) = y4 := (hy4.trans (iI_sub2 (iI_of _) (by decide : (1 : Int32) = iI 1))).symm
    refine lv_istore_n hx hb dX0_core_25 rfl hl (by decide) rfl (fun ls (hl : lv_has ls _ ([(2, .int (iI (iC_clauses.toInt - 1))), (1, .int (iI (v1.toInt - 1))), (0, .ref (hC 0))])) => ?_)
    have hl : lv_has _ _ ([(2, .int (iI (iC_clauses.toInt - 1))), (1, .int (iI (v1.toInt - 1))), (0, .ref (hC 0))]) := lv_sub hl [0, 1, 2] rfl
    refine (fun (loop : ∀ (n9 : Nat) (l2_x26 : Int32) (l1_x26 : Int32) (H : Heap) (locs : List Loc) (ls : Array Slot), ((-1) ≤ l2_x26.toInt ∧ l2_x26.toInt ≤ 23) → (∀ r, cCore (iC_clauses.toInt, fC_wants, fC_wantsNot, fC_weight) (l2_x26.toInt + 1).toNat l1_x26 r → cCore (iC_clauses.toInt, fC_wants, fC_wantsNot, fC_weight) iC_clauses.toInt.toNat (cFull iC_clauses.toInt.toNat) r) → (l2_x26.toInt - (-1) < ((n9 : Nat) : Int)) → va_P (dC, dI) vwCl (WC hC aC kC iC_clauses fC_wants fC_wantsNot fC_weight fC_broken fC_loss iC_musts) H → va_D A (WC hC aC kC iC_clauses fC_wants fC_wantsNot fC_weight fC_broken fC_loss iC_musts) → va_S A s.heap H locs → lv_has ls 4 [(2, .int l2_x26), (1, .int l1_x26), (0, .ref (hC 0))] → W p l e _ s m _ below meth c H locs 0 0 _ (F0 m 26 ls [])) => loop (25) (iI (iC_clauses.toInt - 1)) (iI (v1.toInt - 1)) _ _ _ (iI_rng (Int.le_trans (by decide) (Int.sub_le_sub (b_iC_clauses.1) (Int.le_refl _))) (Int.le_trans (Int.sub_le_sub (b_iC_clauses.2) (Int.le_refl _)) (by decide)) (by decide) (by decide)) (show ∀ r, cCore (iC_clauses.toInt, fC_wants, fC_wantsNot, fC_weight) ((iI (iC_clauses.toInt - 1)).toInt + 1).toNat (iI (v1.toInt - 1)) r → cCore (iC_clauses.toInt, fC_wants, fC_wantsNot, fC_weight) iC_clauses.toInt.toNat (cFull iC_clauses.toInt.toNat) r from by rw [eF, iI_t (by omega) (by omega), show (iC_clauses.toInt - 1 + 1).toNat = iC_clauses.toInt.toNat from by omega]; exact fun _ h9 => h9) ((by have e9 : ((iI (iC_clauses.toInt - 1))).toInt = (iC_clauses.toInt - 1) := (iI_t (Int.le_trans (by decide) (Int.sub_le_sub (b_iC_clauses.1) (Int.le_refl _))) (Int.le_trans (Int.sub_le_sub (b_iC_clauses.2) (Int.le_refl _)) (by decide))); omega)) hP hD hS hl) ?_
    intro n9
    induction n9 with
    | zero => intro l2_x26 l1_x26 H locs ls b_l2_x26 hO hf9; exact False.elim (by omega)
    | succ n9 ihx26 =>
      intro l2_x26 l1_x26 H locs ls b_l2_x26 hO hfx26 hP hD hS hl
      refine lv_iload_n hx hb dX0_core_26 rfl (lv_at hl 0 rfl) ?_
      refine lv_if_lt (tgt := 54) hx hb dX0_core_27 (by decide) (fun c_27 => ?_) (fun c_27 => ?_)
      · have t_27 : l2_x26.toInt < 0 := toI_lt c_27 rfl (by decide : (0 : Int32).toInt = 0)
        refine lv_iload_n hx hb dX0_core_54 rfl (lv_at hl 1 rfl) ?_
        refine W.widen (k := 0) (n := 0) (by decide +kernel) (by decide +kernel) ?_
        exact W.iret (v := l1_x26) hx hb hr (fun t9_ ht hW => ⟨⟨l1_x26, (), rfl, (by (try dsimp only); exact Or.inr ⟨hnc, cCore.e hO (by omega)⟩), by rw [ht]; exact hP, hD⟩, hS.F ht⟩) hS.2.2 dX0_core_55
      · have t_27 : ¬ l2_x26.toInt < 0 := toI_nlt c_27 rfl (by decide : (0 : Int32).toInt = 0)
        refine lv_iload_n hx hb dX0_core_30 rfl (lv_at hl 1 rfl) ?_
        refine lv_iconst (v := 1) hx hb dX0_core_31 (by decide) ?_
        refine lv_iload_n hx hb dX0_core_32 rfl (lv_at hl 0 rfl) ?_
        refine lv_ishl hx hb dX0_core_33 ?_
        refine lv_topi (fun v25 hv25 => ?_)
        have b_v25 : v25 = (1 : Int32) <<< (l2_x26 &&& 31) := hv25
        clear hv25
        refine lv_iconst (v := (-1)) hx hb dX0_core_34 (by decide) ?_
        refine lv_ixor hx hb dX0_core_35 ?_
        refine lv_topi (fun v26 hv26 => ?_)
        have b_v26 : v26 = v25 ^^^ ((-1) : Int32) := hv26
        clear hv26
        refine lv_iand hx hb dX0_core_36 ?_
        refine lv_topi (fun v27 hv27 => ?_)
        have b_v27 : v27 = l1_x26 &&& v26 := hv27
        clear hv27
        refine lv_istore_n hx hb dX0_core_37 rfl hl (by decide) rfl (fun ls (hl : lv_has ls _ ([(3, .int v27), (2, .int l2_x26), (1, .int l1_x26), (0, .ref (hC 0))])) => ?_)
        have eL : v27 = cLess l1_x26 l2_x26.toInt.toNat := cLess_of (by omega) (by rw [b_v27, b_v26, b_v25])
        refine lv_aload_n hx hb dX0_core_38 rfl (lv_at hl 3 rfl) ?_
        refine lv_iload_n hx hb dX0_core_39 rfl (lv_at hl 0 rfl) ?_
        have hFc := allFree hD hS hA
        refine va_calli (va_runV (As := [.int v27]) (rest := []) ⟨hx, hb, hml, hown, hts⟩ (m_X0_canKeep l dC dI hC aC kC iC_clauses fC_wants fC_wantsNot fC_weight fC_broken fC_loss iC_musts v27 (b_iC_clauses) (hCv) (hCI) H.size) (cwV 1 hts gwsMX0_core_0 rfl rfl rfl hd_yX0_canKeep_RX0 (by decide +kernel)) (fz_pre (va_recv hK hP (ci := 0) (q0 := 0) rfl rfl) hP hK hD) rfl rfl hl.1 rfl (lv_room (Nat.le_of_ble_eq_true rfl)) dX0_core_40 (by decide +kernel)) hS (fun q _ h => hFc q h) hFc (fun r28 u t9_ H locs ht hvm hw9 hB9 hz1 hk1 hS => ?_)
        revert hw9
        refine fz_a3 ?_
        intro b_r28 f28_0 f28_1
        have hP : va_P (dC, dI) vwCl (WC hC aC kC iC_clauses fC_wants fC_wantsNot fC_weight fC_broken fC_loss iC_musts) H := fz_P ht hB9.1
        have hD := fz_sd hP (hB9.2.weaken (fun _ q _ h => hFc q.1 h)) rfl
        have hk40y := f28_0
        have hk40n := f28_1
        refine W.cut (pc := 48) (fun H locs ls stk => ∃ (l1_j12 : Int32), (∀ r, cCore (iC_clauses.toInt, fC_wants, fC_wantsNot, fC_weight) l2_x26.toInt.toNat l1_j12 r → cCore (iC_clauses.toInt, fC_wants, fC_wantsNot, fC_weight) iC_clauses.toInt.toNat (cFull iC_clauses.toInt.toNat) r) ∧  stk = [] ∧ va_P (dC, dI) vwCl (WC hC aC kC iC_clauses fC_wants fC_wantsNot fC_weight fC_broken fC_loss iC_musts) H ∧ va_D A (WC hC aC kC iC_clauses fC_wants fC_wantsNot fC_weight fC_broken fC_loss iC_musts) ∧ va_S A s.heap H locs ∧ lv_has ls 4 [(3, .int v27), (2, .int l2_x26), (1, .int l1_j12), (0, .ref (hC 0))]) (fun join12 => ?_) ?_
        · refine lv_if_ne (tgt := 48) hx hb dX0_core_43 (by decide) (fun c_43 => ?_) (fun c_43 => ?_)
          · have t_43 : r28.toInt ≠ 0 := toI_ne c_43 rfl (by decide : (0 : Int32).toInt = 0)
            have hl : lv_has _ _ ([(3, .int v27), (2, .int l2_x26), (1, .int l1_x26), (0, .ref (hC 0))]) := lv_sub hl [0, 1, 2, 3] rfl
            exact join12 _ _ _ _ ⟨l1_x26, (show ∀ r, cCore (iC_clauses.toInt, fC_wants, fC_wantsNot, fC_weight) l2_x26.toInt.toNat l1_x26 r → cCore (iC_clauses.toInt, fC_wants, fC_wantsNot, fC_weight) iC_clauses.toInt.toNat (cFull iC_clauses.toInt.toNat) r from by first | exact cCore.y hO (by omega) (by rw [← eL]; exact hk40y t_43) | exact cCore.n hO (by omega) eL (hk40n t_43)), rfl, hP, hD, hS, hl⟩
          · have t_43 : r28.toInt = 0 := toI_nne c_43 rfl (by decide : (0 : Int32).toInt = 0)
            refine lv_iload_n hx hb dX0_core_46 rfl (lv_at hl 0 rfl) ?_
            refine lv_istore_n hx hb dX0_core_47 rfl hl (by decide) rfl (fun ls (hl : lv_has ls _ ([(1, .int v27), (3, .int v27), (2, .int l2_x26), (0, .ref (hC 0))])) => ?_)
            have hl : lv_has _ _ ([(3, .int v27), (2, .int l2_x26), (1, .int v27), (0, .ref (hC 0))]) := lv_sub hl [1, 2, 0, 3] rfl
            exact join12 _ _ _ _ ⟨v27, (show ∀ r, cCore (iC_clauses.toInt, fC_wants, fC_wantsNot, fC_weight) l2_x26.toInt.toNat v27 r → cCore (iC_clauses.toInt, fC_wants, fC_wantsNot, fC_weight) iC_clauses.toInt.toNat (cFull iC_clauses.toInt.toNat) r from by first | exact cCore.y hO (by omega) (by rw [← eL]; exact hk40y t_43) | exact cCore.n hO (by omega) eL (hk40n t_43)), rfl, hP, hD, hS, hl⟩
        · rintro H locs ls stk ⟨l1_j12, hO2, rfl, hP, hD, hS, hl⟩
          refine lv_iinc (v := (iI (l2_x26.toInt + (-1)))) hx hb dX0_core_48 hl (k := 1) rfl (iI_add2 (iI_of _) (by decide : ((-1) : Int32) = iI (-1))) (by decide) rfl (fun ls (hl : lv_has ls _ ([(2, .int (iI (l2_x26.toInt + (-1)))), (3, .int v27), (1, .int l1_j12), (0, .ref (hC 0))])) => ?_)
          refine lv_goto (tgt := 26) hx hb dX0_core_51 (by decide) ?_
          have hl : lv_has _ _ ([(2, .int (iI (l2_x26.toInt + (-1)))), (1, .int l1_j12), (0, .ref (hC 0))]) := lv_sub hl [0, 2, 3] rfl
          exact ihx26 (iI (l2_x26.toInt + (-1))) l1_j12 _ _ _ (iI_rng (by omega) (Int.le_trans (Int.add_le_add (b_l2_x26.2) (Int.le_refl _)) (by decide)) (by decide) (by decide)) (show ∀ r, cCore (iC_clauses.toInt, fC_wants, fC_wantsNot, fC_weight) ((iI (l2_x26.toInt + (-1))).toInt + 1).toNat l1_j12 r → cCore (iC_clauses.toInt, fC_wants, fC_wantsNot, fC_weight) iC_clauses.toInt.toNat (cFull iC_clauses.toInt.toNat) r from by rw [iI_t (by omega) (by omega), show (l2_x26.toInt + -1 + 1).toNat = l2_x26.toInt.toNat from by omega]; exact hO2) (by have e9 : ((iI (l2_x26.toInt + (-1)))).toInt = (l2_x26.toInt + (-1)) := (iI_t (Int.le_trans (by decide) (Int.add_le_add (b_l2_x26.1) (Int.le_refl _))) (Int.le_trans (Int.add_le_add (b_l2_x26.2) (Int.le_refl _)) (by decide))); omega) hP hD hS hl
  · have t_14 : ¬ r3.toInt = 0 := toI_neq c_14 rfl (by decide : (0 : Int32).toInt = 0)
    refine lv_iconst (v := 0) hx hb dX0_core_17 (by decide) ?_
    refine W.widen (k := 0) (n := 0) (by decide +kernel) (by decide +kernel) ?_
    exact W.iret (v := 0) hx hb hr (fun t9_ ht hW => ⟨⟨(0 : Int32), (), rfl, (by (try dsimp only); exact Or.inl ⟨by rw [← eF]; exact hk11y t_14, rfl⟩), by rw [ht]; exact hP, hD⟩, hS.F ht⟩) hS.2.2 dX0_core_18
end
section
/-! rules and members, for the desk of values -/
def RuV (k a b c lh : Nat → Int32) : Prop := ∀ r : Nat, ((k r).toInt = 1 → (0 ≤ (a r).toInt ∧ (a r).toInt ≤ 9) ∧ 0 ≤ (c r).toInt ∧ (c r).toInt ≤ 9) ∧ ((k r).toInt = 4 → (0 ≤ (a r).toInt ∧ (a r).toInt ≤ 9) ∧ (0 ≤ (b r).toInt ∧ (b r).toInt ≤ 9) ∧ (a r).toInt ≤ (lh r).toInt ∧ (b r).toInt ≤ (lh r).toInt)
theorem RuV.set {k a b c lh : Nat → Int32} (h : RuV k a b c lh) {k' a' b' c' lh' : Nat → Int32} {n : Nat} {x p q r m : Int32} (h1 : k' = upd k n x) (h2 : a' = upd a n p) (h3 : b' = upd b n q) (h4 : c' = upd c n r) (h5 : lh' = upd lh n m) (hx : (x.toInt = 1 → (0 ≤ p.toInt ∧ p.toInt ≤ 9) ∧ 0 ≤ r.toInt ∧ r.toInt ≤ 9) ∧ (x.toInt = 4 → (0 ≤ p.toInt ∧ p.toInt ≤ 9) ∧ (0 ≤ q.toInt ∧ q.toInt ≤ 9) ∧ p.toInt ≤ m.toInt ∧ q.toInt ≤ m.toInt)) : RuV k' a' b' c' lh' := fun j => by
  subst h1; subst h2; subst h3; subst h4; subst h5
  by_cases e : j = n
  · rw [e, pk_us, pk_us, pk_us, pk_us, pk_us]; exact hx
  · rw [pk_un e, pk_un e, pk_un e, pk_un e, pk_un e]; exact h j
def MemO (f : Nat → Int32) (n : Int) : Prop := ∀ q : Nat, (q : Int) < n → 0 ≤ (f q).toInt ∧ (f q).toInt ≤ 9
theorem MemO.push {f f' : Nat → Int32} {n n' x : Int32} (h : MemO f n.toInt) (hf : f' = upd f n.toNatClampNeg x) (hx : 0 ≤ x.toInt ∧ x.toInt ≤ 9) (h0 : 0 ≤ n.toInt) (hn : n'.toInt = n.toInt + 1) : MemO f' n'.toInt := fun q hq => by
  have hc : n.toNatClampNeg = n.toInt.toNat := rfl
  rw [hf, hc]
  by_cases e : q = n.toInt.toNat
  · rw [e, pk_us]; exact hx
  · rw [pk_un e]; exact h q (by omega)
theorem MemO.at {f : Nat → Int32} {n : Int} {i : Int32} (h : MemO f n) (h0 : 0 ≤ i.toInt) (h1 : i.toInt < n) : 0 ≤ (f i.toNatClampNeg).toInt ∧ (f i.toNatClampNeg).toInt ≤ 9 := h i.toInt.toNat (by omega)
theorem MemO.zero {f : Nat → Int32} {n : Int32} (h : n.toInt ≤ 0) : MemO f n.toInt := fun q hq => by omega
/-- values up to a holder are chosen -/
def MemC (f : Nat → Int32) (n : Int) : Prop := ∀ q : Nat, (q : Int) < n → 0 ≤ (f q).toInt
theorem MemC.set {f f' : Nat → Int32} {n x : Int32} {m : Int} (h : MemC f n.toInt) (hf : f' = upd f n.toNatClampNeg x) (h0 : 0 ≤ n.toInt) (hx : 0 ≤ x.toInt) (hm : m = n.toInt + 1) : MemC f' m := fun q hq => by
  have hc : n.toNatClampNeg = n.toInt.toNat := rfl
  rw [hf, hc]
  by_cases e : q = n.toInt.toNat
  · rw [e, pk_us]; exact hx
  · rw [pk_un e]; exact h q (by omega)
theorem MemC.any {f f' : Nat → Int32} {n x : Int32} {k m : Int} (h : MemC f k) (hf : f' = upd f n.toNatClampNeg x) (h0 : 0 ≤ n.toInt) (hm : m ≤ n.toInt) (hk : m ≤ k) : MemC f' m := fun q hq => by
  have hc : n.toNatClampNeg = n.toInt.toNat := rfl
  rw [hf, hc, pk_un (by omega)]
  exact h q (by omega)
theorem MemC.less {f : Nat → Int32} {k m : Int} (h : MemC f k) (hk : m ≤ k) : MemC f m := fun q hq => h q (by omega)
end
section
theorem hd_yX7_change_RX7 : yX7_change.cls = RX7 ∧ yX7_change.cls ≠ "java/lang/invoke/MethodHandle" ∧ yX7_change.cls ≠ "java/lang/invoke/VarHandle" ∧ (parseMethodDescriptor yX7_change.desc).map (fun d => d.parameters.length) = some 0 := by decide +kernel
theorem hd_yX7_isSet_RX7 : yX7_isSet.cls = RX7 ∧ yX7_isSet.cls ≠ "java/lang/invoke/MethodHandle" ∧ yX7_isSet.cls ≠ "java/lang/invoke/VarHandle" ∧ (parseMethodDescriptor yX7_isSet.desc).map (fun d => d.parameters.length) = some 1 := by decide +kernel
theorem hd_yX7_isHolder_RX7 : yX7_isHolder.cls = RX7 ∧ yX7_isHolder.cls ≠ "java/lang/invoke/MethodHandle" ∧ yX7_isHolder.cls ≠ "java/lang/invoke/VarHandle" ∧ (parseMethodDescriptor yX7_isHolder.desc).map (fun d => d.parameters.length) = some 1 := by decide +kernel
def WV (hV : Nat → Nat) (aV : Nat → Nat) (kV : Nat → ClassId) (iV_holders : Int32) (iV_rules : Int32) (fV_pairs : Nat → Int32) (fV_domain : Nat → Int32) (fV_kind : Nat → Int32) (fV_a : Nat → Int32) (fV_b : Nat → Int32) (fV_c : Nat → Int32) (fV_rulePairs : Nat → Int32) (fV_lastHolder : Nat → Int32) (fV_now : Nat → Int32) (iV_doneFor : Int32) (iV_changed : Int32) (gV_fore : Nat → Int64) (gV_back : Nat → Int64) (fV_together : Nat → Int32) (fV_member : Nat → Int32) (gV_list : Nat → Int64) (dV_list : Nat) (nV_list : Nat) (iV_listed : Int32) (iV_listDone : Int32) : va_W := [(hV 0, .inr (7, [.int iV_holders, .int iV_rules, .ref (aV 0), .ref (aV 1), .ref (aV 2), .ref (aV 3), .ref (aV 4), .ref (aV 5), .ref (aV 6), .ref (aV 7), .ref (aV 8), .int iV_doneFor, .int iV_changed, .ref (aV 9), .ref (aV 10), .ref (aV 11), .ref (aV 12), .ref dV_list, .int iV_listed, .int iV_listDone])), (aV 0, .inl (kV 0, 16, .inl fV_pairs)), (aV 1, .inl (kV 1, 10, .inl fV_domain)), (aV 2, .inl (kV 2, 12, .inl fV_kind)), (aV 3, .inl (kV 3, 12, .inl fV_a)), (aV 4, .inl (kV 4, 12, .inl fV_b)), (aV 5, .inl (kV 5, 12, .inl fV_c)), (aV 6, .inl (kV 6, 192, .inl fV_rulePairs)), (aV 7, .inl (kV 7, 12, .inl fV_lastHolder)), (aV 8, .inl (kV 8, 10, .inl fV_now)), (aV 9, .inl (kV 9, 33, .inr (.inl gV_fore))), (aV 10, .inl (kV 10, 33, .inr (.inl gV_back))), (aV 11, .inl (kV 11, 1024, .inl fV_together)), (aV 12, .inl (kV 12, 10, .inl fV_member)), (dV_list, .inl (kV 13, nV_list, .inr (.inl gV_list)))]
def tV (kV : Nat → ClassId) : List (ClassId × FieldType) := [(kV 0, .int), (kV 1, .int), (kV 2, .int), (kV 3, .int), (kV 4, .int), (kV 5, .int), (kV 6, .int), (kV 7, .int), (kV 8, .int), (kV 9, .long), (kV 10, .long), (kV 11, .int), (kV 12, .int), (kV 13, .long)]
theorem dX7_change_0 : decode cX7_change 0 = .ok (.aload_n 0, 1) := dk_42 (by decide +kernel)
theorem dX7_change_1 : decode cX7_change 1 = .ok (.iconst (-1), 1) := dk_2 (by decide +kernel)
theorem dX7_change_2 : decode cX7_change 2 = .ok (.putfield 39, 3) := dk_181 (by decide +kernel)
theorem dX7_change_5 : decode cX7_change 5 = .ok (.aload_n 0, 1) := dk_42 (by decide +kernel)
theorem dX7_change_6 : decode cX7_change 6 = .ok (.iconst 0, 1) := dk_3 (by decide +kernel)
theorem dX7_change_7 : decode cX7_change 7 = .ok (.putfield 68, 3) := dk_181 (by decide +kernel)
theorem dX7_change_10 : decode cX7_change 10 = .ok (.return_, 1) := dk_177 (by decide +kernel)
def wsMX7_change : List Cond := .code yX7_change cX7_change 1 none :: ([.fieldLink RX7 39 "OptimaWorks$ValueDesk" "doneFor" "I", .fieldLink RX7 68 "OptimaWorks$ValueDesk" "listDone" "Z"] ++ wsX70)
theorem iwsMX7_change_in7 : ∀ w ∈ wsX70, w ∈ wsMX7_change := fun _ h => List.mem_cons_of_mem _ (List.mem_append_right _ h)
theorem gdwsMX7_change : wsMX7_change.all goodWord = true := gdC rfl (gdA (by decide +kernel : ([.fieldLink RX7 39 "OptimaWorks$ValueDesk" "doneFor" "I", .fieldLink RX7 68 "OptimaWorks$ValueDesk" "listDone" "Z"] : List Cond).all goodWord = true) gdwsX70)
set_option maxHeartbeats 4000000 in
set_option maxRecDepth 100000 in
/-- something changed -/
theorem m_X7_change (l : Launch) (dC : Nat → ClassId) (dI : Nat → Nat → Nat) (hV : Nat → Nat) (aV : Nat → Nat) (kV : Nat → ClassId) (iV_holders : Int32) (iV_rules : Int32) (fV_pairs : Nat → Int32) (fV_domain : Nat → Int32) (fV_kind : Nat → Int32) (fV_a : Nat → Int32) (fV_b : Nat → Int32) (fV_c : Nat → Int32) (fV_rulePairs : Nat → Int32) (fV_lastHolder : Nat → Int32) (fV_now : Nat → Int32) (iV_doneFor : Int32) (iV_changed : Int32) (gV_fore : Nat → Int64) (gV_back : Nat → Int64) (fV_together : Nat → Int32) (fV_member : Nat → Int32) (gV_list : Nat → Int64) (dV_list : Nat) (nV_list : Nat) (iV_listed : Int32) (iV_listDone : Int32) (b_iV_holders : 0 ≤ iV_holders.toInt ∧ iV_holders.toInt ≤ 10) (b_iV_rules : 0 ≤ iV_rules.toInt ∧ iV_rules.toInt ≤ 12) (b_fV_kind : ∀ q : Nat, 0 ≤ (fV_kind q).toInt ∧ (fV_kind q).toInt ≤ 4) (b_iV_changed : 0 ≤ iV_changed.toInt ∧ iV_changed.toInt ≤ 1) (b_fV_member : ∀ q : Nat, (-1) ≤ (fV_member q).toInt ∧ (fV_member q).toInt ≤ 15) (b_nV_list : 0 ≤ nV_list ∧ nV_list ≤ 20000) (b_iV_listed : (-1) ≤ iV_listed.toInt ∧ iV_listed.toInt ≤ 5000) (b_iV_listDone : 0 ≤ iV_listDone.toInt ∧ iV_listDone.toInt ≤ 1) (b_RuV : RuV fV_kind fV_a fV_b fV_c fV_lastHolder) (b_lst : iV_listed.toInt ≤ ((nV_list : Nat) : Int)) (sz : Nat) : Met l yX7_change wsMX7_change ({ frames := 0, cells := 0, slots := 0, locals := 0 }) (va_Pc [.ref (hV 0)] (fun U => U.heap.size = sz ∧ va_P (dC, dI) vwCl (WV hV aV kV iV_holders iV_rules fV_pairs fV_domain fV_kind fV_a fV_b fV_c fV_rulePairs fV_lastHolder fV_now iV_doneFor iV_changed gV_fore gV_back fV_together fV_member gV_list dV_list nV_list iV_listed iV_listDone) U.heap ∧ va_K (dC, dI) vwCl (tV kV) U ∧ va_D (fun _ => True) (WV hV aV kV iV_holders iV_rules fV_pairs fV_domain fV_kind fV_a fV_b fV_c fV_rulePairs fV_lastHolder fV_now iV_doneFor iV_changed gV_fore gV_back fV_together fV_member gV_list dV_list nV_list iV_listed iV_listDone))) (va_Qv (fun (u : (Int32) × (Int32)) => (0 ≤ (u.2).toInt ∧ (u.2).toInt ≤ 1)) (fun (u : (Int32) × (Int32)) t => va_P (dC, dI) vwCl (WV hV aV kV iV_holders iV_rules fV_pairs fV_domain fV_kind fV_a fV_b fV_c fV_rulePairs fV_lastHolder fV_now (u.1) iV_changed gV_fore gV_back fV_together fV_member gV_list dV_list nV_list iV_listed (u.2)) t.heap ∧ va_D (va_A (WV hV aV kV iV_holders iV_rules fV_pairs fV_domain fV_kind fV_a fV_b fV_c fV_rulePairs fV_lastHolder fV_now iV_doneFor iV_changed gV_fore gV_back fV_together fV_member gV_list dV_list nV_list iV_listed iV_listDone) sz) (WV hV aV kV iV_holders iV_rules fV_pairs fV_domain fV_kind fV_a fV_b fV_c fV_rulePairs fV_lastHolder fV_now (u.1) iV_changed gV_fore gV_back fV_together fV_member gV_list dV_list nV_list iV_listed (u.2))) (va_A (WV hV aV kV iV_holders iV_rules fV_pairs fV_domain fV_kind fV_a fV_b fV_c fV_rulePairs fV_lastHolder fV_now iV_doneFor iV_changed gV_fore gV_back fV_together fV_member gV_list dV_list nV_list iV_listed iV_listDone) sz)) 0 0 (va_A (WV hV aV kV iV_holders iV_rules fV_pairs fV_domain fV_kind fV_a fV_b fV_c fV_rulePairs fV_lastHolder fV_now iV_doneFor iV_changed gV_fore gV_back fV_together fV_member gV_list dV_list nV_list iV_listed iV_listDone) sz) := by
  refine Met.ofW (cc := cX7_change) (maxL := 1) (ret := none) (by decide) rfl ?_
  intro p e s m args below meth c s₁ B hml hv
  obtain ⟨rfl, hsz, hP, hK, hD0⟩ := hv
  have hx := B.exec
  have hb := B.bytes
  have hr := B.returns
  have hts := atoms_spec (ws := wsMX7_change) B.pre
  have hown : s.vm.findClass RX7 = some m.cls := findClass_of_methodNamed B.named
  have hlocks := B.notSynchronized
  subst hsz
  have hD := hD0.self (sz := s.heap.size)
  generalize hAe : va_A (WV hV aV kV iV_holders iV_rules fV_pairs fV_domain fV_kind fV_a fV_b fV_c fV_rulePairs fV_lastHolder fV_now iV_doneFor iV_changed gV_fore gV_back fV_together fV_member gV_list dV_list nV_list iV_listed iV_listDone) s.heap.size = A at hD ⊢
  have hA : ∀ q : Nat, s.heap.size ≤ q → A q := fun q h => by rw [← hAe]; exact Or.inr h
  have hS : va_S A s.heap s.heap [] := va_S.rf
  have hl := lv_entry ([.ref (hV 0)]) (n := 1) (Nat.le_of_ble_eq_true rfl)
  rw [lg_entry_eq]
  generalize (lg_sl ([.ref (hV 0)]) ++ List.replicate (1 - (lg_sl ([.ref (hV 0)])).length) Slot.unset).toArray = ls at hl ⊢
  have hl : lv_has ls 1 [(0, .ref (hV 0))] := hl
  refine lv_aload_n hx hb dX7_change_0 rfl (lv_at hl 0 rfl) ?_
  refine lv_iconst (v := (-1)) hx hb dX7_change_1 (by decide) ?_
  refine va_put (D := (dC, dI)) (ci := 7) (v := .int (-1)) (ty := .int) (C := RX7) (T := TX7) (N := 20) hx hb hts iwsMX7_change_in7 tyX7 tyX7_ok nmX7 hown hK hP hD hS 0 rfl rfl 11 (by decide) (hts (.fieldLink RX7 39 "OptimaWorks$ValueDesk" "doneFor" "I") (by decide +kernel)) (fun _ h9 => h9) rfl (by decide +kernel) rfl rfl (Nat.le_of_ble_eq_true rfl) dX7_change_2 (fun H locs hP hD hS => ?_)
  have hP : va_P (dC, dI) vwCl (WV hV aV kV iV_holders iV_rules fV_pairs fV_domain fV_kind fV_a fV_b fV_c fV_rulePairs fV_lastHolder fV_now (-1) iV_changed gV_fore gV_back fV_together fV_member gV_list dV_list nV_list iV_listed iV_listDone) H := hP
  have hD := fz_sd hP (hD) rfl
  refine lv_aload_n hx hb dX7_change_5 rfl (lv_at hl 0 rfl) ?_
  refine lv_iconst (v := 0) hx hb dX7_change_6 (by decide) ?_
  refine va_put (D := (dC, dI)) (ci := 7) (v := .int 0) (ty := .boolean) (C := RX7) (T := TX7) (N := 20) hx hb hts iwsMX7_change_in7 tyX7 tyX7_ok nmX7 hown hK hP hD hS 0 rfl rfl 19 (by decide) (hts (.fieldLink RX7 68 "OptimaWorks$ValueDesk" "listDone" "Z") (by decide +kernel)) (fun _ h9 => h9) rfl (by decide +kernel) rfl rfl (Nat.le_of_ble_eq_true rfl) dX7_change_7 (fun H locs hP hD hS => ?_)
  have hP : va_P (dC, dI) vwCl (WV hV aV kV iV_holders iV_rules fV_pairs fV_domain fV_kind fV_a fV_b fV_c fV_rulePairs fV_lastHolder fV_now (-1) iV_changed gV_fore gV_back fV_together fV_member gV_list dV_list nV_list iV_listed 0) H := hP
  have hD := fz_sd hP (hD) rfl
  refine W.widen (k := 0) (n := 0) (by decide +kernel) (by decide +kernel) ?_
  exact W.vret hx hb hr (fun t9_ ht hW => ⟨⟨((-1), 0), rfl, (by (try dsimp only); exact (show 0 ≤ (0 : Int32).toInt ∧ (0 : Int32).toInt ≤ 1 from by decide)), by rw [ht]; exact hP, hD⟩, hS.F ht⟩) hS.2.2 dX7_change_10
theorem dX7_forget_0 : decode cX7_forget 0 = .ok (.aload_n 0, 1) := dk_42 (by decide +kernel)
theorem dX7_forget_1 : decode cX7_forget 1 = .ok (.iconst 0, 1) := dk_3 (by decide +kernel)
theorem dX7_forget_2 : decode cX7_forget 2 = .ok (.putfield 59, 3) := dk_181 (by decide +kernel)
theorem dX7_forget_5 : decode cX7_forget 5 = .ok (.aload_n 0, 1) := dk_42 (by decide +kernel)
theorem dX7_forget_6 : decode cX7_forget 6 = .ok (.iconst 0, 1) := dk_3 (by decide +kernel)
theorem dX7_forget_7 : decode cX7_forget 7 = .ok (.putfield 62, 3) := dk_181 (by decide +kernel)
theorem dX7_forget_10 : decode cX7_forget 10 = .ok (.aload_n 0, 1) := dk_42 (by decide +kernel)
theorem dX7_forget_11 : decode cX7_forget 11 = .ok (.invokevirtual 65, 3) := dk_182 (by decide +kernel)
theorem dX7_forget_14 : decode cX7_forget 14 = .ok (.return_, 1) := dk_177 (by decide +kernel)
def wsMX7_forget : List Cond := .code yX7_forget cX7_forget 1 none :: ([.fieldLink RX7 59 "OptimaWorks$ValueDesk" "holders" "I", .fieldLink RX7 62 "OptimaWorks$ValueDesk" "rules" "I"] ++ wsX70 ++ (wsV RX7 65 RX7 yX7_change wsMX7_change))
theorem iwsMX7_forget_in7 : ∀ w ∈ wsX70, w ∈ wsMX7_forget := fun _ h => List.mem_cons_of_mem _ (List.mem_append_left _ (List.mem_append_right _ h))
theorem gwsMX7_forget_0 : GoodIn wsMX7_forget (wsV RX7 65 RX7 yX7_change wsMX7_change) := goodIn_sub (fun _ h => List.mem_cons_of_mem _ (List.mem_append_right _ h)) (gdV (by decide +kernel) gdwsMX7_change)
theorem gdwsMX7_forget : wsMX7_forget.all goodWord = true := gdC rfl (gdA (gdA (by decide +kernel : ([.fieldLink RX7 59 "OptimaWorks$ValueDesk" "holders" "I", .fieldLink RX7 62 "OptimaWorks$ValueDesk" "rules" "I"] : List Cond).all goodWord = true) gdwsX70) (gdV (by decide +kernel) gdwsMX7_change))
set_option maxHeartbeats 4000000 in
set_option maxRecDepth 100000 in
/-- all forgotten -/
theorem m_X7_forget (l : Launch) (dC : Nat → ClassId) (dI : Nat → Nat → Nat) (hV : Nat → Nat) (aV : Nat → Nat) (kV : Nat → ClassId) (iV_holders : Int32) (iV_rules : Int32) (fV_pairs : Nat → Int32) (fV_domain : Nat → Int32) (fV_kind : Nat → Int32) (fV_a : Nat → Int32) (fV_b : Nat → Int32) (fV_c : Nat → Int32) (fV_rulePairs : Nat → Int32) (fV_lastHolder : Nat → Int32) (fV_now : Nat → Int32) (iV_doneFor : Int32) (iV_changed : Int32) (gV_fore : Nat → Int64) (gV_back : Nat → Int64) (fV_together : Nat → Int32) (fV_member : Nat → Int32) (gV_list : Nat → Int64) (dV_list : Nat) (nV_list : Nat) (iV_listed : Int32) (iV_listDone : Int32) (b_iV_holders : 0 ≤ iV_holders.toInt ∧ iV_holders.toInt ≤ 10) (b_iV_rules : 0 ≤ iV_rules.toInt ∧ iV_rules.toInt ≤ 12) (b_fV_kind : ∀ q : Nat, 0 ≤ (fV_kind q).toInt ∧ (fV_kind q).toInt ≤ 4) (b_iV_changed : 0 ≤ iV_changed.toInt ∧ iV_changed.toInt ≤ 1) (b_fV_member : ∀ q : Nat, (-1) ≤ (fV_member q).toInt ∧ (fV_member q).toInt ≤ 15) (b_nV_list : 0 ≤ nV_list ∧ nV_list ≤ 20000) (b_iV_listed : (-1) ≤ iV_listed.toInt ∧ iV_listed.toInt ≤ 5000) (b_iV_listDone : 0 ≤ iV_listDone.toInt ∧ iV_listDone.toInt ≤ 1) (b_RuV : RuV fV_kind fV_a fV_b fV_c fV_lastHolder) (b_lst : iV_listed.toInt ≤ ((nV_list : Nat) : Int)) (sz : Nat) : Met l yX7_forget wsMX7_forget ({ frames := 1, cells := 0, slots := 0, locals := 20 }) (va_Pc [.ref (hV 0)] (fun U => U.heap.size = sz ∧ va_P (dC, dI) vwCl (WV hV aV kV iV_holders iV_rules fV_pairs fV_domain fV_kind fV_a fV_b fV_c fV_rulePairs fV_lastHolder fV_now iV_doneFor iV_changed gV_fore gV_back fV_together fV_member gV_list dV_list nV_list iV_listed iV_listDone) U.heap ∧ va_K (dC, dI) vwCl (tV kV) U ∧ va_D (fun _ => True) (WV hV aV kV iV_holders iV_rules fV_pairs fV_domain fV_kind fV_a fV_b fV_c fV_rulePairs fV_lastHolder fV_now iV_doneFor iV_changed gV_fore gV_back fV_together fV_member gV_list dV_list nV_list iV_listed iV_listDone))) (va_Qv (fun (u : (Int32) × (Int32) × (Int32) × (Int32)) => (0 ≤ (u.1).toInt ∧ (u.1).toInt ≤ 10) ∧ (0 ≤ (u.2.1).toInt ∧ (u.2.1).toInt ≤ 12) ∧ (0 ≤ (u.2.2.2).toInt ∧ (u.2.2.2).toInt ≤ 1) ∧ ((u.1).toInt = 0) ∧ ((u.2.1).toInt = 0)) (fun (u : (Int32) × (Int32) × (Int32) × (Int32)) t => va_P (dC, dI) vwCl (WV hV aV kV (u.1) (u.2.1) fV_pairs fV_domain fV_kind fV_a fV_b fV_c fV_rulePairs fV_lastHolder fV_now (u.2.2.1) iV_changed gV_fore gV_back fV_together fV_member gV_list dV_list nV_list iV_listed (u.2.2.2)) t.heap ∧ va_D (va_A (WV hV aV kV iV_holders iV_rules fV_pairs fV_domain fV_kind fV_a fV_b fV_c fV_rulePairs fV_lastHolder fV_now iV_doneFor iV_changed gV_fore gV_back fV_together fV_member gV_list dV_list nV_list iV_listed iV_listDone) sz) (WV hV aV kV (u.1) (u.2.1) fV_pairs fV_domain fV_kind fV_a fV_b fV_c fV_rulePairs fV_lastHolder fV_now (u.2.2.1) iV_changed gV_fore gV_back fV_together fV_member gV_list dV_list nV_list iV_listed (u.2.2.2))) (va_A (WV hV aV kV iV_holders iV_rules fV_pairs fV_domain fV_kind fV_a fV_b fV_c fV_rulePairs fV_lastHolder fV_now iV_doneFor iV_changed gV_fore gV_back fV_together fV_member gV_list dV_list nV_list iV_listed iV_listDone) sz)) 0 0 (va_A (WV hV aV kV iV_holders iV_rules fV_pairs fV_domain fV_kind fV_a fV_b fV_c fV_rulePairs fV_lastHolder fV_now iV_doneFor iV_changed gV_fore gV_back fV_together fV_member gV_list dV_list nV_list iV_listed iV_listDone) sz) := by
  refine Met.ofW (cc := cX7_forget) (maxL := 1) (ret := none) (by decide) rfl ?_
  intro p e s m args below meth c s₁ B hml hv
  obtain ⟨rfl, hsz, hP, hK, hD0⟩ := hv
  have hx := B.exec
  have hb := B.bytes
  have hr := B.returns
  have hts := atoms_spec (ws := wsMX7_forget) B.pre
  have hown : s.vm.findClass RX7 = some m.cls := findClass_of_methodNamed B.named
  have hlocks := B.notSynchronized
  subst hsz
  have hD := hD0.self (sz := s.heap.size)
  generalize hAe : va_A (WV hV aV kV iV_holders iV_rules fV_pairs fV_domain fV_kind fV_a fV_b fV_c fV_rulePairs fV_lastHolder fV_now iV_doneFor iV_changed gV_fore gV_back fV_together fV_member gV_list dV_list nV_list iV_listed iV_listDone) s.heap.size = A at hD ⊢
  have hA : ∀ q : Nat, s.heap.size ≤ q → A q := fun q h => by rw [← hAe]; exact Or.inr h
  have hS : va_S A s.heap s.heap [] := va_S.rf
  have hl := lv_entry ([.ref (hV 0)]) (n := 1) (Nat.le_of_ble_eq_true rfl)
  rw [lg_entry_eq]
  generalize (lg_sl ([.ref (hV 0)]) ++ List.replicate (1 - (lg_sl ([.ref (hV 0)])).length) Slot.unset).toArray = ls at hl ⊢
  have hl : lv_has ls 1 [(0, .ref (hV 0))] := hl
  refine lv_aload_n hx hb dX7_forget_0 rfl (lv_at hl 0 rfl) ?_
  refine lv_iconst (v := 0) hx hb dX7_forget_1 (by decide) ?_
  refine va_put (D := (dC, dI)) (ci := 7) (v := .int 0) (ty := .int) (C := RX7) (T := TX7) (N := 20) hx hb hts iwsMX7_forget_in7 tyX7 tyX7_ok nmX7 hown hK hP hD hS 0 rfl rfl 0 (by decide) (hts (.fieldLink RX7 59 "OptimaWorks$ValueDesk" "holders" "I") (by decide +kernel)) (fun _ h9 => h9) rfl (by decide +kernel) rfl rfl (Nat.le_of_ble_eq_true rfl) dX7_forget_2 (fun H locs hP hD hS => ?_)
  have hP : va_P (dC, dI) vwCl (WV hV aV kV 0 iV_rules fV_pairs fV_domain fV_kind fV_a fV_b fV_c fV_rulePairs fV_lastHolder fV_now iV_doneFor iV_changed gV_fore gV_back fV_together fV_member gV_list dV_list nV_list iV_listed iV_listDone) H := hP
  have hD := fz_sd hP (hD) rfl
  refine lv_aload_n hx hb dX7_forget_5 rfl (lv_at hl 0 rfl) ?_
  refine lv_iconst (v := 0) hx hb dX7_forget_6 (by decide) ?_
  refine va_put (D := (dC, dI)) (ci := 7) (v := .int 0) (ty := .int) (C := RX7) (T := TX7) (N := 20) hx hb hts iwsMX7_forget_in7 tyX7 tyX7_ok nmX7 hown hK hP hD hS 0 rfl rfl 1 (by decide) (hts (.fieldLink RX7 62 "OptimaWorks$ValueDesk" "rules" "I") (by decide +kernel)) (fun _ h9 => h9) rfl (by decide +kernel) rfl rfl (Nat.le_of_ble_eq_true rfl) dX7_forget_7 (fun H locs hP hD hS => ?_)
  have hP : va_P (dC, dI) vwCl (WV hV aV kV 0 0 fV_pairs fV_domain fV_kind fV_a fV_b fV_c fV_rulePairs fV_lastHolder fV_now iV_doneFor iV_changed gV_fore gV_back fV_together fV_member gV_list dV_list nV_list iV_listed iV_listDone) H := hP
  have hD := fz_sd hP (hD) rfl
  refine lv_aload_n hx hb dX7_forget_10 rfl (lv_at hl 0 rfl) ?_
  have hFc := allFree hD hS hA
  refine va_callv (va_runV (As := []) (rest := []) ⟨hx, hb, hml, hown, hts⟩ (m_X7_change l dC dI hV aV kV 0 0 fV_pairs fV_domain fV_kind fV_a fV_b fV_c fV_rulePairs fV_lastHolder fV_now iV_doneFor iV_changed gV_fore gV_back fV_together fV_member gV_list dV_list nV_list iV_listed iV_listDone (show 0 ≤ (0 : Int32).toInt ∧ (0 : Int32).toInt ≤ 10 from by decide) (show 0 ≤ (0 : Int32).toInt ∧ (0 : Int32).toInt ≤ 12 from by decide) b_fV_kind (b_iV_changed) b_fV_member (by first | exact b_nV_list | with_reducible assumption | exact ⟨by omega, by omega⟩ | assumption) (b_iV_listed) (b_iV_listDone) (by first | with_reducible assumption | omega | assumption) (by first | with_reducible assumption | omega | assumption) H.size) (cwV 0 hts gwsMX7_forget_0 rfl rfl rfl hd_yX7_change_RX7 (by decide +kernel)) (fz_pre (va_recv hK hP (ci := 7) (q0 := 0) rfl rfl) hP hK hD) rfl rfl hl.1 rfl (lv_room (Nat.le_of_ble_eq_true rfl)) dX7_forget_11 (by decide +kernel)) hS (fun q _ h => hFc q h) hFc (fun u t9_ H locs ht hvm hw9 hB9 hz1 hk1 hS => ?_)
  revert u hw9 hB9
  refine fz_p2 ?_
  intro iV_doneFor_1 iV_listDone_1 hw9 hB9
  try dsimp only at hw9 hB9
  have b_iV_listDone_1 := hw9
  try dsimp only at b_iV_listDone_1
  have hP : va_P (dC, dI) vwCl (WV hV aV kV 0 0 fV_pairs fV_domain fV_kind fV_a fV_b fV_c fV_rulePairs fV_lastHolder fV_now iV_doneFor_1 iV_changed gV_fore gV_back fV_together fV_member gV_list dV_list nV_list iV_listed iV_listDone_1) H := fz_P ht hB9.1
  have hD := fz_sd hP (hB9.2.weaken (fun _ q _ h => hFc q.1 h)) rfl
  refine W.widen (k := 0) (n := 0) (by decide +kernel) (by decide +kernel) ?_
  exact W.vret hx hb hr (fun t9_ ht hW => ⟨⟨(0, 0, iV_doneFor_1, iV_listDone_1), rfl, ⟨(by (try dsimp only); exact (show 0 ≤ (0 : Int32).toInt ∧ (0 : Int32).toInt ≤ 10 from by decide)), (by (try dsimp only); exact (show 0 ≤ (0 : Int32).toInt ∧ (0 : Int32).toInt ≤ 12 from by decide)), (by (try dsimp only); exact (by first | exact b_iV_listDone_1 | with_reducible assumption | exact ⟨by omega, by omega⟩ | assumption)), (by (try dsimp only); decide), (by (try dsimp only); decide)⟩, by rw [ht]; exact hP, hD⟩, hS.F ht⟩) hS.2.2 dX7_forget_14
theorem dX7_isHolder_0 : decode cX7_isHolder 0 = .ok (.iload_n 1, 1) := dk_27 (by decide +kernel)
theorem dX7_isHolder_1 : decode cX7_isHolder 1 = .ok (.ifCond .lt 15, 3) := dk_155 (by decide +kernel)
theorem dX7_isHolder_4 : decode cX7_isHolder 4 = .ok (.iload_n 1, 1) := dk_27 (by decide +kernel)
theorem dX7_isHolder_5 : decode cX7_isHolder 5 = .ok (.aload_n 0, 1) := dk_42 (by decide +kernel)
theorem dX7_isHolder_6 : decode cX7_isHolder 6 = .ok (.getfield 59, 3) := dk_180 (by decide +kernel)
theorem dX7_isHolder_9 : decode cX7_isHolder 9 = .ok (.if_icmp .ge 7, 3) := dk_162 (by decide +kernel)
theorem dX7_isHolder_12 : decode cX7_isHolder 12 = .ok (.iconst 1, 1) := dk_4 (by decide +kernel)
theorem dX7_isHolder_13 : decode cX7_isHolder 13 = .ok (.goto 4, 3) := dk_167 (by decide +kernel)
theorem dX7_isHolder_16 : decode cX7_isHolder 16 = .ok (.iconst 0, 1) := dk_3 (by decide +kernel)
theorem dX7_isHolder_17 : decode cX7_isHolder 17 = .ok (.ireturn, 1) := dk_172 (by decide +kernel)
def wsMX7_isHolder : List Cond := .code yX7_isHolder cX7_isHolder 2 (some .boolean) :: ([.fieldLink RX7 59 "OptimaWorks$ValueDesk" "holders" "I"] ++ wsX70)
theorem iwsMX7_isHolder_in7 : ∀ w ∈ wsX70, w ∈ wsMX7_isHolder := fun _ h => List.mem_cons_of_mem _ (List.mem_append_right _ h)
theorem gdwsMX7_isHolder : wsMX7_isHolder.all goodWord = true := gdC rfl (gdA (by decide +kernel : ([.fieldLink RX7 59 "OptimaWorks$ValueDesk" "holders" "I"] : List Cond).all goodWord = true) gdwsX70)
set_option maxHeartbeats 4000000 in
set_option maxRecDepth 100000 in
/-- is it a holder -/
theorem m_X7_isHolder (l : Launch) (dC : Nat → ClassId) (dI : Nat → Nat → Nat) (hV : Nat → Nat) (aV : Nat → Nat) (kV : Nat → ClassId) (iV_holders : Int32) (iV_rules : Int32) (fV_pairs : Nat → Int32) (fV_domain : Nat → Int32) (fV_kind : Nat → Int32) (fV_a : Nat → Int32) (fV_b : Nat → Int32) (fV_c : Nat → Int32) (fV_rulePairs : Nat → Int32) (fV_lastHolder : Nat → Int32) (fV_now : Nat → Int32) (iV_doneFor : Int32) (iV_changed : Int32) (gV_fore : Nat → Int64) (gV_back : Nat → Int64) (fV_together : Nat → Int32) (fV_member : Nat → Int32) (gV_list : Nat → Int64) (dV_list : Nat) (nV_list : Nat) (iV_listed : Int32) (iV_listDone : Int32) (p1 : Int32) (b_iV_holders : 0 ≤ iV_holders.toInt ∧ iV_holders.toInt ≤ 10) (b_iV_rules : 0 ≤ iV_rules.toInt ∧ iV_rules.toInt ≤ 12) (b_fV_kind : ∀ q : Nat, 0 ≤ (fV_kind q).toInt ∧ (fV_kind q).toInt ≤ 4) (b_iV_changed : 0 ≤ iV_changed.toInt ∧ iV_changed.toInt ≤ 1) (b_fV_member : ∀ q : Nat, (-1) ≤ (fV_member q).toInt ∧ (fV_member q).toInt ≤ 15) (b_nV_list : 0 ≤ nV_list ∧ nV_list ≤ 20000) (b_iV_listed : (-1) ≤ iV_listed.toInt ∧ iV_listed.toInt ≤ 5000) (b_iV_listDone : 0 ≤ iV_listDone.toInt ∧ iV_listDone.toInt ≤ 1) (b_RuV : RuV fV_kind fV_a fV_b fV_c fV_lastHolder) (b_lst : iV_listed.toInt ≤ ((nV_list : Nat) : Int)) (sz : Nat) : Met l yX7_isHolder wsMX7_isHolder ({ frames := 0, cells := 0, slots := 0, locals := 0 }) (va_Pc [.ref (hV 0), .int p1] (fun U => U.heap.size = sz ∧ va_P (dC, dI) vwCl (WV hV aV kV iV_holders iV_rules fV_pairs fV_domain fV_kind fV_a fV_b fV_c fV_rulePairs fV_lastHolder fV_now iV_doneFor iV_changed gV_fore gV_back fV_together fV_member gV_list dV_list nV_list iV_listed iV_listDone) U.heap ∧ va_K (dC, dI) vwCl (tV kV) U ∧ va_D (fun _ => True) (WV hV aV kV iV_holders iV_rules fV_pairs fV_domain fV_kind fV_a fV_b fV_c fV_rulePairs fV_lastHolder fV_now iV_doneFor iV_changed gV_fore gV_back fV_together fV_member gV_list dV_list nV_list iV_listed iV_listDone))) (va_Qi (fun (r : Int32) (u : Unit) => (0 ≤ r.toInt ∧ r.toInt ≤ 1) ∧ (r.toInt ≠ 0 → 0 ≤ p1.toInt ∧ p1.toInt < iV_holders.toInt) ∧ ((r.toInt = 1 ∧ (0 ≤ p1.toInt ∧ p1.toInt < iV_holders.toInt)) ∨ (r.toInt = 0 ∧ ¬ (0 ≤ p1.toInt ∧ p1.toInt < iV_holders.toInt)))) (fun (u : Unit) t => va_P (dC, dI) vwCl (WV hV aV kV iV_holders iV_rules fV_pairs fV_domain fV_kind fV_a fV_b fV_c fV_rulePairs fV_lastHolder fV_now iV_doneFor iV_changed gV_fore gV_back fV_together fV_member gV_list dV_list nV_list iV_listed iV_listDone) t.heap ∧ va_D (va_A (WV hV aV kV iV_holders iV_rules fV_pairs fV_domain fV_kind fV_a fV_b fV_c fV_rulePairs fV_lastHolder fV_now iV_doneFor iV_changed gV_fore gV_back fV_together fV_member gV_list dV_list nV_list iV_listed iV_listDone) sz) (WV hV aV kV iV_holders iV_rules fV_pairs fV_domain fV_kind fV_a fV_b fV_c fV_rulePairs fV_lastHolder fV_now iV_doneFor iV_changed gV_fore gV_back fV_together fV_member gV_list dV_list nV_list iV_listed iV_listDone)) (va_A (WV hV aV kV iV_holders iV_rules fV_pairs fV_domain fV_kind fV_a fV_b fV_c fV_rulePairs fV_lastHolder fV_now iV_doneFor iV_changed gV_fore gV_back fV_together fV_member gV_list dV_list nV_list iV_listed iV_listDone) sz)) 0 0 (va_A (WV hV aV kV iV_holders iV_rules fV_pairs fV_domain fV_kind fV_a fV_b fV_c fV_rulePairs fV_lastHolder fV_now iV_doneFor iV_changed gV_fore gV_back fV_together fV_member gV_list dV_list nV_list iV_listed iV_listDone) sz) := by
  refine Met.ofW (cc := cX7_isHolder) (maxL := 2) (ret := (some .boolean)) (by decide) rfl ?_
  intro p e s m args below meth c s₁ B hml hv
  obtain ⟨rfl, hsz, hP, hK, hD0⟩ := hv
  have hx := B.exec
  have hb := B.bytes
  have hr := B.returns
  have hts := atoms_spec (ws := wsMX7_isHolder) B.pre
  have hown : s.vm.findClass RX7 = some m.cls := findClass_of_methodNamed B.named
  have hlocks := B.notSynchronized
  subst hsz
  have hD := hD0.self (sz := s.heap.size)
  generalize hAe : va_A (WV hV aV kV iV_holders iV_rules fV_pairs fV_domain fV_kind fV_a fV_b fV_c fV_rulePairs fV_lastHolder fV_now iV_doneFor iV_changed gV_fore gV_back fV_together fV_member gV_list dV_list nV_list iV_listed iV_listDone) s.heap.size = A at hD ⊢
  have hA : ∀ q : Nat, s.heap.size ≤ q → A q := fun q h => by rw [← hAe]; exact Or.inr h
  have hS : va_S A s.heap s.heap [] := va_S.rf
  have hl := lv_entry ([.ref (hV 0), .int p1]) (n := 2) (Nat.le_of_ble_eq_true rfl)
  rw [lg_entry_eq]
  generalize (lg_sl ([.ref (hV 0), .int p1]) ++ List.replicate (2 - (lg_sl ([.ref (hV 0), .int p1])).length) Slot.unset).toArray = ls at hl ⊢
  have hl : lv_has ls 2 [(0, .ref (hV 0)), (1, .int p1)] := hl
  refine lv_iload_n hx hb dX7_isHolder_0 rfl (lv_at hl 1 rfl) ?_
  refine W.cut (pc := 17) (fun H locs ls stk => ∃ (k0_j2 : Int32), (0 ≤ k0_j2.toInt ∧ k0_j2.toInt ≤ 1) ∧ (k0_j2.toInt ≠ 0 → 0 ≤ p1.toInt ∧ p1.toInt < iV_holders.toInt) ∧ ((k0_j2.toInt = 1 ∧ (0 ≤ p1.toInt ∧ p1.toInt < iV_holders.toInt)) ∨ (k0_j2.toInt = 0 ∧ ¬ (0 ≤ p1.toInt ∧ p1.toInt < iV_holders.toInt))) ∧  stk = [.int k0_j2] ∧ va_P (dC, dI) vwCl (WV hV aV kV iV_holders iV_rules fV_pairs fV_domain fV_kind fV_a fV_b fV_c fV_rulePairs fV_lastHolder fV_now iV_doneFor iV_changed gV_fore gV_back fV_together fV_member gV_list dV_list nV_list iV_listed iV_listDone) H ∧ va_D A (WV hV aV kV iV_holders iV_rules fV_pairs fV_domain fV_kind fV_a fV_b fV_c fV_rulePairs fV_lastHolder fV_now iV_doneFor iV_changed gV_fore gV_back fV_together fV_member gV_list dV_list nV_list iV_listed iV_listDone) ∧ va_S A s.heap H locs ∧ lv_has ls 2 [(0, .ref (hV 0)), (1, .int p1)]) (fun join2 => ?_) ?_
  · refine lv_if_lt (tgt := 16) hx hb dX7_isHolder_1 (by decide) (fun c_1 => ?_) (fun c_1 => ?_)
    · have t_1 : p1.toInt < 0 := toI_lt c_1 rfl (by decide : (0 : Int32).toInt = 0)
      refine lv_iconst (v := 0) hx hb dX7_isHolder_16 (by decide) ?_
      have hl : lv_has _ _ ([(0, .ref (hV 0)), (1, .int p1)]) := lv_sub hl [0, 1] rfl
      exact join2 _ _ _ _ ⟨0, (show 0 ≤ (0 : Int32).toInt ∧ (0 : Int32).toInt ≤ 1 from by decide), (show (0 : Int32).toInt ≠ 0 → 0 ≤ p1.toInt ∧ p1.toInt < iV_holders.toInt from by first | (intro h9; exact absurd (by decide) h9) | (intro h9; exact ⟨by omega, by omega⟩)), (show ((0 : Int32).toInt = 1 ∧ (0 ≤ p1.toInt ∧ p1.toInt < iV_holders.toInt)) ∨ ((0 : Int32).toInt = 0 ∧ ¬ (0 ≤ p1.toInt ∧ p1.toInt < iV_holders.toInt)) from by first | exact Or.inl ⟨by decide, by omega⟩ | exact Or.inr ⟨by decide, by omega⟩), rfl, hP, hD, hS, hl⟩
    · have t_1 : ¬ p1.toInt < 0 := toI_nlt c_1 rfl (by decide : (0 : Int32).toInt = 0)
      refine lv_iload_n hx hb dX7_isHolder_4 rfl (lv_at hl 1 rfl) ?_
      refine lv_aload_n hx hb dX7_isHolder_5 rfl (lv_at hl 0 rfl) ?_
      refine va_get (D := (dC, dI)) (ci := 7) (v := .int iV_holders) (C := RX7) (T := TX7) (N := 20) hx hb hts iwsMX7_isHolder_in7 hown hK hP 0 rfl rfl 0 (by decide) (hts (.fieldLink RX7 59 "OptimaWorks$ValueDesk" "holders" "I") (by decide +kernel)) (fun _ h9 => h9) rfl dX7_isHolder_6 ?_
      refine lv_icmp_ge (tgt := 16) hx hb dX7_isHolder_9 (by decide) (fun c_9 => ?_) (fun c_9 => ?_)
      · have t_9 : p1.toInt ≥ iV_holders.toInt := toI_ge c_9 rfl rfl
        refine lv_iconst (v := 0) hx hb dX7_isHolder_16 (by decide) ?_
        have hl : lv_has _ _ ([(0, .ref (hV 0)), (1, .int p1)]) := lv_sub hl [0, 1] rfl
        exact join2 _ _ _ _ ⟨0, (show 0 ≤ (0 : Int32).toInt ∧ (0 : Int32).toInt ≤ 1 from by decide), (show (0 : Int32).toInt ≠ 0 → 0 ≤ p1.toInt ∧ p1.toInt < iV_holders.toInt from by first | (intro h9; exact absurd (by decide) h9) | (intro h9; exact ⟨by omega, by omega⟩)), (show ((0 : Int32).toInt = 1 ∧ (0 ≤ p1.toInt ∧ p1.toInt < iV_holders.toInt)) ∨ ((0 : Int32).toInt = 0 ∧ ¬ (0 ≤ p1.toInt ∧ p1.toInt < iV_holders.toInt)) from by first | exact Or.inl ⟨by decide, by omega⟩ | exact Or.inr ⟨by decide, by omega⟩), rfl, hP, hD, hS, hl⟩
      · have t_9 : ¬ p1.toInt ≥ iV_holders.toInt := toI_nge c_9 rfl rfl
        refine lv_iconst (v := 1) hx hb dX7_isHolder_12 (by decide) ?_
        refine lv_goto (tgt := 17) hx hb dX7_isHolder_13 (by decide) ?_
        have hl : lv_has _ _ ([(0, .ref (hV 0)), (1, .int p1)]) := lv_sub hl [0, 1] rfl
        exact join2 _ _ _ _ ⟨1, (show 0 ≤ (1 : Int32).toInt ∧ (1 : Int32).toInt ≤ 1 from by decide), (show (1 : Int32).toInt ≠ 0 → 0 ≤ p1.toInt ∧ p1.toInt < iV_holders.toInt from by first | (intro h9; exact absurd (by decide) h9) | (intro h9; exact ⟨by omega, by omega⟩)), (show ((1 : Int32).toInt = 1 ∧ (0 ≤ p1.toInt ∧ p1.toInt < iV_holders.toInt)) ∨ ((1 : Int32).toInt = 0 ∧ ¬ (0 ≤ p1.toInt ∧ p1.toInt < iV_holders.toInt)) from by first | exact Or.inl ⟨by decide, by omega⟩ | exact Or.inr ⟨by decide, by omega⟩), rfl, hP, hD, hS, hl⟩
  · intro H locs ls stk
    refine fz_e1 ?_
    intro k0_j2
    refine fz_a8 ?_
    intro b_k0_j2 hj hj2 hst9_3 hP hD hS hl
    subst hst9_3
    refine W.widen (k := 0) (n := 0) (by decide +kernel) (by decide +kernel) ?_
    exact W.zret (v := k0_j2) hx hb hr (by rcases z01 (x := k0_j2) (b_k0_j2) with h9 | h9 <;> rw [h9] <;> rfl) (fun t9_ ht hW => ⟨⟨k0_j2, (), rfl, ⟨(b_k0_j2), (by (try dsimp only); exact (hj)), (by (try dsimp only); exact (hj2))⟩, by rw [ht]; exact hP, hD⟩, hS.F ht⟩) hS.2.2 dX7_isHolder_17
theorem dX7_isSet_0 : decode cX7_isSet 0 = .ok (.iload_n 1, 1) := dk_27 (by decide +kernel)
theorem dX7_isSet_1 : decode cX7_isSet 1 = .ok (.ifCond .le 17, 3) := dk_158 (by decide +kernel)
theorem dX7_isSet_4 : decode cX7_isSet 4 = .ok (.iload_n 1, 1) := dk_27 (by decide +kernel)
theorem dX7_isSet_5 : decode cX7_isSet 5 = .ok (.iconst 1, 1) := dk_4 (by decide +kernel)
theorem dX7_isSet_6 : decode cX7_isSet 6 = .ok (.aload_n 0, 1) := dk_42 (by decide +kernel)
theorem dX7_isSet_7 : decode cX7_isSet 7 = .ok (.getfield 59, 3) := dk_180 (by decide +kernel)
theorem dX7_isSet_10 : decode cX7_isSet 10 = .ok (.ishl, 1) := dk_120 (by decide +kernel)
theorem dX7_isSet_11 : decode cX7_isSet 11 = .ok (.if_icmp .ge 7, 3) := dk_162 (by decide +kernel)
theorem dX7_isSet_14 : decode cX7_isSet 14 = .ok (.iconst 1, 1) := dk_4 (by decide +kernel)
theorem dX7_isSet_15 : decode cX7_isSet 15 = .ok (.goto 4, 3) := dk_167 (by decide +kernel)
theorem dX7_isSet_18 : decode cX7_isSet 18 = .ok (.iconst 0, 1) := dk_3 (by decide +kernel)
theorem dX7_isSet_19 : decode cX7_isSet 19 = .ok (.ireturn, 1) := dk_172 (by decide +kernel)
def wsMX7_isSet : List Cond := .code yX7_isSet cX7_isSet 2 (some .boolean) :: ([.fieldLink RX7 59 "OptimaWorks$ValueDesk" "holders" "I"] ++ wsX70)
theorem iwsMX7_isSet_in7 : ∀ w ∈ wsX70, w ∈ wsMX7_isSet := fun _ h => List.mem_cons_of_mem _ (List.mem_append_right _ h)
theorem gdwsMX7_isSet : wsMX7_isSet.all goodWord = true := gdC rfl (gdA (by decide +kernel : ([.fieldLink RX7 59 "OptimaWorks$ValueDesk" "holders" "I"] : List Cond).all goodWord = true) gdwsX70)
set_option maxHeartbeats 4000000 in
set_option maxRecDepth 100000 in
/-- is it a set -/
theorem m_X7_isSet (l : Launch) (dC : Nat → ClassId) (dI : Nat → Nat → Nat) (hV : Nat → Nat) (aV : Nat → Nat) (kV : Nat → ClassId) (iV_holders : Int32) (iV_rules : Int32) (fV_pairs : Nat → Int32) (fV_domain : Nat → Int32) (fV_kind : Nat → Int32) (fV_a : Nat → Int32) (fV_b : Nat → Int32) (fV_c : Nat → Int32) (fV_rulePairs : Nat → Int32) (fV_lastHolder : Nat → Int32) (fV_now : Nat → Int32) (iV_doneFor : Int32) (iV_changed : Int32) (gV_fore : Nat → Int64) (gV_back : Nat → Int64) (fV_together : Nat → Int32) (fV_member : Nat → Int32) (gV_list : Nat → Int64) (dV_list : Nat) (nV_list : Nat) (iV_listed : Int32) (iV_listDone : Int32) (p1 : Int32) (b_iV_holders : 0 ≤ iV_holders.toInt ∧ iV_holders.toInt ≤ 10) (b_iV_rules : 0 ≤ iV_rules.toInt ∧ iV_rules.toInt ≤ 12) (b_fV_kind : ∀ q : Nat, 0 ≤ (fV_kind q).toInt ∧ (fV_kind q).toInt ≤ 4) (b_iV_changed : 0 ≤ iV_changed.toInt ∧ iV_changed.toInt ≤ 1) (b_fV_member : ∀ q : Nat, (-1) ≤ (fV_member q).toInt ∧ (fV_member q).toInt ≤ 15) (b_nV_list : 0 ≤ nV_list ∧ nV_list ≤ 20000) (b_iV_listed : (-1) ≤ iV_listed.toInt ∧ iV_listed.toInt ≤ 5000) (b_iV_listDone : 0 ≤ iV_listDone.toInt ∧ iV_listDone.toInt ≤ 1) (b_RuV : RuV fV_kind fV_a fV_b fV_c fV_lastHolder) (b_lst : iV_listed.toInt ≤ ((nV_list : Nat) : Int)) (sz : Nat) : Met l yX7_isSet wsMX7_isSet ({ frames := 0, cells := 0, slots := 0, locals := 0 }) (va_Pc [.ref (hV 0), .int p1] (fun U => U.heap.size = sz ∧ va_P (dC, dI) vwCl (WV hV aV kV iV_holders iV_rules fV_pairs fV_domain fV_kind fV_a fV_b fV_c fV_rulePairs fV_lastHolder fV_now iV_doneFor iV_changed gV_fore gV_back fV_together fV_member gV_list dV_list nV_list iV_listed iV_listDone) U.heap ∧ va_K (dC, dI) vwCl (tV kV) U ∧ va_D (fun _ => True) (WV hV aV kV iV_holders iV_rules fV_pairs fV_domain fV_kind fV_a fV_b fV_c fV_rulePairs fV_lastHolder fV_now iV_doneFor iV_changed gV_fore gV_back fV_together fV_member gV_list dV_list nV_list iV_listed iV_listDone))) (va_Qi (fun (r : Int32) (u : Unit) => (0 ≤ r.toInt ∧ r.toInt ≤ 1) ∧ ((r.toInt = 1 ∧ (0 < p1.toInt ∧ p1.toInt < ((1 : Int32) <<< (iV_holders &&& 31)).toInt)) ∨ (r.toInt = 0 ∧ ¬ (0 < p1.toInt ∧ p1.toInt < ((1 : Int32) <<< (iV_holders &&& 31)).toInt)))) (fun (u : Unit) t => va_P (dC, dI) vwCl (WV hV aV kV iV_holders iV_rules fV_pairs fV_domain fV_kind fV_a fV_b fV_c fV_rulePairs fV_lastHolder fV_now iV_doneFor iV_changed gV_fore gV_back fV_together fV_member gV_list dV_list nV_list iV_listed iV_listDone) t.heap ∧ va_D (va_A (WV hV aV kV iV_holders iV_rules fV_pairs fV_domain fV_kind fV_a fV_b fV_c fV_rulePairs fV_lastHolder fV_now iV_doneFor iV_changed gV_fore gV_back fV_together fV_member gV_list dV_list nV_list iV_listed iV_listDone) sz) (WV hV aV kV iV_holders iV_rules fV_pairs fV_domain fV_kind fV_a fV_b fV_c fV_rulePairs fV_lastHolder fV_now iV_doneFor iV_changed gV_fore gV_back fV_together fV_member gV_list dV_list nV_list iV_listed iV_listDone)) (va_A (WV hV aV kV iV_holders iV_rules fV_pairs fV_domain fV_kind fV_a fV_b fV_c fV_rulePairs fV_lastHolder fV_now iV_doneFor iV_changed gV_fore gV_back fV_together fV_member gV_list dV_list nV_list iV_listed iV_listDone) sz)) 0 0 (va_A (WV hV aV kV iV_holders iV_rules fV_pairs fV_domain fV_kind fV_a fV_b fV_c fV_rulePairs fV_lastHolder fV_now iV_doneFor iV_changed gV_fore gV_back fV_together fV_member gV_list dV_list nV_list iV_listed iV_listDone) sz) := by
  refine Met.ofW (cc := cX7_isSet) (maxL := 2) (ret := (some .boolean)) (by decide) rfl ?_
  intro p e s m args below meth c s₁ B hml hv
  obtain ⟨rfl, hsz, hP, hK, hD0⟩ := hv
  have hx := B.exec
  have hb := B.bytes
  have hr := B.returns
  have hts := atoms_spec (ws := wsMX7_isSet) B.pre
  have hown : s.vm.findClass RX7 = some m.cls := findClass_of_methodNamed B.named
  have hlocks := B.notSynchronized
  subst hsz
  have hD := hD0.self (sz := s.heap.size)
  generalize hAe : va_A (WV hV aV kV iV_holders iV_rules fV_pairs fV_domain fV_kind fV_a fV_b fV_c fV_rulePairs fV_lastHolder fV_now iV_doneFor iV_changed gV_fore gV_back fV_together fV_member gV_list dV_list nV_list iV_listed iV_listDone) s.heap.size = A at hD ⊢
  have hA : ∀ q : Nat, s.heap.size ≤ q → A q := fun q h => by rw [← hAe]; exact Or.inr h
  have hS : va_S A s.heap s.heap [] := va_S.rf
  have hl := lv_entry ([.ref (hV 0), .int p1]) (n := 2) (Nat.le_of_ble_eq_true rfl)
  rw [lg_entry_eq]
  generalize (lg_sl ([.ref (hV 0), .int p1]) ++ List.replicate (2 - (lg_sl ([.ref (hV 0), .int p1])).length) Slot.unset).toArray = ls at hl ⊢
  have hl : lv_has ls 2 [(0, .ref (hV 0)), (1, .int p1)] := hl
  refine lv_iload_n hx hb dX7_isSet_0 rfl (lv_at hl 1 rfl) ?_
  refine W.cut (pc := 19) (fun H locs ls stk => ∃ (k0_j2 : Int32), (0 ≤ k0_j2.toInt ∧ k0_j2.toInt ≤ 1) ∧ ((k0_j2.toInt = 1 ∧ (0 < p1.toInt ∧ p1.toInt < ((1 : Int32) <<< (iV_holders &&& 31)).toInt)) ∨ (k0_j2.toInt = 0 ∧ ¬ (0 < p1.toInt ∧ p1.toInt < ((1 : Int32) <<< (iV_holders &&& 31)).toInt))) ∧  stk = [.int k0_j2] ∧ va_P (dC, dI) vwCl (WV hV aV kV iV_holders iV_rules fV_pairs fV_domain fV_kind fV_a fV_b fV_c fV_rulePairs fV_lastHolder fV_now iV_doneFor iV_changed gV_fore gV_back fV_together fV_member gV_list dV_list nV_list iV_listed iV_listDone) H ∧ va_D A (WV hV aV kV iV_holders iV_rules fV_pairs fV_domain fV_kind fV_a fV_b fV_c fV_rulePairs fV_lastHolder fV_now iV_doneFor iV_changed gV_fore gV_back fV_together fV_member gV_list dV_list nV_list iV_listed iV_listDone) ∧ va_S A s.heap H locs ∧ lv_has ls 2 [(0, .ref (hV 0)), (1, .int p1)]) (fun join2 => ?_) ?_
  · refine lv_if_le (tgt := 18) hx hb dX7_isSet_1 (by decide) (fun c_1 => ?_) (fun c_1 => ?_)
    · have t_1 : p1.toInt ≤ 0 := toI_le c_1 rfl (by decide : (0 : Int32).toInt = 0)
      refine lv_iconst (v := 0) hx hb dX7_isSet_18 (by decide) ?_
      have hl : lv_has _ _ ([(0, .ref (hV 0)), (1, .int p1)]) := lv_sub hl [0, 1] rfl
      exact join2 _ _ _ _ ⟨0, (show 0 ≤ (0 : Int32).toInt ∧ (0 : Int32).toInt ≤ 1 from by decide), (show ((0 : Int32).toInt = 1 ∧ (0 < p1.toInt ∧ p1.toInt < ((1 : Int32) <<< (iV_holders &&& 31)).toInt)) ∨ ((0 : Int32).toInt = 0 ∧ ¬ (0 < p1.toInt ∧ p1.toInt < ((1 : Int32) <<< (iV_holders &&& 31)).toInt)) from by first | exact Or.inl ⟨by decide, by omega⟩ | exact Or.inr ⟨by decide, by omega⟩), rfl, hP, hD, hS, hl⟩
    · have t_1 : ¬ p1.toInt ≤ 0 := toI_nle c_1 rfl (by decide : (0 : Int32).toInt = 0)
      refine lv_iload_n hx hb dX7_isSet_4 rfl (lv_at hl 1 rfl) ?_
      refine lv_iconst (v := 1) hx hb dX7_isSet_5 (by decide) ?_
      refine lv_aload_n hx hb dX7_isSet_6 rfl (lv_at hl 0 rfl) ?_
      refine va_get (D := (dC, dI)) (ci := 7) (v := .int iV_holders) (C := RX7) (T := TX7) (N := 20) hx hb hts iwsMX7_isSet_in7 hown hK hP 0 rfl rfl 0 (by decide) (hts (.fieldLink RX7 59 "OptimaWorks$ValueDesk" "holders" "I") (by decide +kernel)) (fun _ h9 => h9) rfl dX7_isSet_7 ?_
      refine lv_ishl hx hb dX7_isSet_10 ?_
      refine lv_topi (fun v2 hv2 => ?_)
      have b_v2 : 1 ≤ v2.toInt ∧ v2.toInt ≤ 1024 := by rw [hv2]; exact shl1_t (k := 10) rfl (by omega) (by omega) (by decide)
      have b1_v2 : v2.toInt ≤ ((1 : Int32) <<< (iV_holders &&& 31)).toInt ∧ ((1 : Int32) <<< (iV_holders &&& 31)).toInt ≤ v2.toInt := by rw [hv2]; exact ⟨Int.le_refl _, Int.le_refl _⟩
      clear hv2
      refine lv_icmp_ge (tgt := 18) hx hb dX7_isSet_11 (by decide) (fun c_11 => ?_) (fun c_11 => ?_)
      · have t_11 : p1.toInt ≥ v2.toInt := toI_ge c_11 rfl rfl
        refine lv_iconst (v := 0) hx hb dX7_isSet_18 (by decide) ?_
        have hl : lv_has _ _ ([(0, .ref (hV 0)), (1, .int p1)]) := lv_sub hl [0, 1] rfl
        exact join2 _ _ _ _ ⟨0, (show 0 ≤ (0 : Int32).toInt ∧ (0 : Int32).toInt ≤ 1 from by decide), (show ((0 : Int32).toInt = 1 ∧ (0 < p1.toInt ∧ p1.toInt < ((1 : Int32) <<< (iV_holders &&& 31)).toInt)) ∨ ((0 : Int32).toInt = 0 ∧ ¬ (0 < p1.toInt ∧ p1.toInt < ((1 : Int32) <<< (iV_holders &&& 31)).toInt)) from by first | exact Or.inl ⟨by decide, by omega⟩ | exact Or.inr ⟨by decide, by omega⟩), rfl, hP, hD, hS, hl⟩
      · have t_11 : ¬ p1.toInt ≥ v2.toInt := toI_nge c_11 rfl rfl
        refine lv_iconst (v := 1) hx hb dX7_isSet_14 (by decide) ?_
        refine lv_goto (tgt := 19) hx hb dX7_isSet_15 (by decide) ?_
        have hl : lv_has _ _ ([(0, .ref (hV 0)), (1, .int p1)]) := lv_sub hl [0, 1] rfl
        exact join2 _ _ _ _ ⟨1, (show 0 ≤ (1 : Int32).toInt ∧ (1 : Int32).toInt ≤ 1 from by decide), (show ((1 : Int32).toInt = 1 ∧ (0 < p1.toInt ∧ p1.toInt < ((1 : Int32) <<< (iV_holders &&& 31)).toInt)) ∨ ((1 : Int32).toInt = 0 ∧ ¬ (0 < p1.toInt ∧ p1.toInt < ((1 : Int32) <<< (iV_holders &&& 31)).toInt)) from by first | exact Or.inl ⟨by decide, by omega⟩ | exact Or.inr ⟨by decide, by omega⟩), rfl, hP, hD, hS, hl⟩
  · intro H locs ls stk
    refine fz_e1 ?_
    intro k0_j2
    refine fz_a7 ?_
    intro b_k0_j2 hj2 hst9_2 hP hD hS hl
    subst hst9_2
    refine W.widen (k := 0) (n := 0) (by decide +kernel) (by decide +kernel) ?_
    exact W.zret (v := k0_j2) hx hb hr (by rcases z01 (x := k0_j2) (b_k0_j2) with h9 | h9 <;> rw [h9] <;> rfl) (fun t9_ ht hW => ⟨⟨k0_j2, (), rfl, ⟨(b_k0_j2), (by (try dsimp only); exact (hj2))⟩, by rw [ht]; exact hP, hD⟩, hS.F ht⟩) hS.2.2 dX7_isSet_19
theorem dX7_isWithin_0 : decode cX7_isWithin 0 = .ok (.iload_n 0, 1) := dk_26 (by decide +kernel)
theorem dX7_isWithin_1 : decode cX7_isWithin 1 = .ok (.iload_n 1, 1) := dk_27 (by decide +kernel)
theorem dX7_isWithin_2 : decode cX7_isWithin 2 = .ok (.ineg, 1) := dk_116 (by decide +kernel)
theorem dX7_isWithin_3 : decode cX7_isWithin 3 = .ok (.if_icmp .lt 12, 3) := dk_161 (by decide +kernel)
theorem dX7_isWithin_6 : decode cX7_isWithin 6 = .ok (.iload_n 0, 1) := dk_26 (by decide +kernel)
theorem dX7_isWithin_7 : decode cX7_isWithin 7 = .ok (.iload_n 1, 1) := dk_27 (by decide +kernel)
theorem dX7_isWithin_8 : decode cX7_isWithin 8 = .ok (.if_icmp .gt 7, 3) := dk_163 (by decide +kernel)
theorem dX7_isWithin_11 : decode cX7_isWithin 11 = .ok (.iconst 1, 1) := dk_4 (by decide +kernel)
theorem dX7_isWithin_12 : decode cX7_isWithin 12 = .ok (.goto 4, 3) := dk_167 (by decide +kernel)
theorem dX7_isWithin_15 : decode cX7_isWithin 15 = .ok (.iconst 0, 1) := dk_3 (by decide +kernel)
theorem dX7_isWithin_16 : decode cX7_isWithin 16 = .ok (.ireturn, 1) := dk_172 (by decide +kernel)
def wsMX7_isWithin : List Cond := .code yX7_isWithin cX7_isWithin 2 (some .boolean) :: ([])
theorem gdwsMX7_isWithin : wsMX7_isWithin.all goodWord = true := gdC rfl (by decide +kernel : ([] : List Cond).all goodWord = true)
set_option maxHeartbeats 4000000 in
set_option maxRecDepth 100000 in
/-- is it near -/
theorem m_X7_isWithin (l : Launch) (dC : Nat → ClassId) (dI : Nat → Nat → Nat) (p1 : Int32) (p2 : Int32) (b_p2 : 0 ≤ p2.toInt ∧ p2.toInt ≤ 1000) (sz : Nat) : Met l yX7_isWithin wsMX7_isWithin ({ frames := 0, cells := 0, slots := 0, locals := 0 }) (va_Pc [.int p1, .int p2] (fun U => U.heap.size = sz ∧ va_P (dC, dI) vwCl [] U.heap ∧ va_K (dC, dI) vwCl [] U ∧ va_D (fun _ => True) [])) (va_Qi (fun (r : Int32) (u : Unit) => (0 ≤ r.toInt ∧ r.toInt ≤ 1) ∧ ((r.toInt = 1 ∧ (-p2.toInt ≤ p1.toInt ∧ p1.toInt ≤ p2.toInt)) ∨ (r.toInt = 0 ∧ ¬ (-p2.toInt ≤ p1.toInt ∧ p1.toInt ≤ p2.toInt)))) (fun (u : Unit) t => True) (va_A [] sz)) 0 0 (va_A [] sz) := by
  refine Met.ofW (cc := cX7_isWithin) (maxL := 2) (ret := (some .boolean)) (by decide) rfl ?_
  intro p e s m args below meth c s₁ B hml hv
  obtain ⟨rfl, hsz, hP, hK, hD0⟩ := hv
  have hx := B.exec
  have hb := B.bytes
  have hr := B.returns
  have hts := atoms_spec (ws := wsMX7_isWithin) B.pre
  have hown : s.vm.findClass RX7 = some m.cls := findClass_of_methodNamed B.named
  have hlocks := B.notSynchronized
  subst hsz
  have hD := hD0.self (sz := s.heap.size)
  generalize hAe : va_A [] s.heap.size = A at hD ⊢
  have hA : ∀ q : Nat, s.heap.size ≤ q → A q := fun q h => by rw [← hAe]; exact Or.inr h
  have hS : va_S A s.heap s.heap [] := va_S.rf
  have hl := lv_entry ([.int p1, .int p2]) (n := 2) (Nat.le_of_ble_eq_true rfl)
  rw [lg_entry_eq]
  generalize (lg_sl ([.int p1, .int p2]) ++ List.replicate (2 - (lg_sl ([.int p1, .int p2])).length) Slot.unset).toArray = ls at hl ⊢
  have hl : lv_has ls 2 [(0, .int p1), (1, .int p2)] := hl
  refine lv_iload_n hx hb dX7_isWithin_0 rfl (lv_at hl 0 rfl) ?_
  refine lv_iload_n hx hb dX7_isWithin_1 rfl (lv_at hl 1 rfl) ?_
  refine lv_ineg hx hb dX7_isWithin_2 ?_
  refine lv_topi (fun y1 hy1 => ?_)
  obtain rfl : (iI (-p2.toInt)) = y1 := (hy1.trans (iI_neg2 (iI_of _))).symm
  refine W.cut (pc := 16) (fun H locs ls stk => ∃ (k0_j2 : Int32), (0 ≤ k0_j2.toInt ∧ k0_j2.toInt ≤ 1) ∧ ((k0_j2.toInt = 1 ∧ (-p2.toInt ≤ p1.toInt ∧ p1.toInt ≤ p2.toInt)) ∨ (k0_j2.toInt = 0 ∧ ¬ (-p2.toInt ≤ p1.toInt ∧ p1.toInt ≤ p2.toInt))) ∧  stk = [.int k0_j2] ∧ va_P (dC, dI) vwCl ([]) H ∧ va_D A ([]) ∧ va_S A s.heap H locs ∧ lv_has ls 2 [(0, .int p1), (1, .int p2)]) (fun join2 => ?_) ?_
  · refine lv_icmp_lt (tgt := 15) hx hb dX7_isWithin_3 (by decide) (fun c_3 => ?_) (fun c_3 => ?_)
    · first | (have t_3 : p1.toInt < (-p2.toInt) := toI_lt c_3 rfl (iI_t (by omega) (by omega))) | skip
      refine lv_iconst (v := 0) hx hb dX7_isWithin_15 (by decide) ?_
      have hl : lv_has _ _ ([(0, .int p1), (1, .int p2)]) := lv_sub hl [0, 1] rfl
      exact join2 _ _ _ _ ⟨0, (show 0 ≤ (0 : Int32).toInt ∧ (0 : Int32).toInt ≤ 1 from by decide), (show ((0 : Int32).toInt = 1 ∧ (-p2.toInt ≤ p1.toInt ∧ p1.toInt ≤ p2.toInt)) ∨ ((0 : Int32).toInt = 0 ∧ ¬ (-p2.toInt ≤ p1.toInt ∧ p1.toInt ≤ p2.toInt)) from by first | exact Or.inl ⟨by decide, by omega⟩ | exact Or.inr ⟨by decide, by omega⟩), rfl, hP, hD, hS, hl⟩
    · first | (have t_3 : ¬ p1.toInt < (-p2.toInt) := toI_nlt c_3 rfl (iI_t (by omega) (by omega))) | skip
      refine lv_iload_n hx hb dX7_isWithin_6 rfl (lv_at hl 0 rfl) ?_
      refine lv_iload_n hx hb dX7_isWithin_7 rfl (lv_at hl 1 rfl) ?_
      refine lv_icmp_gt (tgt := 15) hx hb dX7_isWithin_8 (by decide) (fun c_8 => ?_) (fun c_8 => ?_)
      · have t_8 : p1.toInt > p2.toInt := toI_gt c_8 rfl rfl
        refine lv_iconst (v := 0) hx hb dX7_isWithin_15 (by decide) ?_
        have hl : lv_has _ _ ([(0, .int p1), (1, .int p2)]) := lv_sub hl [0, 1] rfl
        exact join2 _ _ _ _ ⟨0, (show 0 ≤ (0 : Int32).toInt ∧ (0 : Int32).toInt ≤ 1 from by decide), (show ((0 : Int32).toInt = 1 ∧ (-p2.toInt ≤ p1.toInt ∧ p1.toInt ≤ p2.toInt)) ∨ ((0 : Int32).toInt = 0 ∧ ¬ (-p2.toInt ≤ p1.toInt ∧ p1.toInt ≤ p2.toInt)) from by first | exact Or.inl ⟨by decide, by omega⟩ | exact Or.inr ⟨by decide, by omega⟩), rfl, hP, hD, hS, hl⟩
      · have t_8 : ¬ p1.toInt > p2.toInt := toI_ngt c_8 rfl rfl
        refine lv_iconst (v := 1) hx hb dX7_isWithin_11 (by decide) ?_
        refine lv_goto (tgt := 16) hx hb dX7_isWithin_12 (by decide) ?_
        have hl : lv_has _ _ ([(0, .int p1), (1, .int p2)]) := lv_sub hl [0, 1] rfl
        exact join2 _ _ _ _ ⟨1, (show 0 ≤ (1 : Int32).toInt ∧ (1 : Int32).toInt ≤ 1 from by decide), (show ((1 : Int32).toInt = 1 ∧ (-p2.toInt ≤ p1.toInt ∧ p1.toInt ≤ p2.toInt)) ∨ ((1 : Int32).toInt = 0 ∧ ¬ (-p2.toInt ≤ p1.toInt ∧ p1.toInt ≤ p2.toInt)) from by first | exact Or.inl ⟨by decide, by omega⟩ | exact Or.inr ⟨by decide, by omega⟩), rfl, hP, hD, hS, hl⟩
  · intro H locs ls stk
    refine fz_e1 ?_
    intro k0_j2
    refine fz_a7 ?_
    intro b_k0_j2 hj2 hst9_2 hP hD hS hl
    subst hst9_2
    refine W.widen (k := 0) (n := 0) (by decide +kernel) (by decide +kernel) ?_
    exact W.zret (v := k0_j2) hx hb hr (by rcases z01 (x := k0_j2) (b_k0_j2) with h9 | h9 <;> rw [h9] <;> rfl) (fun t9_ ht hW => ⟨⟨k0_j2, (), rfl, ⟨(b_k0_j2), (by (try dsimp only); exact (hj2))⟩, trivial⟩, hS.F ht⟩) hS.2.2 dX7_isWithin_16
theorem dX7_addHolder_0 : decode cX7_addHolder 0 = .ok (.aload_n 0, 1) := dk_42 (by decide +kernel)
theorem dX7_addHolder_1 : decode cX7_addHolder 1 = .ok (.getfield 15, 3) := dk_180 (by decide +kernel)
theorem dX7_addHolder_4 : decode cX7_addHolder 4 = .ok (.aload_n 0, 1) := dk_42 (by decide +kernel)
theorem dX7_addHolder_5 : decode cX7_addHolder 5 = .ok (.getfield 59, 3) := dk_180 (by decide +kernel)
theorem dX7_addHolder_8 : decode cX7_addHolder 8 = .ok (.iload_n 1, 1) := dk_27 (by decide +kernel)
theorem dX7_addHolder_9 : decode cX7_addHolder 9 = .ok (.iastore, 1) := dk_79 (by decide +kernel)
theorem dX7_addHolder_10 : decode cX7_addHolder 10 = .ok (.aload_n 0, 1) := dk_42 (by decide +kernel)
theorem dX7_addHolder_11 : decode cX7_addHolder 11 = .ok (.dup, 1) := dk_89 (by decide +kernel)
theorem dX7_addHolder_12 : decode cX7_addHolder 12 = .ok (.getfield 59, 3) := dk_180 (by decide +kernel)
theorem dX7_addHolder_15 : decode cX7_addHolder 15 = .ok (.iconst 1, 1) := dk_4 (by decide +kernel)
theorem dX7_addHolder_16 : decode cX7_addHolder 16 = .ok (.iadd, 1) := dk_96 (by decide +kernel)
theorem dX7_addHolder_17 : decode cX7_addHolder 17 = .ok (.putfield 59, 3) := dk_181 (by decide +kernel)
theorem dX7_addHolder_20 : decode cX7_addHolder 20 = .ok (.aload_n 0, 1) := dk_42 (by decide +kernel)
theorem dX7_addHolder_21 : decode cX7_addHolder 21 = .ok (.invokevirtual 65, 3) := dk_182 (by decide +kernel)
theorem dX7_addHolder_24 : decode cX7_addHolder 24 = .ok (.aload_n 0, 1) := dk_42 (by decide +kernel)
theorem dX7_addHolder_25 : decode cX7_addHolder 25 = .ok (.getfield 59, 3) := dk_180 (by decide +kernel)
theorem dX7_addHolder_28 : decode cX7_addHolder 28 = .ok (.iconst 1, 1) := dk_4 (by decide +kernel)
theorem dX7_addHolder_29 : decode cX7_addHolder 29 = .ok (.isub, 1) := dk_100 (by decide +kernel)
theorem dX7_addHolder_30 : decode cX7_addHolder 30 = .ok (.ireturn, 1) := dk_172 (by decide +kernel)
def wsMX7_addHolder : List Cond := .code yX7_addHolder cX7_addHolder 2 (some .int) :: ([.fieldLink RX7 15 "OptimaWorks$ValueDesk" "domain" "[I", .fieldLink RX7 59 "OptimaWorks$ValueDesk" "holders" "I"] ++ wsX70 ++ (wsV RX7 65 RX7 yX7_change wsMX7_change))
theorem iwsMX7_addHolder_in7 : ∀ w ∈ wsX70, w ∈ wsMX7_addHolder := fun _ h => List.mem_cons_of_mem _ (List.mem_append_left _ (List.mem_append_right _ h))
theorem gwsMX7_addHolder_0 : GoodIn wsMX7_addHolder (wsV RX7 65 RX7 yX7_change wsMX7_change) := goodIn_sub (fun _ h => List.mem_cons_of_mem _ (List.mem_append_right _ h)) (gdV (by decide +kernel) gdwsMX7_change)
theorem gdwsMX7_addHolder : wsMX7_addHolder.all goodWord = true := gdC rfl (gdA (gdA (by decide +kernel : ([.fieldLink RX7 15 "OptimaWorks$ValueDesk" "domain" "[I", .fieldLink RX7 59 "OptimaWorks$ValueDesk" "holders" "I"] : List Cond).all goodWord = true) gdwsX70) (gdV (by decide +kernel) gdwsMX7_change))
theorem hm_m_X7_addHolder_0 : (.fieldLink RX7 59 "OptimaWorks$ValueDesk" "holders" "I" : Cond) ∈ wsMX7_addHolder := by decide +kernel
set_option maxHeartbeats 4000000 in
set_option maxRecDepth 100000 in
/-- a holder more -/
theorem m_X7_addHolder (l : Launch) (dC : Nat → ClassId) (dI : Nat → Nat → Nat) (hV : Nat → Nat) (aV : Nat → Nat) (kV : Nat → ClassId) (iV_holders : Int32) (iV_rules : Int32) (fV_pairs : Nat → Int32) (fV_domain : Nat → Int32) (fV_kind : Nat → Int32) (fV_a : Nat → Int32) (fV_b : Nat → Int32) (fV_c : Nat → Int32) (fV_rulePairs : Nat → Int32) (fV_lastHolder : Nat → Int32) (fV_now : Nat → Int32) (iV_doneFor : Int32) (iV_changed : Int32) (gV_fore : Nat → Int64) (gV_back : Nat → Int64) (fV_together : Nat → Int32) (fV_member : Nat → Int32) (gV_list : Nat → Int64) (dV_list : Nat) (nV_list : Nat) (iV_listed : Int32) (iV_listDone : Int32) (p1 : Int32) (b_iV_holders : 0 ≤ iV_holders.toInt ∧ iV_holders.toInt ≤ 10) (b_iV_rules : 0 ≤ iV_rules.toInt ∧ iV_rules.toInt ≤ 12) (b_fV_kind : ∀ q : Nat, 0 ≤ (fV_kind q).toInt ∧ (fV_kind q).toInt ≤ 4) (b_iV_changed : 0 ≤ iV_changed.toInt ∧ iV_changed.toInt ≤ 1) (b_fV_member : ∀ q : Nat, (-1) ≤ (fV_member q).toInt ∧ (fV_member q).toInt ≤ 15) (b_nV_list : 0 ≤ nV_list ∧ nV_list ≤ 20000) (b_iV_listed : (-1) ≤ iV_listed.toInt ∧ iV_listed.toInt ≤ 5000) (b_iV_listDone : 0 ≤ iV_listDone.toInt ∧ iV_listDone.toInt ≤ 1) (b_RuV : RuV fV_kind fV_a fV_b fV_c fV_lastHolder) (b_lst : iV_listed.toInt ≤ ((nV_list : Nat) : Int)) (hlt : iV_holders.toInt < 10) (sz : Nat) : Met l yX7_addHolder wsMX7_addHolder ({ frames := 1, cells := 0, slots := 0, locals := 20 }) (va_Pc [.ref (hV 0), .int p1] (fun U => U.heap.size = sz ∧ va_P (dC, dI) vwCl (WV hV aV kV iV_holders iV_rules fV_pairs fV_domain fV_kind fV_a fV_b fV_c fV_rulePairs fV_lastHolder fV_now iV_doneFor iV_changed gV_fore gV_back fV_together fV_member gV_list dV_list nV_list iV_listed iV_listDone) U.heap ∧ va_K (dC, dI) vwCl (tV kV) U ∧ va_D (fun _ => True) (WV hV aV kV iV_holders iV_rules fV_pairs fV_domain fV_kind fV_a fV_b fV_c fV_rulePairs fV_lastHolder fV_now iV_doneFor iV_changed gV_fore gV_back fV_together fV_member gV_list dV_list nV_list iV_listed iV_listDone))) (va_Qi (fun (r : Int32) (u : (Int32) × (Nat → Int32) × (Int32) × (Int32)) => (0 ≤ (u.1).toInt ∧ (u.1).toInt ≤ 10) ∧ (0 ≤ (u.2.2.2).toInt ∧ (u.2.2.2).toInt ≤ 1) ∧ ((u.1).toInt = iV_holders.toInt + 1) ∧ (r.toInt = iV_holders.toInt) ∧ ((u.2.1) = upd fV_domain iV_holders.toInt.toNat p1)) (fun (u : (Int32) × (Nat → Int32) × (Int32) × (Int32)) t => va_P (dC, dI) vwCl (WV hV aV kV (u.1) iV_rules fV_pairs (u.2.1) fV_kind fV_a fV_b fV_c fV_rulePairs fV_lastHolder fV_now (u.2.2.1) iV_changed gV_fore gV_back fV_together fV_member gV_list dV_list nV_list iV_listed (u.2.2.2)) t.heap ∧ va_D (va_A (WV hV aV kV iV_holders iV_rules fV_pairs fV_domain fV_kind fV_a fV_b fV_c fV_rulePairs fV_lastHolder fV_now iV_doneFor iV_changed gV_fore gV_back fV_together fV_member gV_list dV_list nV_list iV_listed iV_listDone) sz) (WV hV aV kV (u.1) iV_rules fV_pairs (u.2.1) fV_kind fV_a fV_b fV_c fV_rulePairs fV_lastHolder fV_now (u.2.2.1) iV_changed gV_fore gV_back fV_together fV_member gV_list dV_list nV_list iV_listed (u.2.2.2))) (va_A (WV hV aV kV iV_holders iV_rules fV_pairs fV_domain fV_kind fV_a fV_b fV_c fV_rulePairs fV_lastHolder fV_now iV_doneFor iV_changed gV_fore gV_back fV_together fV_member gV_list dV_list nV_list iV_listed iV_listDone) sz)) 0 0 (va_A (WV hV aV kV iV_holders iV_rules fV_pairs fV_domain fV_kind fV_a fV_b fV_c fV_rulePairs fV_lastHolder fV_now iV_doneFor iV_changed gV_fore gV_back fV_together fV_member gV_list dV_list nV_list iV_listed iV_listDone) sz) := by
  refine Met.ofW (cc := cX7_addHolder) (maxL := 2) (ret := (some .int)) (by decide) rfl ?_
  intro p e s m args below meth c s₁ B hml hv
  obtain ⟨rfl, hsz, hP, hK, hD0⟩ := hv
  have hx := B.exec
  have hb := B.bytes
  have hr := B.returns
  have hts := atoms_spec (ws := wsMX7_addHolder) B.pre
  have hown : s.vm.findClass RX7 = some m.cls := findClass_of_methodNamed B.named
  have hlocks := B.notSynchronized
  subst hsz
  have hD := hD0.self (sz := s.heap.size)
  generalize hAe : va_A (WV hV aV kV iV_holders iV_rules fV_pairs fV_domain fV_kind fV_a fV_b fV_c fV_rulePairs fV_lastHolder fV_now iV_doneFor iV_changed gV_fore gV_back fV_together fV_member gV_list dV_list nV_list iV_listed iV_listDone) s.heap.size = A at hD ⊢
  have hA : ∀ q : Nat, s.heap.size ≤ q → A q := fun q h => by rw [← hAe]; exact Or.inr h
  have hS : va_S A s.heap s.heap [] := va_S.rf
  have hl := lv_entry ([.ref (hV 0), .int p1]) (n := 2) (Nat.le_of_ble_eq_true rfl)
  rw [lg_entry_eq]
  generalize (lg_sl ([.ref (hV 0), .int p1]) ++ List.replicate (2 - (lg_sl ([.ref (hV 0), .int p1])).length) Slot.unset).toArray = ls at hl ⊢
  have hl : lv_has ls 2 [(0, .ref (hV 0)), (1, .int p1)] := hl
  refine lv_aload_n hx hb dX7_addHolder_0 rfl (lv_at hl 0 rfl) ?_
  refine va_get (D := (dC, dI)) (ci := 7) (v := .ref (aV 1)) (C := RX7) (T := TX7) (N := 20) hx hb hts iwsMX7_addHolder_in7 hown hK hP 0 rfl rfl 3 (by decide) (hts (.fieldLink RX7 15 "OptimaWorks$ValueDesk" "domain" "[I") (by decide +kernel)) (fun _ h9 => h9) rfl dX7_addHolder_1 ?_
  refine lv_aload_n hx hb dX7_addHolder_4 rfl (lv_at hl 0 rfl) ?_
  refine va_get (D := (dC, dI)) (ci := 7) (v := .int iV_holders) (C := RX7) (T := TX7) (N := 20) hx hb hts iwsMX7_addHolder_in7 hown hK hP 0 rfl rfl 0 (by decide) (hts _ hm_m_X7_addHolder_0) (fun _ h9 => h9) rfl dX7_addHolder_5 ?_
  refine lv_iload_n hx hb dX7_addHolder_8 rfl (lv_at hl 1 rfl) ?_
  refine va_iast (cA := kV 1) (n := 10) (f := fV_domain) hx hb hK hP hD hS 2 1 rfl rfl (vp_in_iff.mpr ⟨b_iV_holders.1, (by omega)⟩) dX7_addHolder_9 (fun H locs hP hD hS => ?_)
  obtain ⟨u1, hu1⟩ : ∃ f9, f9 = upd fV_domain (iV_holders).toNatClampNeg p1 := ⟨_, rfl⟩
  have hP : va_P (dC, dI) vwCl (WV hV aV kV iV_holders iV_rules fV_pairs u1 fV_kind fV_a fV_b fV_c fV_rulePairs fV_lastHolder fV_now iV_doneFor iV_changed gV_fore gV_back fV_together fV_member gV_list dV_list nV_list iV_listed iV_listDone) H := by rw [hu1]; exact hP
  have hD : va_D A (WV hV aV kV iV_holders iV_rules fV_pairs u1 fV_kind fV_a fV_b fV_c fV_rulePairs fV_lastHolder fV_now iV_doneFor iV_changed gV_fore gV_back fV_together fV_member gV_list dV_list nV_list iV_listed iV_listDone) := by rw [hu1]; exact hD
  have b_u1 : u1 = upd fV_domain (iV_holders).toNatClampNeg p1 := hu1
  clear hu1
  refine lv_aload_n hx hb dX7_addHolder_10 rfl (lv_at hl 0 rfl) ?_
  refine lv_dup hx hb dX7_addHolder_11 rfl ?_
  refine va_get (D := (dC, dI)) (ci := 7) (v := .int iV_holders) (C := RX7) (T := TX7) (N := 20) hx hb hts iwsMX7_addHolder_in7 hown hK hP 0 rfl rfl 0 (by decide) (hts _ hm_m_X7_addHolder_0) (fun _ h9 => h9) rfl dX7_addHolder_12 ?_
  refine lv_iconst (v := 1) hx hb dX7_addHolder_15 (by decide) ?_
  refine lv_iadd hx hb dX7_addHolder_16 ?_
  refine lv_topi (fun y2 hy2 => ?_)
  obtain rfl : (iI (iV_holders.toInt + 1)) = y2 := (hy2.trans (iI_add2 (iI_of _) (by decide : (1 : Int32) = iI 1))).symm
  refine va_put (D := (dC, dI)) (ci := 7) (v := .int (iI (iV_holders.toInt + 1))) (ty := .int) (C := RX7) (T := TX7) (N := 20) hx hb hts iwsMX7_addHolder_in7 tyX7 tyX7_ok nmX7 hown hK hP hD hS 0 rfl rfl 0 (by decide) (hts _ hm_m_X7_addHolder_0) (fun _ h9 => h9) rfl (by decide +kernel) rfl rfl (Nat.le_of_ble_eq_true rfl) dX7_addHolder_17 (fun H locs hP hD hS => ?_)
  have hP : va_P (dC, dI) vwCl (WV hV aV kV (iI (iV_holders.toInt + 1)) iV_rules fV_pairs u1 fV_kind fV_a fV_b fV_c fV_rulePairs fV_lastHolder fV_now iV_doneFor iV_changed gV_fore gV_back fV_together fV_member gV_list dV_list nV_list iV_listed iV_listDone) H := hP
  have hD := fz_sd hP (hD) rfl
  refine lv_aload_n hx hb dX7_addHolder_20 rfl (lv_at hl 0 rfl) ?_
  have hFc := allFree hD hS hA
  refine va_callv (va_runV (As := []) (rest := []) ⟨hx, hb, hml, hown, hts⟩ (m_X7_change l dC dI hV aV kV (iI (iV_holders.toInt + 1)) iV_rules fV_pairs u1 fV_kind fV_a fV_b fV_c fV_rulePairs fV_lastHolder fV_now iV_doneFor iV_changed gV_fore gV_back fV_together fV_member gV_list dV_list nV_list iV_listed iV_listDone (iI_rng (Int.le_trans (by decide) (Int.add_le_add (b_iV_holders.1) (Int.le_refl _))) (by omega) (by decide) (by decide)) (b_iV_rules) b_fV_kind (b_iV_changed) b_fV_member (by first | exact b_nV_list | with_reducible assumption | exact ⟨by omega, by omega⟩ | assumption) (b_iV_listed) (b_iV_listDone) (by first | with_reducible assumption | omega | assumption) (by first | with_reducible assumption | omega | assumption) H.size) (cwV 0 hts gwsMX7_addHolder_0 rfl rfl rfl hd_yX7_change_RX7 (by decide +kernel)) (fz_pre (va_recv hK hP (ci := 7) (q0 := 0) rfl rfl) hP hK hD) rfl rfl hl.1 rfl (lv_room (Nat.le_of_ble_eq_true rfl)) dX7_addHolder_21 (by decide +kernel)) hS (fun q _ h => hFc q h) hFc (fun u t9_ H locs ht hvm hw9 hB9 hz1 hk1 hS => ?_)
  revert u hw9 hB9
  refine fz_p2 ?_
  intro iV_doneFor_3 iV_listDone_3 hw9 hB9
  try dsimp only at hw9 hB9
  have b_iV_listDone_3 := hw9
  try dsimp only at b_iV_listDone_3
  have hP : va_P (dC, dI) vwCl (WV hV aV kV (iI (iV_holders.toInt + 1)) iV_rules fV_pairs u1 fV_kind fV_a fV_b fV_c fV_rulePairs fV_lastHolder fV_now iV_doneFor_3 iV_changed gV_fore gV_back fV_together fV_member gV_list dV_list nV_list iV_listed iV_listDone_3) H := fz_P ht hB9.1
  have hD := fz_sd hP (hB9.2.weaken (fun _ q _ h => hFc q.1 h)) rfl
  refine lv_aload_n hx hb dX7_addHolder_24 rfl (lv_at hl 0 rfl) ?_
  refine va_get (D := (dC, dI)) (ci := 7) (v := .int (iI (iV_holders.toInt + 1))) (C := RX7) (T := TX7) (N := 20) hx hb hts iwsMX7_addHolder_in7 hown hK hP 0 rfl rfl 0 (by decide) (hts _ hm_m_X7_addHolder_0) (fun _ h9 => h9) rfl dX7_addHolder_25 ?_
  refine lv_iconst (v := 1) hx hb dX7_addHolder_28 (by decide) ?_
  refine lv_isub hx hb dX7_addHolder_29 ?_
  refine lv_topi (fun y4 hy4 => ?_)
  obtain rfl : (iI ((iV_holders.toInt + 1) - 1)) = y4 := (hy4.trans (iI_sub2 rfl (by decide : (1 : Int32) = iI 1))).symm
  refine W.widen (k := 0) (n := 0) (by decide +kernel) (by decide +kernel) ?_
  exact W.iret (v := (iI ((iV_holders.toInt + 1) - 1))) hx hb hr (fun t9_ ht hW => ⟨⟨(iI ((iV_holders.toInt + 1) - 1)), ((iI (iV_holders.toInt + 1)), u1, iV_doneFor_3, iV_listDone_3), rfl, ⟨(by (try dsimp only); exact (iI_rng (Int.le_trans (by decide) (Int.add_le_add (b_iV_holders.1) (Int.le_refl _))) (by omega) (by decide) (by decide))), (by (try dsimp only); exact (by first | exact b_iV_listDone_3 | with_reducible assumption | exact ⟨by omega, by omega⟩ | assumption)), (by (try dsimp only); first | (rw [iI_t (by omega) (by omega)] <;> omega) | omega), (by (try dsimp only); first | (rw [iI_t (by omega) (by omega)] <;> omega) | omega), b_u1⟩, by rw [ht]; exact hP, hD⟩, hS.F ht⟩) hS.2.2 dX7_addHolder_30
theorem dX7_isRule_0 : decode cX7_isRule 0 = .ok (.iload_n 1, 1) := dk_27 (by decide +kernel)
theorem dX7_isRule_1 : decode cX7_isRule 1 = .ok (.tableswitch 171 0 4 #[35, 41, 73, 108, 144], 35) := by decide +kernel
theorem dX7_isRule_36 : decode cX7_isRule 36 = .ok (.aload_n 0, 1) := dk_42 (by decide +kernel)
theorem dX7_isRule_37 : decode cX7_isRule 37 = .ok (.iload_n 2, 1) := dk_28 (by decide +kernel)
theorem dX7_isRule_38 : decode cX7_isRule 38 = .ok (.invokevirtual 72, 3) := dk_182 (by decide +kernel)
theorem dX7_isRule_41 : decode cX7_isRule 41 = .ok (.ireturn, 1) := dk_172 (by decide +kernel)
theorem dX7_isRule_42 : decode cX7_isRule 42 = .ok (.aload_n 0, 1) := dk_42 (by decide +kernel)
theorem dX7_isRule_43 : decode cX7_isRule 43 = .ok (.iload_n 2, 1) := dk_28 (by decide +kernel)
theorem dX7_isRule_44 : decode cX7_isRule 44 = .ok (.invokevirtual 76, 3) := dk_182 (by decide +kernel)
theorem dX7_isRule_47 : decode cX7_isRule 47 = .ok (.ifCond .eq 25, 3) := dk_153 (by decide +kernel)
theorem dX7_isRule_50 : decode cX7_isRule 50 = .ok (.iload_n 3, 1) := dk_29 (by decide +kernel)
theorem dX7_isRule_51 : decode cX7_isRule 51 = .ok (.bipush 15, 2) := dk_16 (by decide +kernel)
theorem dX7_isRule_53 : decode cX7_isRule 53 = .ok (.invokestatic 79, 3) := dk_184 (by decide +kernel)
theorem dX7_isRule_56 : decode cX7_isRule 56 = .ok (.ifCond .eq 16, 3) := dk_153 (by decide +kernel)
theorem dX7_isRule_59 : decode cX7_isRule 59 = .ok (.aload_n 0, 1) := dk_42 (by decide +kernel)
theorem dX7_isRule_60 : decode cX7_isRule 60 = .ok (.iload 4, 2) := dk_21 (by decide +kernel)
theorem dX7_isRule_62 : decode cX7_isRule 62 = .ok (.invokevirtual 76, 3) := dk_182 (by decide +kernel)
theorem dX7_isRule_65 : decode cX7_isRule 65 = .ok (.ifCond .eq 7, 3) := dk_153 (by decide +kernel)
theorem dX7_isRule_68 : decode cX7_isRule 68 = .ok (.iconst 1, 1) := dk_4 (by decide +kernel)
theorem dX7_isRule_69 : decode cX7_isRule 69 = .ok (.goto 4, 3) := dk_167 (by decide +kernel)
theorem dX7_isRule_72 : decode cX7_isRule 72 = .ok (.iconst 0, 1) := dk_3 (by decide +kernel)
theorem dX7_isRule_73 : decode cX7_isRule 73 = .ok (.ireturn, 1) := dk_172 (by decide +kernel)
theorem dX7_isRule_74 : decode cX7_isRule 74 = .ok (.aload_n 0, 1) := dk_42 (by decide +kernel)
theorem dX7_isRule_75 : decode cX7_isRule 75 = .ok (.iload_n 2, 1) := dk_28 (by decide +kernel)
theorem dX7_isRule_76 : decode cX7_isRule 76 = .ok (.invokevirtual 72, 3) := dk_182 (by decide +kernel)
theorem dX7_isRule_79 : decode cX7_isRule 79 = .ok (.ifCond .eq 28, 3) := dk_153 (by decide +kernel)
theorem dX7_isRule_82 : decode cX7_isRule 82 = .ok (.iload_n 3, 1) := dk_29 (by decide +kernel)
theorem dX7_isRule_83 : decode cX7_isRule 83 = .ok (.sipush 200, 3) := dk_17 (by decide +kernel)
theorem dX7_isRule_86 : decode cX7_isRule 86 = .ok (.invokestatic 79, 3) := dk_184 (by decide +kernel)
theorem dX7_isRule_89 : decode cX7_isRule 89 = .ok (.ifCond .eq 18, 3) := dk_153 (by decide +kernel)
theorem dX7_isRule_92 : decode cX7_isRule 92 = .ok (.iload 4, 2) := dk_21 (by decide +kernel)
theorem dX7_isRule_94 : decode cX7_isRule 94 = .ok (.sipush 200, 3) := dk_17 (by decide +kernel)
theorem dX7_isRule_97 : decode cX7_isRule 97 = .ok (.invokestatic 79, 3) := dk_184 (by decide +kernel)
theorem dX7_isRule_100 : decode cX7_isRule 100 = .ok (.ifCond .eq 7, 3) := dk_153 (by decide +kernel)
theorem dX7_isRule_103 : decode cX7_isRule 103 = .ok (.iconst 1, 1) := dk_4 (by decide +kernel)
theorem dX7_isRule_104 : decode cX7_isRule 104 = .ok (.goto 4, 3) := dk_167 (by decide +kernel)
theorem dX7_isRule_107 : decode cX7_isRule 107 = .ok (.iconst 0, 1) := dk_3 (by decide +kernel)
theorem dX7_isRule_108 : decode cX7_isRule 108 = .ok (.ireturn, 1) := dk_172 (by decide +kernel)
theorem dX7_isRule_109 : decode cX7_isRule 109 = .ok (.aload_n 0, 1) := dk_42 (by decide +kernel)
theorem dX7_isRule_110 : decode cX7_isRule 110 = .ok (.iload_n 2, 1) := dk_28 (by decide +kernel)
theorem dX7_isRule_111 : decode cX7_isRule 111 = .ok (.invokevirtual 72, 3) := dk_182 (by decide +kernel)
theorem dX7_isRule_114 : decode cX7_isRule 114 = .ok (.ifCond .eq 29, 3) := dk_153 (by decide +kernel)
theorem dX7_isRule_117 : decode cX7_isRule 117 = .ok (.iload_n 3, 1) := dk_29 (by decide +kernel)
theorem dX7_isRule_118 : decode cX7_isRule 118 = .ok (.sipush 200, 3) := dk_17 (by decide +kernel)
theorem dX7_isRule_121 : decode cX7_isRule 121 = .ok (.invokestatic 79, 3) := dk_184 (by decide +kernel)
theorem dX7_isRule_124 : decode cX7_isRule 124 = .ok (.ifCond .eq 19, 3) := dk_153 (by decide +kernel)
theorem dX7_isRule_127 : decode cX7_isRule 127 = .ok (.iload 4, 2) := dk_21 (by decide +kernel)
theorem dX7_isRule_129 : decode cX7_isRule 129 = .ok (.ifCond .lt 14, 3) := dk_155 (by decide +kernel)
theorem dX7_isRule_132 : decode cX7_isRule 132 = .ok (.iload 4, 2) := dk_21 (by decide +kernel)
theorem dX7_isRule_134 : decode cX7_isRule 134 = .ok (.bipush 16, 2) := dk_16 (by decide +kernel)
theorem dX7_isRule_136 : decode cX7_isRule 136 = .ok (.if_icmp .ge 7, 3) := dk_162 (by decide +kernel)
theorem dX7_isRule_139 : decode cX7_isRule 139 = .ok (.iconst 1, 1) := dk_4 (by decide +kernel)
theorem dX7_isRule_140 : decode cX7_isRule 140 = .ok (.goto 4, 3) := dk_167 (by decide +kernel)
theorem dX7_isRule_143 : decode cX7_isRule 143 = .ok (.iconst 0, 1) := dk_3 (by decide +kernel)
theorem dX7_isRule_144 : decode cX7_isRule 144 = .ok (.ireturn, 1) := dk_172 (by decide +kernel)
theorem dX7_isRule_145 : decode cX7_isRule 145 = .ok (.aload_n 0, 1) := dk_42 (by decide +kernel)
theorem dX7_isRule_146 : decode cX7_isRule 146 = .ok (.iload_n 2, 1) := dk_28 (by decide +kernel)
theorem dX7_isRule_147 : decode cX7_isRule 147 = .ok (.invokevirtual 76, 3) := dk_182 (by decide +kernel)
theorem dX7_isRule_150 : decode cX7_isRule 150 = .ok (.ifCond .eq 20, 3) := dk_153 (by decide +kernel)
theorem dX7_isRule_153 : decode cX7_isRule 153 = .ok (.aload_n 0, 1) := dk_42 (by decide +kernel)
theorem dX7_isRule_154 : decode cX7_isRule 154 = .ok (.iload_n 3, 1) := dk_29 (by decide +kernel)
theorem dX7_isRule_155 : decode cX7_isRule 155 = .ok (.invokevirtual 76, 3) := dk_182 (by decide +kernel)
theorem dX7_isRule_158 : decode cX7_isRule 158 = .ok (.ifCond .eq 12, 3) := dk_153 (by decide +kernel)
theorem dX7_isRule_161 : decode cX7_isRule 161 = .ok (.iload_n 2, 1) := dk_28 (by decide +kernel)
theorem dX7_isRule_162 : decode cX7_isRule 162 = .ok (.iload_n 3, 1) := dk_29 (by decide +kernel)
theorem dX7_isRule_163 : decode cX7_isRule 163 = .ok (.if_icmp .eq 7, 3) := dk_159 (by decide +kernel)
theorem dX7_isRule_166 : decode cX7_isRule 166 = .ok (.iconst 1, 1) := dk_4 (by decide +kernel)
theorem dX7_isRule_167 : decode cX7_isRule 167 = .ok (.goto 4, 3) := dk_167 (by decide +kernel)
theorem dX7_isRule_170 : decode cX7_isRule 170 = .ok (.iconst 0, 1) := dk_3 (by decide +kernel)
theorem dX7_isRule_171 : decode cX7_isRule 171 = .ok (.ireturn, 1) := dk_172 (by decide +kernel)
theorem dX7_isRule_172 : decode cX7_isRule 172 = .ok (.iconst 0, 1) := dk_3 (by decide +kernel)
theorem dX7_isRule_173 : decode cX7_isRule 173 = .ok (.ireturn, 1) := dk_172 (by decide +kernel)
def wsMX7_isRule : List Cond := .code yX7_isRule cX7_isRule 5 (some .boolean) :: ([] ++ (wsV RX7 72 RX7 yX7_isSet wsMX7_isSet) ++ (wsV RX7 76 RX7 yX7_isHolder wsMX7_isHolder) ++ (va_wsS RX7 79 yX7_isWithin wsMX7_isWithin))
theorem gwsMX7_isRule_0 : GoodIn wsMX7_isRule (wsV RX7 72 RX7 yX7_isSet wsMX7_isSet) := goodIn_sub (fun _ h => List.mem_cons_of_mem _ (List.mem_append_left _ (List.mem_append_left _ (List.mem_append_right _ h)))) (gdV (by decide +kernel) gdwsMX7_isSet)
theorem gwsMX7_isRule_1 : GoodIn wsMX7_isRule (wsV RX7 76 RX7 yX7_isHolder wsMX7_isHolder) := goodIn_sub (fun _ h => List.mem_cons_of_mem _ (List.mem_append_left _ (List.mem_append_right _ h))) (gdV (by decide +kernel) gdwsMX7_isHolder)
theorem gwsMX7_isRule_2 : GoodIn wsMX7_isRule (va_wsS RX7 79 yX7_isWithin wsMX7_isWithin) := goodIn_sub (fun _ h => List.mem_cons_of_mem _ (List.mem_append_right _ h)) (gdS (by decide +kernel) gdwsMX7_isWithin)
theorem gdwsMX7_isRule : wsMX7_isRule.all goodWord = true := gdC rfl (gdA (gdA (gdA (by decide +kernel : ([] : List Cond).all goodWord = true) (gdV (by decide +kernel) gdwsMX7_isSet)) (gdV (by decide +kernel) gdwsMX7_isHolder)) (gdS (by decide +kernel) gdwsMX7_isWithin))
set_option maxHeartbeats 4000000 in
set_option maxRecDepth 100000 in
/-- is it a rule -/
theorem m_X7_isRule (l : Launch) (dC : Nat → ClassId) (dI : Nat → Nat → Nat) (hV : Nat → Nat) (aV : Nat → Nat) (kV : Nat → ClassId) (iV_holders : Int32) (iV_rules : Int32) (fV_pairs : Nat → Int32) (fV_domain : Nat → Int32) (fV_kind : Nat → Int32) (fV_a : Nat → Int32) (fV_b : Nat → Int32) (fV_c : Nat → Int32) (fV_rulePairs : Nat → Int32) (fV_lastHolder : Nat → Int32) (fV_now : Nat → Int32) (iV_doneFor : Int32) (iV_changed : Int32) (gV_fore : Nat → Int64) (gV_back : Nat → Int64) (fV_together : Nat → Int32) (fV_member : Nat → Int32) (gV_list : Nat → Int64) (dV_list : Nat) (nV_list : Nat) (iV_listed : Int32) (iV_listDone : Int32) (p1 : Int32) (p2 : Int32) (p3 : Int32) (p4 : Int32) (b_iV_holders : 0 ≤ iV_holders.toInt ∧ iV_holders.toInt ≤ 10) (b_iV_rules : 0 ≤ iV_rules.toInt ∧ iV_rules.toInt ≤ 12) (b_fV_kind : ∀ q : Nat, 0 ≤ (fV_kind q).toInt ∧ (fV_kind q).toInt ≤ 4) (b_iV_changed : 0 ≤ iV_changed.toInt ∧ iV_changed.toInt ≤ 1) (b_fV_member : ∀ q : Nat, (-1) ≤ (fV_member q).toInt ∧ (fV_member q).toInt ≤ 15) (b_nV_list : 0 ≤ nV_list ∧ nV_list ≤ 20000) (b_iV_listed : (-1) ≤ iV_listed.toInt ∧ iV_listed.toInt ≤ 5000) (b_iV_listDone : 0 ≤ iV_listDone.toInt ∧ iV_listDone.toInt ≤ 1) (b_RuV : RuV fV_kind fV_a fV_b fV_c fV_lastHolder) (b_lst : iV_listed.toInt ≤ ((nV_list : Nat) : Int)) (sz : Nat) : Met l yX7_isRule wsMX7_isRule ({ frames := 1, cells := 0, slots := 0, locals := 21 }) (va_Pc [.ref (hV 0), .int p1, .int p2, .int p3, .int p4] (fun U => U.heap.size = sz ∧ va_P (dC, dI) vwCl (WV hV aV kV iV_holders iV_rules fV_pairs fV_domain fV_kind fV_a fV_b fV_c fV_rulePairs fV_lastHolder fV_now iV_doneFor iV_changed gV_fore gV_back fV_together fV_member gV_list dV_list nV_list iV_listed iV_listDone) U.heap ∧ va_K (dC, dI) vwCl (tV kV) U ∧ va_D (fun _ => True) (WV hV aV kV iV_holders iV_rules fV_pairs fV_domain fV_kind fV_a fV_b fV_c fV_rulePairs fV_lastHolder fV_now iV_doneFor iV_changed gV_fore gV_back fV_together fV_member gV_list dV_list nV_list iV_listed iV_listDone))) (va_Qi (fun (r : Int32) (u : Unit) => (0 ≤ r.toInt ∧ r.toInt ≤ 1) ∧ (r.toInt ≠ 0 → (0 ≤ p1.toInt ∧ p1.toInt ≤ 4) ∧ (p1.toInt = 1 → (0 ≤ p2.toInt ∧ p2.toInt ≤ 9) ∧ 0 ≤ p4.toInt ∧ p4.toInt ≤ 9) ∧ (p1.toInt = 4 → (0 ≤ p2.toInt ∧ p2.toInt ≤ 9) ∧ 0 ≤ p3.toInt ∧ p3.toInt ≤ 9)) ∧ ((r.toInt = 1 ∧ RulX p1 p2 p3 p4 iV_holders) ∨ (r.toInt = 0 ∧ ¬ RulX p1 p2 p3 p4 iV_holders))) (fun (u : Unit) t => va_P (dC, dI) vwCl (WV hV aV kV iV_holders iV_rules fV_pairs fV_domain fV_kind fV_a fV_b fV_c fV_rulePairs fV_lastHolder fV_now iV_doneFor iV_changed gV_fore gV_back fV_together fV_member gV_list dV_list nV_list iV_listed iV_listDone) t.heap ∧ va_D (va_A (WV hV aV kV iV_holders iV_rules fV_pairs fV_domain fV_kind fV_a fV_b fV_c fV_rulePairs fV_lastHolder fV_now iV_doneFor iV_changed gV_fore gV_back fV_together fV_member gV_list dV_list nV_list iV_listed iV_listDone) sz) (WV hV aV kV iV_holders iV_rules fV_pairs fV_domain fV_kind fV_a fV_b fV_c fV_rulePairs fV_lastHolder fV_now iV_doneFor iV_changed gV_fore gV_back fV_together fV_member gV_list dV_list nV_list iV_listed iV_listDone)) (va_A (WV hV aV kV iV_holders iV_rules fV_pairs fV_domain fV_kind fV_a fV_b fV_c fV_rulePairs fV_lastHolder fV_now iV_doneFor iV_changed gV_fore gV_back fV_together fV_member gV_list dV_list nV_list iV_listed iV_listDone) sz)) 0 0 (va_A (WV hV aV kV iV_holders iV_rules fV_pairs fV_domain fV_kind fV_a fV_b fV_c fV_rulePairs fV_lastHolder fV_now iV_doneFor iV_changed gV_fore gV_back fV_together fV_member gV_list dV_list nV_list iV_listed iV_listDone) sz) := by
  refine Met.ofW (cc := cX7_isRule) (maxL := 5) (ret := (some .boolean)) (by decide) rfl ?_
  intro p e s m args below meth c s₁ B hml hv
  obtain ⟨rfl, hsz, hP, hK, hD0⟩ := hv
  have hx := B.exec
  have hb := B.bytes
  have hr := B.returns
  have hts := atoms_spec (ws := wsMX7_isRule) B.pre
  have hown : s.vm.findClass RX7 = some m.cls := findClass_of_methodNamed B.named
  have hlocks := B.notSynchronized
  subst hsz
  have hD := hD0.self (sz := s.heap.size)
  generalize hAe : va_A (WV hV aV kV iV_holders iV_rules fV_pairs fV_domain fV_kind fV_a fV_b fV_c fV_rulePairs fV_lastHolder fV_now iV_doneFor iV_changed gV_fore gV_back fV_together fV_member gV_list dV_list nV_list iV_listed iV_listDone) s.heap.size = A at hD ⊢
  have hA : ∀ q : Nat, s.heap.size ≤ q → A q := fun q h => by rw [← hAe]; exact Or.inr h
  have hS : va_S A s.heap s.heap [] := va_S.rf
  have hl := lv_entry ([.ref (hV 0), .int p1, .int p2, .int p3, .int p4]) (n := 5) (Nat.le_of_ble_eq_true rfl)
  rw [lg_entry_eq]
  generalize (lg_sl ([.ref (hV 0), .int p1, .int p2, .int p3, .int p4]) ++ List.replicate (5 - (lg_sl ([.ref (hV 0), .int p1, .int p2, .int p3, .int p4])).length) Slot.unset).toArray = ls at hl ⊢
  have hl : lv_has ls 5 [(0, .ref (hV 0)), (1, .int p1), (2, .int p2), (3, .int p3), (4, .int p4)] := hl
  have h15c : (15 : Int32).toInt = 15 := by decide
  have h200c : (200 : Int32).toInt = 200 := by decide
  refine lv_iload_n hx hb dX7_isRule_0 rfl (lv_at hl 1 rfl) ?_
  by_cases s_1_0 : p1 = 0
  · have ts_1_0 : p1.toInt = 0 := toI_eq s_1_0 rfl (by decide)
    refine lv_tableIn (off := 35) (tgt := 36) hx hb dX7_isRule_1 (by rw [s_1_0]; decide) (by rw [s_1_0]; decide) (by rw [s_1_0]; decide) (by decide) ?_
    refine lv_aload_n hx hb dX7_isRule_36 rfl (lv_at hl 0 rfl) ?_
    refine lv_iload_n hx hb dX7_isRule_37 rfl (lv_at hl 2 rfl) ?_
    have hFc := allFree hD hS hA
    refine va_calli (va_runV (As := [.int p2]) (rest := []) ⟨hx, hb, hml, hown, hts⟩ (m_X7_isSet l dC dI hV aV kV iV_holders iV_rules fV_pairs fV_domain fV_kind fV_a fV_b fV_c fV_rulePairs fV_lastHolder fV_now iV_doneFor iV_changed gV_fore gV_back fV_together fV_member gV_list dV_list nV_list iV_listed iV_listDone p2 (b_iV_holders) (b_iV_rules) b_fV_kind (b_iV_changed) b_fV_member (by first | exact b_nV_list | with_reducible assumption | exact ⟨by omega, by omega⟩ | assumption) (b_iV_listed) (b_iV_listDone) (by first | with_reducible assumption | omega | assumption) (by first | with_reducible assumption | omega | assumption) s.heap.size) (cwV 1 hts gwsMX7_isRule_0 rfl rfl rfl hd_yX7_isSet_RX7 (by decide +kernel)) (fz_pre (va_recv hK hP (ci := 7) (q0 := 0) rfl rfl) hP hK hD) rfl rfl hl.1 rfl (lv_room (Nat.le_of_ble_eq_true rfl)) dX7_isRule_38 (by decide +kernel)) hS (fun q _ h => hFc q h) hFc (fun r1 u t9_ H locs ht hvm hw9 hB9 hz1 hk1 hS => ?_)
    revert hw9
    refine fz_a2 ?_
    intro b_r1 f1_0
    have hP : va_P (dC, dI) vwCl (WV hV aV kV iV_holders iV_rules fV_pairs fV_domain fV_kind fV_a fV_b fV_c fV_rulePairs fV_lastHolder fV_now iV_doneFor iV_changed gV_fore gV_back fV_together fV_member gV_list dV_list nV_list iV_listed iV_listDone) H := fz_P ht hB9.1
    have hD := fz_sd hP (hB9.2.weaken (fun _ q _ h => hFc q.1 h)) rfl
    have hsA := f1_0
    refine W.widen (k := 0) (n := 0) (by decide +kernel) (by decide +kernel) ?_
    exact W.zret (v := r1) hx hb hr (by rcases z01 (x := r1) (by first | exact b_r1 | with_reducible assumption | exact ⟨by omega, by omega⟩ | assumption) with h9 | h9 <;> rw [h9] <;> rfl) (fun t9_ ht hW => ⟨⟨r1, (), rfl, ⟨(by first | exact b_r1 | with_reducible assumption | exact ⟨by omega, by omega⟩ | assumption), (by (try dsimp only); intro h9; first | exact absurd (by decide) h9 | refine ⟨⟨by omega, by omega⟩, fun h8 => ?_, fun h8 => ?_⟩ <;> first | omega | (refine ⟨⟨?_, ?_⟩, ?_, ?_⟩ <;> omega)), (by (try dsimp only); rcases hsA with ⟨h7, h6⟩ | ⟨h7, h6⟩; (exact Or.inl ⟨h7, (show ((p1.toInt = 0 ∧ (0 < p2.toInt ∧ p2.toInt < ((1 : Int32) <<< (iV_holders &&& 31)).toInt)) ∨ (p1.toInt = 1 ∧ (0 ≤ p2.toInt ∧ p2.toInt < iV_holders.toInt) ∧ (0 ≤ p4.toInt ∧ p4.toInt < iV_holders.toInt) ∧ (-15 ≤ p3.toInt ∧ p3.toInt ≤ 15)) ∨ (p1.toInt = 2 ∧ (0 < p2.toInt ∧ p2.toInt < ((1 : Int32) <<< (iV_holders &&& 31)).toInt) ∧ (-200 ≤ p3.toInt ∧ p3.toInt ≤ 200) ∧ (-200 ≤ p4.toInt ∧ p4.toInt ≤ 200)) ∨ (p1.toInt = 3 ∧ (0 < p2.toInt ∧ p2.toInt < ((1 : Int32) <<< (iV_holders &&& 31)).toInt) ∧ (-200 ≤ p3.toInt ∧ p3.toInt ≤ 200) ∧ (0 ≤ p4.toInt ∧ p4.toInt ≤ 15)) ∨ (p1.toInt = 4 ∧ (0 ≤ p2.toInt ∧ p2.toInt < iV_holders.toInt) ∧ (0 ≤ p3.toInt ∧ p3.toInt < iV_holders.toInt) ∧ p2.toInt ≠ p3.toInt)) from Or.inl ⟨by omega, h6⟩)⟩); (exact Or.inr ⟨h7, fun h9 => by have h8 : ((p1.toInt = 0 ∧ (0 < p2.toInt ∧ p2.toInt < ((1 : Int32) <<< (iV_holders &&& 31)).toInt)) ∨ (p1.toInt = 1 ∧ (0 ≤ p2.toInt ∧ p2.toInt < iV_holders.toInt) ∧ (0 ≤ p4.toInt ∧ p4.toInt < iV_holders.toInt) ∧ (-15 ≤ p3.toInt ∧ p3.toInt ≤ 15)) ∨ (p1.toInt = 2 ∧ (0 < p2.toInt ∧ p2.toInt < ((1 : Int32) <<< (iV_holders &&& 31)).toInt) ∧ (-200 ≤ p3.toInt ∧ p3.toInt ≤ 200) ∧ (-200 ≤ p4.toInt ∧ p4.toInt ≤ 200)) ∨ (p1.toInt = 3 ∧ (0 < p2.toInt ∧ p2.toInt < ((1 : Int32) <<< (iV_holders &&& 31)).toInt) ∧ (-200 ≤ p3.toInt ∧ p3.toInt ≤ 200) ∧ (0 ≤ p4.toInt ∧ p4.toInt ≤ 15)) ∨ (p1.toInt = 4 ∧ (0 ≤ p2.toInt ∧ p2.toInt < iV_holders.toInt) ∧ (0 ≤ p3.toInt ∧ p3.toInt < iV_holders.toInt) ∧ p2.toInt ≠ p3.toInt)) := h9; rcases h8 with h8 | h8 | h8 | h8 | h8 <;> omega⟩))⟩, by rw [ht]; exact hP, hD⟩, hS.F ht⟩) hS.2.2 dX7_isRule_41
  · have ts_1_0 : ¬ p1.toInt = 0 := toI_neq s_1_0 rfl (by decide)
    by_cases s_1_1 : p1 = 1
    · have ts_1_1 : p1.toInt = 1 := toI_eq s_1_1 rfl (by decide)
      refine lv_tableIn (off := 41) (tgt := 42) hx hb dX7_isRule_1 (by rw [s_1_1]; decide) (by rw [s_1_1]; decide) (by rw [s_1_1]; decide) (by decide) ?_
      refine lv_aload_n hx hb dX7_isRule_42 rfl (lv_at hl 0 rfl) ?_
      refine lv_iload_n hx hb dX7_isRule_43 rfl (lv_at hl 2 rfl) ?_
      have hFc := allFree hD hS hA
      refine va_calli (va_runV (As := [.int p2]) (rest := []) ⟨hx, hb, hml, hown, hts⟩ (m_X7_isHolder l dC dI hV aV kV iV_holders iV_rules fV_pairs fV_domain fV_kind fV_a fV_b fV_c fV_rulePairs fV_lastHolder fV_now iV_doneFor iV_changed gV_fore gV_back fV_together fV_member gV_list dV_list nV_list iV_listed iV_listDone p2 (b_iV_holders) (b_iV_rules) b_fV_kind (b_iV_changed) b_fV_member (by first | exact b_nV_list | with_reducible assumption | exact ⟨by omega, by omega⟩ | assumption) (b_iV_listed) (b_iV_listDone) (by first | with_reducible assumption | omega | assumption) (by first | with_reducible assumption | omega | assumption) s.heap.size) (cwV 1 hts gwsMX7_isRule_1 rfl rfl rfl hd_yX7_isHolder_RX7 (by decide +kernel)) (fz_pre (va_recv hK hP (ci := 7) (q0 := 0) rfl rfl) hP hK hD) rfl rfl hl.1 rfl (lv_room (Nat.le_of_ble_eq_true rfl)) dX7_isRule_44 (by decide +kernel)) hS (fun q _ h => hFc q h) hFc (fun r2 u t9_ H locs ht hvm hw9 hB9 hz1 hk1 hS => ?_)
      revert hw9
      refine fz_a3 ?_
      intro b_r2 f2_0 f2_1
      have hP : va_P (dC, dI) vwCl (WV hV aV kV iV_holders iV_rules fV_pairs fV_domain fV_kind fV_a fV_b fV_c fV_rulePairs fV_lastHolder fV_now iV_doneFor iV_changed gV_fore gV_back fV_together fV_member gV_list dV_list nV_list iV_listed iV_listDone) H := fz_P ht hB9.1
      have hD := fz_sd hP (hB9.2.weaken (fun _ q _ h => hFc q.1 h)) rfl
      have hhA := f2_1
      refine lv_if_eq (tgt := 72) hx hb dX7_isRule_47 (by decide) (fun c_47 => ?_) (fun c_47 => ?_)
      · have t_47 : r2.toInt = 0 := toI_eq c_47 rfl (by decide : (0 : Int32).toInt = 0)
        refine lv_iconst (v := 0) hx hb dX7_isRule_72 (by decide) ?_
        refine W.widen (k := 0) (n := 0) (by decide +kernel) (by decide +kernel) ?_
        exact W.zret (v := 0) hx hb hr rfl (fun t9_ ht hW => ⟨⟨(0 : Int32), (), rfl, ⟨(show 0 ≤ (0 : Int32).toInt ∧ (0 : Int32).toInt ≤ 1 from by decide), (by (try dsimp only); intro h9; first | exact absurd (by decide) h9 | refine ⟨⟨by omega, by omega⟩, fun h8 => ?_, fun h8 => ?_⟩ <;> first | omega | (refine ⟨⟨?_, ?_⟩, ?_, ?_⟩ <;> omega)), (by (try dsimp only); exact (Or.inr ⟨by decide, fun h9 => by have h8 : ((p1.toInt = 0 ∧ (0 < p2.toInt ∧ p2.toInt < ((1 : Int32) <<< (iV_holders &&& 31)).toInt)) ∨ (p1.toInt = 1 ∧ (0 ≤ p2.toInt ∧ p2.toInt < iV_holders.toInt) ∧ (0 ≤ p4.toInt ∧ p4.toInt < iV_holders.toInt) ∧ (-15 ≤ p3.toInt ∧ p3.toInt ≤ 15)) ∨ (p1.toInt = 2 ∧ (0 < p2.toInt ∧ p2.toInt < ((1 : Int32) <<< (iV_holders &&& 31)).toInt) ∧ (-200 ≤ p3.toInt ∧ p3.toInt ≤ 200) ∧ (-200 ≤ p4.toInt ∧ p4.toInt ≤ 200)) ∨ (p1.toInt = 3 ∧ (0 < p2.toInt ∧ p2.toInt < ((1 : Int32) <<< (iV_holders &&& 31)).toInt) ∧ (-200 ≤ p3.toInt ∧ p3.toInt ≤ 200) ∧ (0 ≤ p4.toInt ∧ p4.toInt ≤ 15)) ∨ (p1.toInt = 4 ∧ (0 ≤ p2.toInt ∧ p2.toInt < iV_holders.toInt) ∧ (0 ≤ p3.toInt ∧ p3.toInt < iV_holders.toInt) ∧ p2.toInt ≠ p3.toInt)) := h9; rcases h8 with h8 | h8 | h8 | h8 | h8 <;> omega⟩))⟩, by rw [ht]; exact hP, hD⟩, hS.F ht⟩) hS.2.2 dX7_isRule_73
      · have t_47 : ¬ r2.toInt = 0 := toI_neq c_47 rfl (by decide : (0 : Int32).toInt = 0)
        refine lv_iload_n hx hb dX7_isRule_50 rfl (lv_at hl 3 rfl) ?_
        refine lv_bipush (v := 15) hx hb dX7_isRule_51 (by decide) ?_
        have hFc := noneFree hS hA
        refine va_calli (va_runS (As := [.int p3, .int 15]) (rest := []) ⟨hx, hb, hml, hown, hts⟩ (m_X7_isWithin l dC dI p3 15 (show 0 ≤ (15 : Int32).toInt ∧ (15 : Int32).toInt ≤ 1000 from by decide) H.size) (va_cwS 2 hts gwsMX7_isRule_2 rfl rfl rfl (by decide +kernel) ⟨by decide +kernel, by decide +kernel⟩) ⟨fun a U g mk q => by obtain ⟨q0, q1, qP, qK, qD⟩ := q; exact ⟨q0, q1, qP, va_K.moved (u := U) (U := U.calling g mk a) (Vm.Alike.refl U.vm) qK, qD⟩, fun U hU9 hW => ⟨rfl, by rw [hU9], by rw [hU9]; exact nilP, va_K.moved hW.alike (hK.sub (tys' := []) [] rfl), nilD⟩⟩ rfl rfl hl.1 rfl (lv_room (Nat.le_of_ble_eq_true rfl)) dX7_isRule_53 (by decide +kernel)) hS (fun q _ h => hFc q h) hFc (fun r3 u t9_ H1 locs ht hvm hw9 hB9 hz1 hk1 hS => ?_)
        revert hw9
        refine fz_a2 ?_
        intro b_r3 f3_0
        clear hB9
        have hP := keepAll hP hk1
        generalize H1 = H at hP hS ⊢
        have hP : va_P (dC, dI) vwCl (WV hV aV kV iV_holders iV_rules fV_pairs fV_domain fV_kind fV_a fV_b fV_c fV_rulePairs fV_lastHolder fV_now iV_doneFor iV_changed gV_fore gV_back fV_together fV_member gV_list dV_list nV_list iV_listed iV_listDone) H := hP
        have hD := fz_sd hP (hD) rfl
        have hwB := f3_0
        refine lv_if_eq (tgt := 72) hx hb dX7_isRule_56 (by decide) (fun c_56 => ?_) (fun c_56 => ?_)
        · have t_56 : r3.toInt = 0 := toI_eq c_56 rfl (by decide : (0 : Int32).toInt = 0)
          refine lv_iconst (v := 0) hx hb dX7_isRule_72 (by decide) ?_
          refine W.widen (k := 0) (n := 0) (by decide +kernel) (by decide +kernel) ?_
          exact W.zret (v := 0) hx hb hr rfl (fun t9_ ht hW => ⟨⟨(0 : Int32), (), rfl, ⟨(show 0 ≤ (0 : Int32).toInt ∧ (0 : Int32).toInt ≤ 1 from by decide), (by (try dsimp only); intro h9; first | exact absurd (by decide) h9 | refine ⟨⟨by omega, by omega⟩, fun h8 => ?_, fun h8 => ?_⟩ <;> first | omega | (refine ⟨⟨?_, ?_⟩, ?_, ?_⟩ <;> omega)), (by (try dsimp only); exact (Or.inr ⟨by decide, fun h9 => by have h8 : ((p1.toInt = 0 ∧ (0 < p2.toInt ∧ p2.toInt < ((1 : Int32) <<< (iV_holders &&& 31)).toInt)) ∨ (p1.toInt = 1 ∧ (0 ≤ p2.toInt ∧ p2.toInt < iV_holders.toInt) ∧ (0 ≤ p4.toInt ∧ p4.toInt < iV_holders.toInt) ∧ (-15 ≤ p3.toInt ∧ p3.toInt ≤ 15)) ∨ (p1.toInt = 2 ∧ (0 < p2.toInt ∧ p2.toInt < ((1 : Int32) <<< (iV_holders &&& 31)).toInt) ∧ (-200 ≤ p3.toInt ∧ p3.toInt ≤ 200) ∧ (-200 ≤ p4.toInt ∧ p4.toInt ≤ 200)) ∨ (p1.toInt = 3 ∧ (0 < p2.toInt ∧ p2.toInt < ((1 : Int32) <<< (iV_holders &&& 31)).toInt) ∧ (-200 ≤ p3.toInt ∧ p3.toInt ≤ 200) ∧ (0 ≤ p4.toInt ∧ p4.toInt ≤ 15)) ∨ (p1.toInt = 4 ∧ (0 ≤ p2.toInt ∧ p2.toInt < iV_holders.toInt) ∧ (0 ≤ p3.toInt ∧ p3.toInt < iV_holders.toInt) ∧ p2.toInt ≠ p3.toInt)) := h9; rcases h8 with h8 | h8 | h8 | h8 | h8 <;> omega⟩))⟩, by rw [ht]; exact hP, hD⟩, hS.F ht⟩) hS.2.2 dX7_isRule_73
        · have t_56 : ¬ r3.toInt = 0 := toI_neq c_56 rfl (by decide : (0 : Int32).toInt = 0)
          refine lv_aload_n hx hb dX7_isRule_59 rfl (lv_at hl 0 rfl) ?_
          refine lv_iload hx hb dX7_isRule_60 (lv_at hl 4 rfl) ?_
          have hFc := allFree hD hS hA
          refine va_calli (va_runV (As := [.int p4]) (rest := []) ⟨hx, hb, hml, hown, hts⟩ (m_X7_isHolder l dC dI hV aV kV iV_holders iV_rules fV_pairs fV_domain fV_kind fV_a fV_b fV_c fV_rulePairs fV_lastHolder fV_now iV_doneFor iV_changed gV_fore gV_back fV_together fV_member gV_list dV_list nV_list iV_listed iV_listDone p4 (b_iV_holders) (b_iV_rules) b_fV_kind (b_iV_changed) b_fV_member (by first | exact b_nV_list | with_reducible assumption | exact ⟨by omega, by omega⟩ | assumption) (b_iV_listed) (b_iV_listDone) (by first | with_reducible assumption | omega | assumption) (by first | with_reducible assumption | omega | assumption) H.size) (cwV 1 hts gwsMX7_isRule_1 rfl rfl rfl hd_yX7_isHolder_RX7 (by decide +kernel)) (fz_pre (va_recv hK hP (ci := 7) (q0 := 0) rfl rfl) hP hK hD) rfl rfl hl.1 rfl (lv_room (Nat.le_of_ble_eq_true rfl)) dX7_isRule_62 (by decide +kernel)) hS (fun q _ h => hFc q h) hFc (fun r4 u t9_ H locs ht hvm hw9 hB9 hz1 hk1 hS => ?_)
          revert hw9
          refine fz_a3 ?_
          intro b_r4 f4_0 f4_1
          have hP : va_P (dC, dI) vwCl (WV hV aV kV iV_holders iV_rules fV_pairs fV_domain fV_kind fV_a fV_b fV_c fV_rulePairs fV_lastHolder fV_now iV_doneFor iV_changed gV_fore gV_back fV_together fV_member gV_list dV_list nV_list iV_listed iV_listDone) H := fz_P ht hB9.1
          have hD := fz_sd hP (hB9.2.weaken (fun _ q _ h => hFc q.1 h)) rfl
          have hhC := f4_1
          refine lv_if_eq (tgt := 72) hx hb dX7_isRule_65 (by decide) (fun c_65 => ?_) (fun c_65 => ?_)
          · have t_65 : r4.toInt = 0 := toI_eq c_65 rfl (by decide : (0 : Int32).toInt = 0)
            refine lv_iconst (v := 0) hx hb dX7_isRule_72 (by decide) ?_
            refine W.widen (k := 0) (n := 0) (by decide +kernel) (by decide +kernel) ?_
            exact W.zret (v := 0) hx hb hr rfl (fun t9_ ht hW => ⟨⟨(0 : Int32), (), rfl, ⟨(show 0 ≤ (0 : Int32).toInt ∧ (0 : Int32).toInt ≤ 1 from by decide), (by (try dsimp only); intro h9; first | exact absurd (by decide) h9 | refine ⟨⟨by omega, by omega⟩, fun h8 => ?_, fun h8 => ?_⟩ <;> first | omega | (refine ⟨⟨?_, ?_⟩, ?_, ?_⟩ <;> omega)), (by (try dsimp only); exact (Or.inr ⟨by decide, fun h9 => by have h8 : ((p1.toInt = 0 ∧ (0 < p2.toInt ∧ p2.toInt < ((1 : Int32) <<< (iV_holders &&& 31)).toInt)) ∨ (p1.toInt = 1 ∧ (0 ≤ p2.toInt ∧ p2.toInt < iV_holders.toInt) ∧ (0 ≤ p4.toInt ∧ p4.toInt < iV_holders.toInt) ∧ (-15 ≤ p3.toInt ∧ p3.toInt ≤ 15)) ∨ (p1.toInt = 2 ∧ (0 < p2.toInt ∧ p2.toInt < ((1 : Int32) <<< (iV_holders &&& 31)).toInt) ∧ (-200 ≤ p3.toInt ∧ p3.toInt ≤ 200) ∧ (-200 ≤ p4.toInt ∧ p4.toInt ≤ 200)) ∨ (p1.toInt = 3 ∧ (0 < p2.toInt ∧ p2.toInt < ((1 : Int32) <<< (iV_holders &&& 31)).toInt) ∧ (-200 ≤ p3.toInt ∧ p3.toInt ≤ 200) ∧ (0 ≤ p4.toInt ∧ p4.toInt ≤ 15)) ∨ (p1.toInt = 4 ∧ (0 ≤ p2.toInt ∧ p2.toInt < iV_holders.toInt) ∧ (0 ≤ p3.toInt ∧ p3.toInt < iV_holders.toInt) ∧ p2.toInt ≠ p3.toInt)) := h9; rcases h8 with h8 | h8 | h8 | h8 | h8 <;> omega⟩))⟩, by rw [ht]; exact hP, hD⟩, hS.F ht⟩) hS.2.2 dX7_isRule_73
          · have t_65 : ¬ r4.toInt = 0 := toI_neq c_65 rfl (by decide : (0 : Int32).toInt = 0)
            refine lv_iconst (v := 1) hx hb dX7_isRule_68 (by decide) ?_
            refine lv_goto (tgt := 73) hx hb dX7_isRule_69 (by decide) ?_
            refine W.widen (k := 0) (n := 0) (by decide +kernel) (by decide +kernel) ?_
            exact W.zret (v := 1) hx hb hr rfl (fun t9_ ht hW => ⟨⟨(1 : Int32), (), rfl, ⟨(show 0 ≤ (1 : Int32).toInt ∧ (1 : Int32).toInt ≤ 1 from by decide), (by (try dsimp only); intro h9; first | exact absurd (by decide) h9 | refine ⟨⟨by omega, by omega⟩, fun h8 => ?_, fun h8 => ?_⟩ <;> first | omega | (refine ⟨⟨?_, ?_⟩, ?_, ?_⟩ <;> omega)), (by (try dsimp only); exact (Or.inl ⟨by decide, (show ((p1.toInt = 0 ∧ (0 < p2.toInt ∧ p2.toInt < ((1 : Int32) <<< (iV_holders &&& 31)).toInt)) ∨ (p1.toInt = 1 ∧ (0 ≤ p2.toInt ∧ p2.toInt < iV_holders.toInt) ∧ (0 ≤ p4.toInt ∧ p4.toInt < iV_holders.toInt) ∧ (-15 ≤ p3.toInt ∧ p3.toInt ≤ 15)) ∨ (p1.toInt = 2 ∧ (0 < p2.toInt ∧ p2.toInt < ((1 : Int32) <<< (iV_holders &&& 31)).toInt) ∧ (-200 ≤ p3.toInt ∧ p3.toInt ≤ 200) ∧ (-200 ≤ p4.toInt ∧ p4.toInt ≤ 200)) ∨ (p1.toInt = 3 ∧ (0 < p2.toInt ∧ p2.toInt < ((1 : Int32) <<< (iV_holders &&& 31)).toInt) ∧ (-200 ≤ p3.toInt ∧ p3.toInt ≤ 200) ∧ (0 ≤ p4.toInt ∧ p4.toInt ≤ 15)) ∨ (p1.toInt = 4 ∧ (0 ≤ p2.toInt ∧ p2.toInt < iV_holders.toInt) ∧ (0 ≤ p3.toInt ∧ p3.toInt < iV_holders.toInt) ∧ p2.toInt ≠ p3.toInt)) from Or.inr (Or.inl ⟨by omega, ⟨by omega, by omega⟩, ⟨by omega, by omega⟩, by omega, by omega⟩))⟩))⟩, by rw [ht]; exact hP, hD⟩, hS.F ht⟩) hS.2.2 dX7_isRule_73
    · have ts_1_1 : ¬ p1.toInt = 1 := toI_neq s_1_1 rfl (by decide)
      by_cases s_1_2 : p1 = 2
      · have ts_1_2 : p1.toInt = 2 := toI_eq s_1_2 rfl (by decide)
        refine lv_tableIn (off := 73) (tgt := 74) hx hb dX7_isRule_1 (by rw [s_1_2]; decide) (by rw [s_1_2]; decide) (by rw [s_1_2]; decide) (by decide) ?_
        refine lv_aload_n hx hb dX7_isRule_74 rfl (lv_at hl 0 rfl) ?_
        refine lv_iload_n hx hb dX7_isRule_75 rfl (lv_at hl 2 rfl) ?_
        have hFc := allFree hD hS hA
        refine va_calli (va_runV (As := [.int p2]) (rest := []) ⟨hx, hb, hml, hown, hts⟩ (m_X7_isSet l dC dI hV aV kV iV_holders iV_rules fV_pairs fV_domain fV_kind fV_a fV_b fV_c fV_rulePairs fV_lastHolder fV_now iV_doneFor iV_changed gV_fore gV_back fV_together fV_member gV_list dV_list nV_list iV_listed iV_listDone p2 (b_iV_holders) (b_iV_rules) b_fV_kind (b_iV_changed) b_fV_member (by first | exact b_nV_list | with_reducible assumption | exact ⟨by omega, by omega⟩ | assumption) (b_iV_listed) (b_iV_listDone) (by first | with_reducible assumption | omega | assumption) (by first | with_reducible assumption | omega | assumption) s.heap.size) (cwV 1 hts gwsMX7_isRule_0 rfl rfl rfl hd_yX7_isSet_RX7 (by decide +kernel)) (fz_pre (va_recv hK hP (ci := 7) (q0 := 0) rfl rfl) hP hK hD) rfl rfl hl.1 rfl (lv_room (Nat.le_of_ble_eq_true rfl)) dX7_isRule_76 (by decide +kernel)) hS (fun q _ h => hFc q h) hFc (fun r5 u t9_ H locs ht hvm hw9 hB9 hz1 hk1 hS => ?_)
        revert hw9
        refine fz_a2 ?_
        intro b_r5 f5_0
        have hP : va_P (dC, dI) vwCl (WV hV aV kV iV_holders iV_rules fV_pairs fV_domain fV_kind fV_a fV_b fV_c fV_rulePairs fV_lastHolder fV_now iV_doneFor iV_changed gV_fore gV_back fV_together fV_member gV_list dV_list nV_list iV_listed iV_listDone) H := fz_P ht hB9.1
        have hD := fz_sd hP (hB9.2.weaken (fun _ q _ h => hFc q.1 h)) rfl
        have hsA := f5_0
        refine lv_if_eq (tgt := 107) hx hb dX7_isRule_79 (by decide) (fun c_79 => ?_) (fun c_79 => ?_)
        · have t_79 : r5.toInt = 0 := toI_eq c_79 rfl (by decide : (0 : Int32).toInt = 0)
          refine lv_iconst (v := 0) hx hb dX7_isRule_107 (by decide) ?_
          refine W.widen (k := 0) (n := 0) (by decide +kernel) (by decide +kernel) ?_
          exact W.zret (v := 0) hx hb hr rfl (fun t9_ ht hW => ⟨⟨(0 : Int32), (), rfl, ⟨(show 0 ≤ (0 : Int32).toInt ∧ (0 : Int32).toInt ≤ 1 from by decide), (by (try dsimp only); intro h9; first | exact absurd (by decide) h9 | refine ⟨⟨by omega, by omega⟩, fun h8 => ?_, fun h8 => ?_⟩ <;> first | omega | (refine ⟨⟨?_, ?_⟩, ?_, ?_⟩ <;> omega)), (by (try dsimp only); exact (Or.inr ⟨by decide, fun h9 => by have h8 : ((p1.toInt = 0 ∧ (0 < p2.toInt ∧ p2.toInt < ((1 : Int32) <<< (iV_holders &&& 31)).toInt)) ∨ (p1.toInt = 1 ∧ (0 ≤ p2.toInt ∧ p2.toInt < iV_holders.toInt) ∧ (0 ≤ p4.toInt ∧ p4.toInt < iV_holders.toInt) ∧ (-15 ≤ p3.toInt ∧ p3.toInt ≤ 15)) ∨ (p1.toInt = 2 ∧ (0 < p2.toInt ∧ p2.toInt < ((1 : Int32) <<< (iV_holders &&& 31)).toInt) ∧ (-200 ≤ p3.toInt ∧ p3.toInt ≤ 200) ∧ (-200 ≤ p4.toInt ∧ p4.toInt ≤ 200)) ∨ (p1.toInt = 3 ∧ (0 < p2.toInt ∧ p2.toInt < ((1 : Int32) <<< (iV_holders &&& 31)).toInt) ∧ (-200 ≤ p3.toInt ∧ p3.toInt ≤ 200) ∧ (0 ≤ p4.toInt ∧ p4.toInt ≤ 15)) ∨ (p1.toInt = 4 ∧ (0 ≤ p2.toInt ∧ p2.toInt < iV_holders.toInt) ∧ (0 ≤ p3.toInt ∧ p3.toInt < iV_holders.toInt) ∧ p2.toInt ≠ p3.toInt)) := h9; rcases h8 with h8 | h8 | h8 | h8 | h8 <;> omega⟩))⟩, by rw [ht]; exact hP, hD⟩, hS.F ht⟩) hS.2.2 dX7_isRule_108
        · have t_79 : ¬ r5.toInt = 0 := toI_neq c_79 rfl (by decide : (0 : Int32).toInt = 0)
          refine lv_iload_n hx hb dX7_isRule_82 rfl (lv_at hl 3 rfl) ?_
          refine lv_sipush (v := 200) hx hb dX7_isRule_83 (by decide) ?_
          have hFc := noneFree hS hA
          refine va_calli (va_runS (As := [.int p3, .int 200]) (rest := []) ⟨hx, hb, hml, hown, hts⟩ (m_X7_isWithin l dC dI p3 200 (show 0 ≤ (200 : Int32).toInt ∧ (200 : Int32).toInt ≤ 1000 from by decide) H.size) (va_cwS 2 hts gwsMX7_isRule_2 rfl rfl rfl (by decide +kernel) ⟨by decide +kernel, by decide +kernel⟩) ⟨fun a U g mk q => by obtain ⟨q0, q1, qP, qK, qD⟩ := q; exact ⟨q0, q1, qP, va_K.moved (u := U) (U := U.calling g mk a) (Vm.Alike.refl U.vm) qK, qD⟩, fun U hU9 hW => ⟨rfl, by rw [hU9], by rw [hU9]; exact nilP, va_K.moved hW.alike (hK.sub (tys' := []) [] rfl), nilD⟩⟩ rfl rfl hl.1 rfl (lv_room (Nat.le_of_ble_eq_true rfl)) dX7_isRule_86 (by decide +kernel)) hS (fun q _ h => hFc q h) hFc (fun r6 u t9_ H1 locs ht hvm hw9 hB9 hz1 hk1 hS => ?_)
          revert hw9
          refine fz_a2 ?_
          intro b_r6 f6_0
          clear hB9
          have hP := keepAll hP hk1
          generalize H1 = H at hP hS ⊢
          have hP : va_P (dC, dI) vwCl (WV hV aV kV iV_holders iV_rules fV_pairs fV_domain fV_kind fV_a fV_b fV_c fV_rulePairs fV_lastHolder fV_now iV_doneFor iV_changed gV_fore gV_back fV_together fV_member gV_list dV_list nV_list iV_listed iV_listDone) H := hP
          have hD := fz_sd hP (hD) rfl
          have hwB := f6_0
          refine lv_if_eq (tgt := 107) hx hb dX7_isRule_89 (by decide) (fun c_89 => ?_) (fun c_89 => ?_)
          · have t_89 : r6.toInt = 0 := toI_eq c_89 rfl (by decide : (0 : Int32).toInt = 0)
            refine lv_iconst (v := 0) hx hb dX7_isRule_107 (by decide) ?_
            refine W.widen (k := 0) (n := 0) (by decide +kernel) (by decide +kernel) ?_
            exact W.zret (v := 0) hx hb hr rfl (fun t9_ ht hW => ⟨⟨(0 : Int32), (), rfl, ⟨(show 0 ≤ (0 : Int32).toInt ∧ (0 : Int32).toInt ≤ 1 from by decide), (by (try dsimp only); intro h9; first | exact absurd (by decide) h9 | refine ⟨⟨by omega, by omega⟩, fun h8 => ?_, fun h8 => ?_⟩ <;> first | omega | (refine ⟨⟨?_, ?_⟩, ?_, ?_⟩ <;> omega)), (by (try dsimp only); exact (Or.inr ⟨by decide, fun h9 => by have h8 : ((p1.toInt = 0 ∧ (0 < p2.toInt ∧ p2.toInt < ((1 : Int32) <<< (iV_holders &&& 31)).toInt)) ∨ (p1.toInt = 1 ∧ (0 ≤ p2.toInt ∧ p2.toInt < iV_holders.toInt) ∧ (0 ≤ p4.toInt ∧ p4.toInt < iV_holders.toInt) ∧ (-15 ≤ p3.toInt ∧ p3.toInt ≤ 15)) ∨ (p1.toInt = 2 ∧ (0 < p2.toInt ∧ p2.toInt < ((1 : Int32) <<< (iV_holders &&& 31)).toInt) ∧ (-200 ≤ p3.toInt ∧ p3.toInt ≤ 200) ∧ (-200 ≤ p4.toInt ∧ p4.toInt ≤ 200)) ∨ (p1.toInt = 3 ∧ (0 < p2.toInt ∧ p2.toInt < ((1 : Int32) <<< (iV_holders &&& 31)).toInt) ∧ (-200 ≤ p3.toInt ∧ p3.toInt ≤ 200) ∧ (0 ≤ p4.toInt ∧ p4.toInt ≤ 15)) ∨ (p1.toInt = 4 ∧ (0 ≤ p2.toInt ∧ p2.toInt < iV_holders.toInt) ∧ (0 ≤ p3.toInt ∧ p3.toInt < iV_holders.toInt) ∧ p2.toInt ≠ p3.toInt)) := h9; rcases h8 with h8 | h8 | h8 | h8 | h8 <;> omega⟩))⟩, by rw [ht]; exact hP, hD⟩, hS.F ht⟩) hS.2.2 dX7_isRule_108
          · have t_89 : ¬ r6.toInt = 0 := toI_neq c_89 rfl (by decide : (0 : Int32).toInt = 0)
            refine lv_iload hx hb dX7_isRule_92 (lv_at hl 4 rfl) ?_
            refine lv_sipush (v := 200) hx hb dX7_isRule_94 (by decide) ?_
            have hFc := noneFree hS hA
            refine va_calli (va_runS (As := [.int p4, .int 200]) (rest := []) ⟨hx, hb, hml, hown, hts⟩ (m_X7_isWithin l dC dI p4 200 (show 0 ≤ (200 : Int32).toInt ∧ (200 : Int32).toInt ≤ 1000 from by decide) H.size) (va_cwS 2 hts gwsMX7_isRule_2 rfl rfl rfl (by decide +kernel) ⟨by decide +kernel, by decide +kernel⟩) ⟨fun a U g mk q => by obtain ⟨q0, q1, qP, qK, qD⟩ := q; exact ⟨q0, q1, qP, va_K.moved (u := U) (U := U.calling g mk a) (Vm.Alike.refl U.vm) qK, qD⟩, fun U hU9 hW => ⟨rfl, by rw [hU9], by rw [hU9]; exact nilP, va_K.moved hW.alike (hK.sub (tys' := []) [] rfl), nilD⟩⟩ rfl rfl hl.1 rfl (lv_room (Nat.le_of_ble_eq_true rfl)) dX7_isRule_97 (by decide +kernel)) hS (fun q _ h => hFc q h) hFc (fun r7 u t9_ H1 locs ht hvm hw9 hB9 hz1 hk1 hS => ?_)
            revert hw9
            refine fz_a2 ?_
            intro b_r7 f7_0
            clear hB9
            have hP := keepAll hP hk1
            generalize H1 = H at hP hS ⊢
            have hP : va_P (dC, dI) vwCl (WV hV aV kV iV_holders iV_rules fV_pairs fV_domain fV_kind fV_a fV_b fV_c fV_rulePairs fV_lastHolder fV_now iV_doneFor iV_changed gV_fore gV_back fV_together fV_member gV_list dV_list nV_list iV_listed iV_listDone) H := hP
            have hD := fz_sd hP (hD) rfl
            have hwC := f7_0
            refine lv_if_eq (tgt := 107) hx hb dX7_isRule_100 (by decide) (fun c_100 => ?_) (fun c_100 => ?_)
            · have t_100 : r7.toInt = 0 := toI_eq c_100 rfl (by decide : (0 : Int32).toInt = 0)
              refine lv_iconst (v := 0) hx hb dX7_isRule_107 (by decide) ?_
              refine W.widen (k := 0) (n := 0) (by decide +kernel) (by decide +kernel) ?_
              exact W.zret (v := 0) hx hb hr rfl (fun t9_ ht hW => ⟨⟨(0 : Int32), (), rfl, ⟨(show 0 ≤ (0 : Int32).toInt ∧ (0 : Int32).toInt ≤ 1 from by decide), (by (try dsimp only); intro h9; first | exact absurd (by decide) h9 | refine ⟨⟨by omega, by omega⟩, fun h8 => ?_, fun h8 => ?_⟩ <;> first | omega | (refine ⟨⟨?_, ?_⟩, ?_, ?_⟩ <;> omega)), (by (try dsimp only); exact (Or.inr ⟨by decide, fun h9 => by have h8 : ((p1.toInt = 0 ∧ (0 < p2.toInt ∧ p2.toInt < ((1 : Int32) <<< (iV_holders &&& 31)).toInt)) ∨ (p1.toInt = 1 ∧ (0 ≤ p2.toInt ∧ p2.toInt < iV_holders.toInt) ∧ (0 ≤ p4.toInt ∧ p4.toInt < iV_holders.toInt) ∧ (-15 ≤ p3.toInt ∧ p3.toInt ≤ 15)) ∨ (p1.toInt = 2 ∧ (0 < p2.toInt ∧ p2.toInt < ((1 : Int32) <<< (iV_holders &&& 31)).toInt) ∧ (-200 ≤ p3.toInt ∧ p3.toInt ≤ 200) ∧ (-200 ≤ p4.toInt ∧ p4.toInt ≤ 200)) ∨ (p1.toInt = 3 ∧ (0 < p2.toInt ∧ p2.toInt < ((1 : Int32) <<< (iV_holders &&& 31)).toInt) ∧ (-200 ≤ p3.toInt ∧ p3.toInt ≤ 200) ∧ (0 ≤ p4.toInt ∧ p4.toInt ≤ 15)) ∨ (p1.toInt = 4 ∧ (0 ≤ p2.toInt ∧ p2.toInt < iV_holders.toInt) ∧ (0 ≤ p3.toInt ∧ p3.toInt < iV_holders.toInt) ∧ p2.toInt ≠ p3.toInt)) := h9; rcases h8 with h8 | h8 | h8 | h8 | h8 <;> omega⟩))⟩, by rw [ht]; exact hP, hD⟩, hS.F ht⟩) hS.2.2 dX7_isRule_108
            · have t_100 : ¬ r7.toInt = 0 := toI_neq c_100 rfl (by decide : (0 : Int32).toInt = 0)
              refine lv_iconst (v := 1) hx hb dX7_isRule_103 (by decide) ?_
              refine lv_goto (tgt := 108) hx hb dX7_isRule_104 (by decide) ?_
              refine W.widen (k := 0) (n := 0) (by decide +kernel) (by decide +kernel) ?_
              exact W.zret (v := 1) hx hb hr rfl (fun t9_ ht hW => ⟨⟨(1 : Int32), (), rfl, ⟨(show 0 ≤ (1 : Int32).toInt ∧ (1 : Int32).toInt ≤ 1 from by decide), (by (try dsimp only); intro h9; first | exact absurd (by decide) h9 | refine ⟨⟨by omega, by omega⟩, fun h8 => ?_, fun h8 => ?_⟩ <;> first | omega | (refine ⟨⟨?_, ?_⟩, ?_, ?_⟩ <;> omega)), (by (try dsimp only); exact (Or.inl ⟨by decide, (show ((p1.toInt = 0 ∧ (0 < p2.toInt ∧ p2.toInt < ((1 : Int32) <<< (iV_holders &&& 31)).toInt)) ∨ (p1.toInt = 1 ∧ (0 ≤ p2.toInt ∧ p2.toInt < iV_holders.toInt) ∧ (0 ≤ p4.toInt ∧ p4.toInt < iV_holders.toInt) ∧ (-15 ≤ p3.toInt ∧ p3.toInt ≤ 15)) ∨ (p1.toInt = 2 ∧ (0 < p2.toInt ∧ p2.toInt < ((1 : Int32) <<< (iV_holders &&& 31)).toInt) ∧ (-200 ≤ p3.toInt ∧ p3.toInt ≤ 200) ∧ (-200 ≤ p4.toInt ∧ p4.toInt ≤ 200)) ∨ (p1.toInt = 3 ∧ (0 < p2.toInt ∧ p2.toInt < ((1 : Int32) <<< (iV_holders &&& 31)).toInt) ∧ (-200 ≤ p3.toInt ∧ p3.toInt ≤ 200) ∧ (0 ≤ p4.toInt ∧ p4.toInt ≤ 15)) ∨ (p1.toInt = 4 ∧ (0 ≤ p2.toInt ∧ p2.toInt < iV_holders.toInt) ∧ (0 ≤ p3.toInt ∧ p3.toInt < iV_holders.toInt) ∧ p2.toInt ≠ p3.toInt)) from Or.inr (Or.inr (Or.inl ⟨by omega, ⟨by omega, by omega⟩, ⟨by omega, by omega⟩, by omega, by omega⟩)))⟩))⟩, by rw [ht]; exact hP, hD⟩, hS.F ht⟩) hS.2.2 dX7_isRule_108
      · have ts_1_2 : ¬ p1.toInt = 2 := toI_neq s_1_2 rfl (by decide)
        by_cases s_1_3 : p1 = 3
        · have ts_1_3 : p1.toInt = 3 := toI_eq s_1_3 rfl (by decide)
          refine lv_tableIn (off := 108) (tgt := 109) hx hb dX7_isRule_1 (by rw [s_1_3]; decide) (by rw [s_1_3]; decide) (by rw [s_1_3]; decide) (by decide) ?_
          refine lv_aload_n hx hb dX7_isRule_109 rfl (lv_at hl 0 rfl) ?_
          refine lv_iload_n hx hb dX7_isRule_110 rfl (lv_at hl 2 rfl) ?_
          have hFc := allFree hD hS hA
          refine va_calli (va_runV (As := [.int p2]) (rest := []) ⟨hx, hb, hml, hown, hts⟩ (m_X7_isSet l dC dI hV aV kV iV_holders iV_rules fV_pairs fV_domain fV_kind fV_a fV_b fV_c fV_rulePairs fV_lastHolder fV_now iV_doneFor iV_changed gV_fore gV_back fV_together fV_member gV_list dV_list nV_list iV_listed iV_listDone p2 (b_iV_holders) (b_iV_rules) b_fV_kind (b_iV_changed) b_fV_member (by first | exact b_nV_list | with_reducible assumption | exact ⟨by omega, by omega⟩ | assumption) (b_iV_listed) (b_iV_listDone) (by first | with_reducible assumption | omega | assumption) (by first | with_reducible assumption | omega | assumption) s.heap.size) (cwV 1 hts gwsMX7_isRule_0 rfl rfl rfl hd_yX7_isSet_RX7 (by decide +kernel)) (fz_pre (va_recv hK hP (ci := 7) (q0 := 0) rfl rfl) hP hK hD) rfl rfl hl.1 rfl (lv_room (Nat.le_of_ble_eq_true rfl)) dX7_isRule_111 (by decide +kernel)) hS (fun q _ h => hFc q h) hFc (fun r8 u t9_ H locs ht hvm hw9 hB9 hz1 hk1 hS => ?_)
          revert hw9
          refine fz_a2 ?_
          intro b_r8 f8_0
          have hP : va_P (dC, dI) vwCl (WV hV aV kV iV_holders iV_rules fV_pairs fV_domain fV_kind fV_a fV_b fV_c fV_rulePairs fV_lastHolder fV_now iV_doneFor iV_changed gV_fore gV_back fV_together fV_member gV_list dV_list nV_list iV_listed iV_listDone) H := fz_P ht hB9.1
          have hD := fz_sd hP (hB9.2.weaken (fun _ q _ h => hFc q.1 h)) rfl
          have hsA := f8_0
          refine lv_if_eq (tgt := 143) hx hb dX7_isRule_114 (by decide) (fun c_114 => ?_) (fun c_114 => ?_)
          · have t_114 : r8.toInt = 0 := toI_eq c_114 rfl (by decide : (0 : Int32).toInt = 0)
            refine lv_iconst (v := 0) hx hb dX7_isRule_143 (by decide) ?_
            refine W.widen (k := 0) (n := 0) (by decide +kernel) (by decide +kernel) ?_
            exact W.zret (v := 0) hx hb hr rfl (fun t9_ ht hW => ⟨⟨(0 : Int32), (), rfl, ⟨(show 0 ≤ (0 : Int32).toInt ∧ (0 : Int32).toInt ≤ 1 from by decide), (by (try dsimp only); intro h9; first | exact absurd (by decide) h9 | refine ⟨⟨by omega, by omega⟩, fun h8 => ?_, fun h8 => ?_⟩ <;> first | omega | (refine ⟨⟨?_, ?_⟩, ?_, ?_⟩ <;> omega)), (by (try dsimp only); exact (Or.inr ⟨by decide, fun h9 => by have h8 : ((p1.toInt = 0 ∧ (0 < p2.toInt ∧ p2.toInt < ((1 : Int32) <<< (iV_holders &&& 31)).toInt)) ∨ (p1.toInt = 1 ∧ (0 ≤ p2.toInt ∧ p2.toInt < iV_holders.toInt) ∧ (0 ≤ p4.toInt ∧ p4.toInt < iV_holders.toInt) ∧ (-15 ≤ p3.toInt ∧ p3.toInt ≤ 15)) ∨ (p1.toInt = 2 ∧ (0 < p2.toInt ∧ p2.toInt < ((1 : Int32) <<< (iV_holders &&& 31)).toInt) ∧ (-200 ≤ p3.toInt ∧ p3.toInt ≤ 200) ∧ (-200 ≤ p4.toInt ∧ p4.toInt ≤ 200)) ∨ (p1.toInt = 3 ∧ (0 < p2.toInt ∧ p2.toInt < ((1 : Int32) <<< (iV_holders &&& 31)).toInt) ∧ (-200 ≤ p3.toInt ∧ p3.toInt ≤ 200) ∧ (0 ≤ p4.toInt ∧ p4.toInt ≤ 15)) ∨ (p1.toInt = 4 ∧ (0 ≤ p2.toInt ∧ p2.toInt < iV_holders.toInt) ∧ (0 ≤ p3.toInt ∧ p3.toInt < iV_holders.toInt) ∧ p2.toInt ≠ p3.toInt)) := h9; rcases h8 with h8 | h8 | h8 | h8 | h8 <;> omega⟩))⟩, by rw [ht]; exact hP, hD⟩, hS.F ht⟩) hS.2.2 dX7_isRule_144
          · have t_114 : ¬ r8.toInt = 0 := toI_neq c_114 rfl (by decide : (0 : Int32).toInt = 0)
            refine lv_iload_n hx hb dX7_isRule_117 rfl (lv_at hl 3 rfl) ?_
            refine lv_sipush (v := 200) hx hb dX7_isRule_118 (by decide) ?_
            have hFc := noneFree hS hA
            refine va_calli (va_runS (As := [.int p3, .int 200]) (rest := []) ⟨hx, hb, hml, hown, hts⟩ (m_X7_isWithin l dC dI p3 200 (show 0 ≤ (200 : Int32).toInt ∧ (200 : Int32).toInt ≤ 1000 from by decide) H.size) (va_cwS 2 hts gwsMX7_isRule_2 rfl rfl rfl (by decide +kernel) ⟨by decide +kernel, by decide +kernel⟩) ⟨fun a U g mk q => by obtain ⟨q0, q1, qP, qK, qD⟩ := q; exact ⟨q0, q1, qP, va_K.moved (u := U) (U := U.calling g mk a) (Vm.Alike.refl U.vm) qK, qD⟩, fun U hU9 hW => ⟨rfl, by rw [hU9], by rw [hU9]; exact nilP, va_K.moved hW.alike (hK.sub (tys' := []) [] rfl), nilD⟩⟩ rfl rfl hl.1 rfl (lv_room (Nat.le_of_ble_eq_true rfl)) dX7_isRule_121 (by decide +kernel)) hS (fun q _ h => hFc q h) hFc (fun r9 u t9_ H1 locs ht hvm hw9 hB9 hz1 hk1 hS => ?_)
            revert hw9
            refine fz_a2 ?_
            intro b_r9 f9_0
            clear hB9
            have hP := keepAll hP hk1
            generalize H1 = H at hP hS ⊢
            have hP : va_P (dC, dI) vwCl (WV hV aV kV iV_holders iV_rules fV_pairs fV_domain fV_kind fV_a fV_b fV_c fV_rulePairs fV_lastHolder fV_now iV_doneFor iV_changed gV_fore gV_back fV_together fV_member gV_list dV_list nV_list iV_listed iV_listDone) H := hP
            have hD := fz_sd hP (hD) rfl
            have hwB := f9_0
            refine lv_if_eq (tgt := 143) hx hb dX7_isRule_124 (by decide) (fun c_124 => ?_) (fun c_124 => ?_)
            · have t_124 : r9.toInt = 0 := toI_eq c_124 rfl (by decide : (0 : Int32).toInt = 0)
              refine lv_iconst (v := 0) hx hb dX7_isRule_143 (by decide) ?_
              refine W.widen (k := 0) (n := 0) (by decide +kernel) (by decide +kernel) ?_
              exact W.zret (v := 0) hx hb hr rfl (fun t9_ ht hW => ⟨⟨(0 : Int32), (), rfl, ⟨(show 0 ≤ (0 : Int32).toInt ∧ (0 : Int32).toInt ≤ 1 from by decide), (by (try dsimp only); intro h9; first | exact absurd (by decide) h9 | refine ⟨⟨by omega, by omega⟩, fun h8 => ?_, fun h8 => ?_⟩ <;> first | omega | (refine ⟨⟨?_, ?_⟩, ?_, ?_⟩ <;> omega)), (by (try dsimp only); exact (Or.inr ⟨by decide, fun h9 => by have h8 : ((p1.toInt = 0 ∧ (0 < p2.toInt ∧ p2.toInt < ((1 : Int32) <<< (iV_holders &&& 31)).toInt)) ∨ (p1.toInt = 1 ∧ (0 ≤ p2.toInt ∧ p2.toInt < iV_holders.toInt) ∧ (0 ≤ p4.toInt ∧ p4.toInt < iV_holders.toInt) ∧ (-15 ≤ p3.toInt ∧ p3.toInt ≤ 15)) ∨ (p1.toInt = 2 ∧ (0 < p2.toInt ∧ p2.toInt < ((1 : Int32) <<< (iV_holders &&& 31)).toInt) ∧ (-200 ≤ p3.toInt ∧ p3.toInt ≤ 200) ∧ (-200 ≤ p4.toInt ∧ p4.toInt ≤ 200)) ∨ (p1.toInt = 3 ∧ (0 < p2.toInt ∧ p2.toInt < ((1 : Int32) <<< (iV_holders &&& 31)).toInt) ∧ (-200 ≤ p3.toInt ∧ p3.toInt ≤ 200) ∧ (0 ≤ p4.toInt ∧ p4.toInt ≤ 15)) ∨ (p1.toInt = 4 ∧ (0 ≤ p2.toInt ∧ p2.toInt < iV_holders.toInt) ∧ (0 ≤ p3.toInt ∧ p3.toInt < iV_holders.toInt) ∧ p2.toInt ≠ p3.toInt)) := h9; rcases h8 with h8 | h8 | h8 | h8 | h8 <;> omega⟩))⟩, by rw [ht]; exact hP, hD⟩, hS.F ht⟩) hS.2.2 dX7_isRule_144
            · have t_124 : ¬ r9.toInt = 0 := toI_neq c_124 rfl (by decide : (0 : Int32).toInt = 0)
              refine lv_iload hx hb dX7_isRule_127 (lv_at hl 4 rfl) ?_
              refine lv_if_lt (tgt := 143) hx hb dX7_isRule_129 (by decide) (fun c_129 => ?_) (fun c_129 => ?_)
              · have t_129 : p4.toInt < 0 := toI_lt c_129 rfl (by decide : (0 : Int32).toInt = 0)
                refine lv_iconst (v := 0) hx hb dX7_isRule_143 (by decide) ?_
                refine W.widen (k := 0) (n := 0) (by decide +kernel) (by decide +kernel) ?_
                exact W.zret (v := 0) hx hb hr rfl (fun t9_ ht hW => ⟨⟨(0 : Int32), (), rfl, ⟨(show 0 ≤ (0 : Int32).toInt ∧ (0 : Int32).toInt ≤ 1 from by decide), (by (try dsimp only); intro h9; first | exact absurd (by decide) h9 | refine ⟨⟨by omega, by omega⟩, fun h8 => ?_, fun h8 => ?_⟩ <;> first | omega | (refine ⟨⟨?_, ?_⟩, ?_, ?_⟩ <;> omega)), (by (try dsimp only); exact (Or.inr ⟨by decide, fun h9 => by have h8 : ((p1.toInt = 0 ∧ (0 < p2.toInt ∧ p2.toInt < ((1 : Int32) <<< (iV_holders &&& 31)).toInt)) ∨ (p1.toInt = 1 ∧ (0 ≤ p2.toInt ∧ p2.toInt < iV_holders.toInt) ∧ (0 ≤ p4.toInt ∧ p4.toInt < iV_holders.toInt) ∧ (-15 ≤ p3.toInt ∧ p3.toInt ≤ 15)) ∨ (p1.toInt = 2 ∧ (0 < p2.toInt ∧ p2.toInt < ((1 : Int32) <<< (iV_holders &&& 31)).toInt) ∧ (-200 ≤ p3.toInt ∧ p3.toInt ≤ 200) ∧ (-200 ≤ p4.toInt ∧ p4.toInt ≤ 200)) ∨ (p1.toInt = 3 ∧ (0 < p2.toInt ∧ p2.toInt < ((1 : Int32) <<< (iV_holders &&& 31)).toInt) ∧ (-200 ≤ p3.toInt ∧ p3.toInt ≤ 200) ∧ (0 ≤ p4.toInt ∧ p4.toInt ≤ 15)) ∨ (p1.toInt = 4 ∧ (0 ≤ p2.toInt ∧ p2.toInt < iV_holders.toInt) ∧ (0 ≤ p3.toInt ∧ p3.toInt < iV_holders.toInt) ∧ p2.toInt ≠ p3.toInt)) := h9; rcases h8 with h8 | h8 | h8 | h8 | h8 <;> omega⟩))⟩, by rw [ht]; exact hP, hD⟩, hS.F ht⟩) hS.2.2 dX7_isRule_144
              · have t_129 : ¬ p4.toInt < 0 := toI_nlt c_129 rfl (by decide : (0 : Int32).toInt = 0)
                refine lv_iload hx hb dX7_isRule_132 (lv_at hl 4 rfl) ?_
                refine lv_bipush (v := 16) hx hb dX7_isRule_134 (by decide) ?_
                refine lv_icmp_ge (tgt := 143) hx hb dX7_isRule_136 (by decide) (fun c_136 => ?_) (fun c_136 => ?_)
                · have t_136 : p4.toInt ≥ 16 := toI_ge c_136 rfl (by decide : (16 : Int32).toInt = 16)
                  refine lv_iconst (v := 0) hx hb dX7_isRule_143 (by decide) ?_
                  refine W.widen (k := 0) (n := 0) (by decide +kernel) (by decide +kernel) ?_
                  exact W.zret (v := 0) hx hb hr rfl (fun t9_ ht hW => ⟨⟨(0 : Int32), (), rfl, ⟨(show 0 ≤ (0 : Int32).toInt ∧ (0 : Int32).toInt ≤ 1 from by decide), (by (try dsimp only); intro h9; first | exact absurd (by decide) h9 | refine ⟨⟨by omega, by omega⟩, fun h8 => ?_, fun h8 => ?_⟩ <;> first | omega | (refine ⟨⟨?_, ?_⟩, ?_, ?_⟩ <;> omega)), (by (try dsimp only); exact (Or.inr ⟨by decide, fun h9 => by have h8 : ((p1.toInt = 0 ∧ (0 < p2.toInt ∧ p2.toInt < ((1 : Int32) <<< (iV_holders &&& 31)).toInt)) ∨ (p1.toInt = 1 ∧ (0 ≤ p2.toInt ∧ p2.toInt < iV_holders.toInt) ∧ (0 ≤ p4.toInt ∧ p4.toInt < iV_holders.toInt) ∧ (-15 ≤ p3.toInt ∧ p3.toInt ≤ 15)) ∨ (p1.toInt = 2 ∧ (0 < p2.toInt ∧ p2.toInt < ((1 : Int32) <<< (iV_holders &&& 31)).toInt) ∧ (-200 ≤ p3.toInt ∧ p3.toInt ≤ 200) ∧ (-200 ≤ p4.toInt ∧ p4.toInt ≤ 200)) ∨ (p1.toInt = 3 ∧ (0 < p2.toInt ∧ p2.toInt < ((1 : Int32) <<< (iV_holders &&& 31)).toInt) ∧ (-200 ≤ p3.toInt ∧ p3.toInt ≤ 200) ∧ (0 ≤ p4.toInt ∧ p4.toInt ≤ 15)) ∨ (p1.toInt = 4 ∧ (0 ≤ p2.toInt ∧ p2.toInt < iV_holders.toInt) ∧ (0 ≤ p3.toInt ∧ p3.toInt < iV_holders.toInt) ∧ p2.toInt ≠ p3.toInt)) := h9; rcases h8 with h8 | h8 | h8 | h8 | h8 <;> omega⟩))⟩, by rw [ht]; exact hP, hD⟩, hS.F ht⟩) hS.2.2 dX7_isRule_144
                · have t_136 : ¬ p4.toInt ≥ 16 := toI_nge c_136 rfl (by decide : (16 : Int32).toInt = 16)
                  refine lv_iconst (v := 1) hx hb dX7_isRule_139 (by decide) ?_
                  refine lv_goto (tgt := 144) hx hb dX7_isRule_140 (by decide) ?_
                  refine W.widen (k := 0) (n := 0) (by decide +kernel) (by decide +kernel) ?_
                  exact W.zret (v := 1) hx hb hr rfl (fun t9_ ht hW => ⟨⟨(1 : Int32), (), rfl, ⟨(show 0 ≤ (1 : Int32).toInt ∧ (1 : Int32).toInt ≤ 1 from by decide), (by (try dsimp only); intro h9; first | exact absurd (by decide) h9 | refine ⟨⟨by omega, by omega⟩, fun h8 => ?_, fun h8 => ?_⟩ <;> first | omega | (refine ⟨⟨?_, ?_⟩, ?_, ?_⟩ <;> omega)), (by (try dsimp only); exact (Or.inl ⟨by decide, (show ((p1.toInt = 0 ∧ (0 < p2.toInt ∧ p2.toInt < ((1 : Int32) <<< (iV_holders &&& 31)).toInt)) ∨ (p1.toInt = 1 ∧ (0 ≤ p2.toInt ∧ p2.toInt < iV_holders.toInt) ∧ (0 ≤ p4.toInt ∧ p4.toInt < iV_holders.toInt) ∧ (-15 ≤ p3.toInt ∧ p3.toInt ≤ 15)) ∨ (p1.toInt = 2 ∧ (0 < p2.toInt ∧ p2.toInt < ((1 : Int32) <<< (iV_holders &&& 31)).toInt) ∧ (-200 ≤ p3.toInt ∧ p3.toInt ≤ 200) ∧ (-200 ≤ p4.toInt ∧ p4.toInt ≤ 200)) ∨ (p1.toInt = 3 ∧ (0 < p2.toInt ∧ p2.toInt < ((1 : Int32) <<< (iV_holders &&& 31)).toInt) ∧ (-200 ≤ p3.toInt ∧ p3.toInt ≤ 200) ∧ (0 ≤ p4.toInt ∧ p4.toInt ≤ 15)) ∨ (p1.toInt = 4 ∧ (0 ≤ p2.toInt ∧ p2.toInt < iV_holders.toInt) ∧ (0 ≤ p3.toInt ∧ p3.toInt < iV_holders.toInt) ∧ p2.toInt ≠ p3.toInt)) from Or.inr (Or.inr (Or.inr (Or.inl ⟨by omega, ⟨by omega, by omega⟩, ⟨by omega, by omega⟩, by omega, by omega⟩))))⟩))⟩, by rw [ht]; exact hP, hD⟩, hS.F ht⟩) hS.2.2 dX7_isRule_144
        · have ts_1_3 : ¬ p1.toInt = 3 := toI_neq s_1_3 rfl (by decide)
          by_cases s_1_4 : p1 = 4
          · have ts_1_4 : p1.toInt = 4 := toI_eq s_1_4 rfl (by decide)
            refine lv_tableIn (off := 144) (tgt := 145) hx hb dX7_isRule_1 (by rw [s_1_4]; decide) (by rw [s_1_4]; decide) (by rw [s_1_4]; decide) (by decide) ?_
            refine lv_aload_n hx hb dX7_isRule_145 rfl (lv_at hl 0 rfl) ?_
            refine lv_iload_n hx hb dX7_isRule_146 rfl (lv_at hl 2 rfl) ?_
            have hFc := allFree hD hS hA
            refine va_calli (va_runV (As := [.int p2]) (rest := []) ⟨hx, hb, hml, hown, hts⟩ (m_X7_isHolder l dC dI hV aV kV iV_holders iV_rules fV_pairs fV_domain fV_kind fV_a fV_b fV_c fV_rulePairs fV_lastHolder fV_now iV_doneFor iV_changed gV_fore gV_back fV_together fV_member gV_list dV_list nV_list iV_listed iV_listDone p2 (b_iV_holders) (b_iV_rules) b_fV_kind (b_iV_changed) b_fV_member (by first | exact b_nV_list | with_reducible assumption | exact ⟨by omega, by omega⟩ | assumption) (b_iV_listed) (b_iV_listDone) (by first | with_reducible assumption | omega | assumption) (by first | with_reducible assumption | omega | assumption) s.heap.size) (cwV 1 hts gwsMX7_isRule_1 rfl rfl rfl hd_yX7_isHolder_RX7 (by decide +kernel)) (fz_pre (va_recv hK hP (ci := 7) (q0 := 0) rfl rfl) hP hK hD) rfl rfl hl.1 rfl (lv_room (Nat.le_of_ble_eq_true rfl)) dX7_isRule_147 (by decide +kernel)) hS (fun q _ h => hFc q h) hFc (fun r10 u t9_ H locs ht hvm hw9 hB9 hz1 hk1 hS => ?_)
            revert hw9
            refine fz_a3 ?_
            intro b_r10 f10_0 f10_1
            have hP : va_P (dC, dI) vwCl (WV hV aV kV iV_holders iV_rules fV_pairs fV_domain fV_kind fV_a fV_b fV_c fV_rulePairs fV_lastHolder fV_now iV_doneFor iV_changed gV_fore gV_back fV_together fV_member gV_list dV_list nV_list iV_listed iV_listDone) H := fz_P ht hB9.1
            have hD := fz_sd hP (hB9.2.weaken (fun _ q _ h => hFc q.1 h)) rfl
            have hhA := f10_1
            refine lv_if_eq (tgt := 170) hx hb dX7_isRule_150 (by decide) (fun c_150 => ?_) (fun c_150 => ?_)
            · have t_150 : r10.toInt = 0 := toI_eq c_150 rfl (by decide : (0 : Int32).toInt = 0)
              refine lv_iconst (v := 0) hx hb dX7_isRule_170 (by decide) ?_
              refine W.widen (k := 0) (n := 0) (by decide +kernel) (by decide +kernel) ?_
              exact W.zret (v := 0) hx hb hr rfl (fun t9_ ht hW => ⟨⟨(0 : Int32), (), rfl, ⟨(show 0 ≤ (0 : Int32).toInt ∧ (0 : Int32).toInt ≤ 1 from by decide), (by (try dsimp only); intro h9; first | exact absurd (by decide) h9 | refine ⟨⟨by omega, by omega⟩, fun h8 => ?_, fun h8 => ?_⟩ <;> first | omega | (refine ⟨⟨?_, ?_⟩, ?_, ?_⟩ <;> omega)), (by (try dsimp only); exact (Or.inr ⟨by decide, fun h9 => by have h8 : ((p1.toInt = 0 ∧ (0 < p2.toInt ∧ p2.toInt < ((1 : Int32) <<< (iV_holders &&& 31)).toInt)) ∨ (p1.toInt = 1 ∧ (0 ≤ p2.toInt ∧ p2.toInt < iV_holders.toInt) ∧ (0 ≤ p4.toInt ∧ p4.toInt < iV_holders.toInt) ∧ (-15 ≤ p3.toInt ∧ p3.toInt ≤ 15)) ∨ (p1.toInt = 2 ∧ (0 < p2.toInt ∧ p2.toInt < ((1 : Int32) <<< (iV_holders &&& 31)).toInt) ∧ (-200 ≤ p3.toInt ∧ p3.toInt ≤ 200) ∧ (-200 ≤ p4.toInt ∧ p4.toInt ≤ 200)) ∨ (p1.toInt = 3 ∧ (0 < p2.toInt ∧ p2.toInt < ((1 : Int32) <<< (iV_holders &&& 31)).toInt) ∧ (-200 ≤ p3.toInt ∧ p3.toInt ≤ 200) ∧ (0 ≤ p4.toInt ∧ p4.toInt ≤ 15)) ∨ (p1.toInt = 4 ∧ (0 ≤ p2.toInt ∧ p2.toInt < iV_holders.toInt) ∧ (0 ≤ p3.toInt ∧ p3.toInt < iV_holders.toInt) ∧ p2.toInt ≠ p3.toInt)) := h9; rcases h8 with h8 | h8 | h8 | h8 | h8 <;> omega⟩))⟩, by rw [ht]; exact hP, hD⟩, hS.F ht⟩) hS.2.2 dX7_isRule_171
            · have t_150 : ¬ r10.toInt = 0 := toI_neq c_150 rfl (by decide : (0 : Int32).toInt = 0)
              refine lv_aload_n hx hb dX7_isRule_153 rfl (lv_at hl 0 rfl) ?_
              refine lv_iload_n hx hb dX7_isRule_154 rfl (lv_at hl 3 rfl) ?_
              have hFc := allFree hD hS hA
              refine va_calli (va_runV (As := [.int p3]) (rest := []) ⟨hx, hb, hml, hown, hts⟩ (m_X7_isHolder l dC dI hV aV kV iV_holders iV_rules fV_pairs fV_domain fV_kind fV_a fV_b fV_c fV_rulePairs fV_lastHolder fV_now iV_doneFor iV_changed gV_fore gV_back fV_together fV_member gV_list dV_list nV_list iV_listed iV_listDone p3 (b_iV_holders) (b_iV_rules) b_fV_kind (b_iV_changed) b_fV_member (by first | exact b_nV_list | with_reducible assumption | exact ⟨by omega, by omega⟩ | assumption) (b_iV_listed) (b_iV_listDone) (by first | with_reducible assumption | omega | assumption) (by first | with_reducible assumption | omega | assumption) H.size) (cwV 1 hts gwsMX7_isRule_1 rfl rfl rfl hd_yX7_isHolder_RX7 (by decide +kernel)) (fz_pre (va_recv hK hP (ci := 7) (q0 := 0) rfl rfl) hP hK hD) rfl rfl hl.1 rfl (lv_room (Nat.le_of_ble_eq_true rfl)) dX7_isRule_155 (by decide +kernel)) hS (fun q _ h => hFc q h) hFc (fun r11 u t9_ H locs ht hvm hw9 hB9 hz1 hk1 hS => ?_)
              revert hw9
              refine fz_a3 ?_
              intro b_r11 f11_0 f11_1
              have hP : va_P (dC, dI) vwCl (WV hV aV kV iV_holders iV_rules fV_pairs fV_domain fV_kind fV_a fV_b fV_c fV_rulePairs fV_lastHolder fV_now iV_doneFor iV_changed gV_fore gV_back fV_together fV_member gV_list dV_list nV_list iV_listed iV_listDone) H := fz_P ht hB9.1
              have hD := fz_sd hP (hB9.2.weaken (fun _ q _ h => hFc q.1 h)) rfl
              have hhB := f11_1
              refine lv_if_eq (tgt := 170) hx hb dX7_isRule_158 (by decide) (fun c_158 => ?_) (fun c_158 => ?_)
              · have t_158 : r11.toInt = 0 := toI_eq c_158 rfl (by decide : (0 : Int32).toInt = 0)
                refine lv_iconst (v := 0) hx hb dX7_isRule_170 (by decide) ?_
                refine W.widen (k := 0) (n := 0) (by decide +kernel) (by decide +kernel) ?_
                exact W.zret (v := 0) hx hb hr rfl (fun t9_ ht hW => ⟨⟨(0 : Int32), (), rfl, ⟨(show 0 ≤ (0 : Int32).toInt ∧ (0 : Int32).toInt ≤ 1 from by decide), (by (try dsimp only); intro h9; first | exact absurd (by decide) h9 | refine ⟨⟨by omega, by omega⟩, fun h8 => ?_, fun h8 => ?_⟩ <;> first | omega | (refine ⟨⟨?_, ?_⟩, ?_, ?_⟩ <;> omega)), (by (try dsimp only); exact (Or.inr ⟨by decide, fun h9 => by have h8 : ((p1.toInt = 0 ∧ (0 < p2.toInt ∧ p2.toInt < ((1 : Int32) <<< (iV_holders &&& 31)).toInt)) ∨ (p1.toInt = 1 ∧ (0 ≤ p2.toInt ∧ p2.toInt < iV_holders.toInt) ∧ (0 ≤ p4.toInt ∧ p4.toInt < iV_holders.toInt) ∧ (-15 ≤ p3.toInt ∧ p3.toInt ≤ 15)) ∨ (p1.toInt = 2 ∧ (0 < p2.toInt ∧ p2.toInt < ((1 : Int32) <<< (iV_holders &&& 31)).toInt) ∧ (-200 ≤ p3.toInt ∧ p3.toInt ≤ 200) ∧ (-200 ≤ p4.toInt ∧ p4.toInt ≤ 200)) ∨ (p1.toInt = 3 ∧ (0 < p2.toInt ∧ p2.toInt < ((1 : Int32) <<< (iV_holders &&& 31)).toInt) ∧ (-200 ≤ p3.toInt ∧ p3.toInt ≤ 200) ∧ (0 ≤ p4.toInt ∧ p4.toInt ≤ 15)) ∨ (p1.toInt = 4 ∧ (0 ≤ p2.toInt ∧ p2.toInt < iV_holders.toInt) ∧ (0 ≤ p3.toInt ∧ p3.toInt < iV_holders.toInt) ∧ p2.toInt ≠ p3.toInt)) := h9; rcases h8 with h8 | h8 | h8 | h8 | h8 <;> omega⟩))⟩, by rw [ht]; exact hP, hD⟩, hS.F ht⟩) hS.2.2 dX7_isRule_171
              · have t_158 : ¬ r11.toInt = 0 := toI_neq c_158 rfl (by decide : (0 : Int32).toInt = 0)
                refine lv_iload_n hx hb dX7_isRule_161 rfl (lv_at hl 2 rfl) ?_
                refine lv_iload_n hx hb dX7_isRule_162 rfl (lv_at hl 3 rfl) ?_
                refine lv_icmp_eq (tgt := 170) hx hb dX7_isRule_163 (by decide) (fun c_163 => ?_) (fun c_163 => ?_)
                · have t_163 : p2.toInt = p3.toInt := toI_eq c_163 rfl rfl
                  refine lv_iconst (v := 0) hx hb dX7_isRule_170 (by decide) ?_
                  refine W.widen (k := 0) (n := 0) (by decide +kernel) (by decide +kernel) ?_
                  exact W.zret (v := 0) hx hb hr rfl (fun t9_ ht hW => ⟨⟨(0 : Int32), (), rfl, ⟨(show 0 ≤ (0 : Int32).toInt ∧ (0 : Int32).toInt ≤ 1 from by decide), (by (try dsimp only); intro h9; first | exact absurd (by decide) h9 | refine ⟨⟨by omega, by omega⟩, fun h8 => ?_, fun h8 => ?_⟩ <;> first | omega | (refine ⟨⟨?_, ?_⟩, ?_, ?_⟩ <;> omega)), (by (try dsimp only); exact (Or.inr ⟨by decide, fun h9 => by have h8 : ((p1.toInt = 0 ∧ (0 < p2.toInt ∧ p2.toInt < ((1 : Int32) <<< (iV_holders &&& 31)).toInt)) ∨ (p1.toInt = 1 ∧ (0 ≤ p2.toInt ∧ p2.toInt < iV_holders.toInt) ∧ (0 ≤ p4.toInt ∧ p4.toInt < iV_holders.toInt) ∧ (-15 ≤ p3.toInt ∧ p3.toInt ≤ 15)) ∨ (p1.toInt = 2 ∧ (0 < p2.toInt ∧ p2.toInt < ((1 : Int32) <<< (iV_holders &&& 31)).toInt) ∧ (-200 ≤ p3.toInt ∧ p3.toInt ≤ 200) ∧ (-200 ≤ p4.toInt ∧ p4.toInt ≤ 200)) ∨ (p1.toInt = 3 ∧ (0 < p2.toInt ∧ p2.toInt < ((1 : Int32) <<< (iV_holders &&& 31)).toInt) ∧ (-200 ≤ p3.toInt ∧ p3.toInt ≤ 200) ∧ (0 ≤ p4.toInt ∧ p4.toInt ≤ 15)) ∨ (p1.toInt = 4 ∧ (0 ≤ p2.toInt ∧ p2.toInt < iV_holders.toInt) ∧ (0 ≤ p3.toInt ∧ p3.toInt < iV_holders.toInt) ∧ p2.toInt ≠ p3.toInt)) := h9; rcases h8 with h8 | h8 | h8 | h8 | h8 <;> omega⟩))⟩, by rw [ht]; exact hP, hD⟩, hS.F ht⟩) hS.2.2 dX7_isRule_171
                · have t_163 : ¬ p2.toInt = p3.toInt := toI_neq c_163 rfl rfl
                  refine lv_iconst (v := 1) hx hb dX7_isRule_166 (by decide) ?_
                  refine lv_goto (tgt := 171) hx hb dX7_isRule_167 (by decide) ?_
                  refine W.widen (k := 0) (n := 0) (by decide +kernel) (by decide +kernel) ?_
                  exact W.zret (v := 1) hx hb hr rfl (fun t9_ ht hW => ⟨⟨(1 : Int32), (), rfl, ⟨(show 0 ≤ (1 : Int32).toInt ∧ (1 : Int32).toInt ≤ 1 from by decide), (by (try dsimp only); intro h9; first | exact absurd (by decide) h9 | refine ⟨⟨by omega, by omega⟩, fun h8 => ?_, fun h8 => ?_⟩ <;> first | omega | (refine ⟨⟨?_, ?_⟩, ?_, ?_⟩ <;> omega)), (by (try dsimp only); exact (Or.inl ⟨by decide, (show ((p1.toInt = 0 ∧ (0 < p2.toInt ∧ p2.toInt < ((1 : Int32) <<< (iV_holders &&& 31)).toInt)) ∨ (p1.toInt = 1 ∧ (0 ≤ p2.toInt ∧ p2.toInt < iV_holders.toInt) ∧ (0 ≤ p4.toInt ∧ p4.toInt < iV_holders.toInt) ∧ (-15 ≤ p3.toInt ∧ p3.toInt ≤ 15)) ∨ (p1.toInt = 2 ∧ (0 < p2.toInt ∧ p2.toInt < ((1 : Int32) <<< (iV_holders &&& 31)).toInt) ∧ (-200 ≤ p3.toInt ∧ p3.toInt ≤ 200) ∧ (-200 ≤ p4.toInt ∧ p4.toInt ≤ 200)) ∨ (p1.toInt = 3 ∧ (0 < p2.toInt ∧ p2.toInt < ((1 : Int32) <<< (iV_holders &&& 31)).toInt) ∧ (-200 ≤ p3.toInt ∧ p3.toInt ≤ 200) ∧ (0 ≤ p4.toInt ∧ p4.toInt ≤ 15)) ∨ (p1.toInt = 4 ∧ (0 ≤ p2.toInt ∧ p2.toInt < iV_holders.toInt) ∧ (0 ≤ p3.toInt ∧ p3.toInt < iV_holders.toInt) ∧ p2.toInt ≠ p3.toInt)) from Or.inr (Or.inr (Or.inr (Or.inr ⟨by omega, ⟨by omega, by omega⟩, ⟨by omega, by omega⟩, by omega⟩))))⟩))⟩, by rw [ht]; exact hP, hD⟩, hS.F ht⟩) hS.2.2 dX7_isRule_171
          · have ts_1_4 : ¬ p1.toInt = 4 := toI_neq s_1_4 rfl (by decide)
            refine lv_tableOut (tgt := 172) hx hb dX7_isRule_1 (by have := lv_neT s_1_0 (show Int32.toInt 0 = 0 by decide); have := lv_neT s_1_1 (show Int32.toInt 1 = 1 by decide); have := lv_neT s_1_2 (show Int32.toInt 2 = 2 by decide); have := lv_neT s_1_3 (show Int32.toInt 3 = 3 by decide); have := lv_neT s_1_4 (show Int32.toInt 4 = 4 by decide); omega) (by decide) ?_
            refine lv_iconst (v := 0) hx hb dX7_isRule_172 (by decide) ?_
            refine W.widen (k := 0) (n := 0) (by decide +kernel) (by decide +kernel) ?_
            exact W.zret (v := 0) hx hb hr rfl (fun t9_ ht hW => ⟨⟨(0 : Int32), (), rfl, ⟨(show 0 ≤ (0 : Int32).toInt ∧ (0 : Int32).toInt ≤ 1 from by decide), (by (try dsimp only); intro h9; first | exact absurd (by decide) h9 | refine ⟨⟨by omega, by omega⟩, fun h8 => ?_, fun h8 => ?_⟩ <;> first | omega | (refine ⟨⟨?_, ?_⟩, ?_, ?_⟩ <;> omega)), (by (try dsimp only); exact (Or.inr ⟨by decide, fun h9 => by have h8 : ((p1.toInt = 0 ∧ (0 < p2.toInt ∧ p2.toInt < ((1 : Int32) <<< (iV_holders &&& 31)).toInt)) ∨ (p1.toInt = 1 ∧ (0 ≤ p2.toInt ∧ p2.toInt < iV_holders.toInt) ∧ (0 ≤ p4.toInt ∧ p4.toInt < iV_holders.toInt) ∧ (-15 ≤ p3.toInt ∧ p3.toInt ≤ 15)) ∨ (p1.toInt = 2 ∧ (0 < p2.toInt ∧ p2.toInt < ((1 : Int32) <<< (iV_holders &&& 31)).toInt) ∧ (-200 ≤ p3.toInt ∧ p3.toInt ≤ 200) ∧ (-200 ≤ p4.toInt ∧ p4.toInt ≤ 200)) ∨ (p1.toInt = 3 ∧ (0 < p2.toInt ∧ p2.toInt < ((1 : Int32) <<< (iV_holders &&& 31)).toInt) ∧ (-200 ≤ p3.toInt ∧ p3.toInt ≤ 200) ∧ (0 ≤ p4.toInt ∧ p4.toInt ≤ 15)) ∨ (p1.toInt = 4 ∧ (0 ≤ p2.toInt ∧ p2.toInt < iV_holders.toInt) ∧ (0 ≤ p3.toInt ∧ p3.toInt < iV_holders.toInt) ∧ p2.toInt ≠ p3.toInt)) := h9; rcases h8 with h8 | h8 | h8 | h8 | h8 <;> omega⟩))⟩, by rw [ht]; exact hP, hD⟩, hS.F ht⟩) hS.2.2 dX7_isRule_173
end

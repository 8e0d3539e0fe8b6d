theorem hd_yX12_bind_RX12 : yX12_bind.cls = RX12 ∧ yX12_bind.cls ≠ "java/lang/invoke/MethodHandle" ∧ yX12_bind.cls ≠ "java/lang/invoke/VarHandle" ∧ (parseMethodDescriptor yX12_bind.desc).map (fun d => d.parameters.length) = some 2 := by decide +kernel
theorem hd_yX12_membersOf_RX12 : yX12_membersOf.cls = RX12 ∧ yX12_membersOf.cls ≠ "java/lang/invoke/MethodHandle" ∧ yX12_membersOf.cls ≠ "java/lang/invoke/VarHandle" ∧ (parseMethodDescriptor yX12_membersOf.desc).map (fun d => d.parameters.length) = some 1 := by decide +kernel
theorem dX12_workSum_0 : decode cX12_workSum 0 = .ok (.aload_n 0, 1) := dk_42 (by decide +kernel)
theorem dX12_workSum_1 : decode cX12_workSum 1 = .ok (.getfield 113, 3) := dk_180 (by decide +kernel)
theorem dX12_workSum_4 : decode cX12_workSum 4 = .ok (.iload_n 2, 1) := dk_28 (by decide +kernel)
theorem dX12_workSum_5 : decode cX12_workSum 5 = .ok (.iaload, 1) := dk_46 (by decide +kernel)
theorem dX12_workSum_6 : decode cX12_workSum 6 = .ok (.istore_n 3, 1) := dk_62 (by decide +kernel)
theorem dX12_workSum_7 : decode cX12_workSum 7 = .ok (.aload_n 0, 1) := dk_42 (by decide +kernel)
theorem dX12_workSum_8 : decode cX12_workSum 8 = .ok (.getfield 182, 3) := dk_180 (by decide +kernel)
theorem dX12_workSum_11 : decode cX12_workSum 11 = .ok (.iload_n 1, 1) := dk_27 (by decide +kernel)
theorem dX12_workSum_12 : decode cX12_workSum 12 = .ok (.iaload, 1) := dk_46 (by decide +kernel)
theorem dX12_workSum_13 : decode cX12_workSum 13 = .ok (.ifCond .ne 38, 3) := dk_154 (by decide +kernel)
theorem dX12_workSum_16 : decode cX12_workSum 16 = .ok (.aload_n 0, 1) := dk_42 (by decide +kernel)
theorem dX12_workSum_17 : decode cX12_workSum 17 = .ok (.aload_n 0, 1) := dk_42 (by decide +kernel)
theorem dX12_workSum_18 : decode cX12_workSum 18 = .ok (.getfield 659, 3) := dk_180 (by decide +kernel)
theorem dX12_workSum_21 : decode cX12_workSum 21 = .ok (.invokevirtual 662, 3) := dk_182 (by decide +kernel)
theorem dX12_workSum_24 : decode cX12_workSum 24 = .ok (.aload_n 0, 1) := dk_42 (by decide +kernel)
theorem dX12_workSum_25 : decode cX12_workSum 25 = .ok (.dup, 1) := dk_89 (by decide +kernel)
theorem dX12_workSum_26 : decode cX12_workSum 26 = .ok (.getfield 659, 3) := dk_180 (by decide +kernel)
theorem dX12_workSum_29 : decode cX12_workSum 29 = .ok (.iconst 1, 1) := dk_4 (by decide +kernel)
theorem dX12_workSum_30 : decode cX12_workSum 30 = .ok (.iadd, 1) := dk_96 (by decide +kernel)
theorem dX12_workSum_31 : decode cX12_workSum 31 = .ok (.putfield 659, 3) := dk_181 (by decide +kernel)
theorem dX12_workSum_34 : decode cX12_workSum 34 = .ok (.aload_n 0, 1) := dk_42 (by decide +kernel)
theorem dX12_workSum_35 : decode cX12_workSum 35 = .ok (.getfield 185, 3) := dk_180 (by decide +kernel)
theorem dX12_workSum_38 : decode cX12_workSum 38 = .ok (.iload_n 1, 1) := dk_27 (by decide +kernel)
theorem dX12_workSum_39 : decode cX12_workSum 39 = .ok (.iconst 0, 1) := dk_3 (by decide +kernel)
theorem dX12_workSum_40 : decode cX12_workSum 40 = .ok (.iastore, 1) := dk_79 (by decide +kernel)
theorem dX12_workSum_41 : decode cX12_workSum 41 = .ok (.aload_n 0, 1) := dk_42 (by decide +kernel)
theorem dX12_workSum_42 : decode cX12_workSum 42 = .ok (.getfield 182, 3) := dk_180 (by decide +kernel)
theorem dX12_workSum_45 : decode cX12_workSum 45 = .ok (.iload_n 1, 1) := dk_27 (by decide +kernel)
theorem dX12_workSum_46 : decode cX12_workSum 46 = .ok (.iconst 1, 1) := dk_4 (by decide +kernel)
theorem dX12_workSum_47 : decode cX12_workSum 47 = .ok (.iastore, 1) := dk_79 (by decide +kernel)
theorem dX12_workSum_48 : decode cX12_workSum 48 = .ok (.goto 224, 3) := dk_167 (by decide +kernel)
theorem dX12_workSum_51 : decode cX12_workSum 51 = .ok (.aload_n 0, 1) := dk_42 (by decide +kernel)
theorem dX12_workSum_52 : decode cX12_workSum 52 = .ok (.getfield 182, 3) := dk_180 (by decide +kernel)
theorem dX12_workSum_55 : decode cX12_workSum 55 = .ok (.iload_n 1, 1) := dk_27 (by decide +kernel)
theorem dX12_workSum_56 : decode cX12_workSum 56 = .ok (.iaload, 1) := dk_46 (by decide +kernel)
theorem dX12_workSum_57 : decode cX12_workSum 57 = .ok (.iconst 1, 1) := dk_4 (by decide +kernel)
theorem dX12_workSum_58 : decode cX12_workSum 58 = .ok (.if_icmp .ne 92, 3) := dk_160 (by decide +kernel)
theorem dX12_workSum_61 : decode cX12_workSum 61 = .ok (.aload_n 0, 1) := dk_42 (by decide +kernel)
theorem dX12_workSum_62 : decode cX12_workSum 62 = .ok (.getfield 185, 3) := dk_180 (by decide +kernel)
theorem dX12_workSum_65 : decode cX12_workSum 65 = .ok (.iload_n 1, 1) := dk_27 (by decide +kernel)
theorem dX12_workSum_66 : decode cX12_workSum 66 = .ok (.iaload, 1) := dk_46 (by decide +kernel)
theorem dX12_workSum_67 : decode cX12_workSum 67 = .ok (.aload_n 0, 1) := dk_42 (by decide +kernel)
theorem dX12_workSum_68 : decode cX12_workSum 68 = .ok (.iload_n 3, 1) := dk_29 (by decide +kernel)
theorem dX12_workSum_69 : decode cX12_workSum 69 = .ok (.invokevirtual 693, 3) := dk_182 (by decide +kernel)
theorem dX12_workSum_72 : decode cX12_workSum 72 = .ok (.if_icmp .ne 14, 3) := dk_160 (by decide +kernel)
theorem dX12_workSum_75 : decode cX12_workSum 75 = .ok (.aload_n 0, 1) := dk_42 (by decide +kernel)
theorem dX12_workSum_76 : decode cX12_workSum 76 = .ok (.dup, 1) := dk_89 (by decide +kernel)
theorem dX12_workSum_77 : decode cX12_workSum 77 = .ok (.getfield 647, 3) := dk_180 (by decide +kernel)
theorem dX12_workSum_80 : decode cX12_workSum 80 = .ok (.iconst 1, 1) := dk_4 (by decide +kernel)
theorem dX12_workSum_81 : decode cX12_workSum 81 = .ok (.isub, 1) := dk_100 (by decide +kernel)
theorem dX12_workSum_82 : decode cX12_workSum 82 = .ok (.putfield 647, 3) := dk_181 (by decide +kernel)
theorem dX12_workSum_85 : decode cX12_workSum 85 = .ok (.return_, 1) := dk_177 (by decide +kernel)
theorem dX12_workSum_86 : decode cX12_workSum 86 = .ok (.aload_n 0, 1) := dk_42 (by decide +kernel)
theorem dX12_workSum_87 : decode cX12_workSum 87 = .ok (.iload_n 3, 1) := dk_29 (by decide +kernel)
theorem dX12_workSum_88 : decode cX12_workSum 88 = .ok (.aload_n 0, 1) := dk_42 (by decide +kernel)
theorem dX12_workSum_89 : decode cX12_workSum 89 = .ok (.getfield 185, 3) := dk_180 (by decide +kernel)
theorem dX12_workSum_92 : decode cX12_workSum 92 = .ok (.iload_n 1, 1) := dk_27 (by decide +kernel)
theorem dX12_workSum_93 : decode cX12_workSum 93 = .ok (.iaload, 1) := dk_46 (by decide +kernel)
theorem dX12_workSum_94 : decode cX12_workSum 94 = .ok (.invokevirtual 696, 3) := dk_182 (by decide +kernel)
theorem dX12_workSum_97 : decode cX12_workSum 97 = .ok (.aload_n 0, 1) := dk_42 (by decide +kernel)
theorem dX12_workSum_98 : decode cX12_workSum 98 = .ok (.getfield 182, 3) := dk_180 (by decide +kernel)
theorem dX12_workSum_101 : decode cX12_workSum 101 = .ok (.iload_n 1, 1) := dk_27 (by decide +kernel)
theorem dX12_workSum_102 : decode cX12_workSum 102 = .ok (.aload_n 0, 1) := dk_42 (by decide +kernel)
theorem dX12_workSum_103 : decode cX12_workSum 103 = .ok (.getfield 116, 3) := dk_180 (by decide +kernel)
theorem dX12_workSum_106 : decode cX12_workSum 106 = .ok (.iload_n 2, 1) := dk_28 (by decide +kernel)
theorem dX12_workSum_107 : decode cX12_workSum 107 = .ok (.iaload, 1) := dk_46 (by decide +kernel)
theorem dX12_workSum_108 : decode cX12_workSum 108 = .ok (.iconst (-1), 1) := dk_2 (by decide +kernel)
theorem dX12_workSum_109 : decode cX12_workSum 109 = .ok (.if_icmp .ne 7, 3) := dk_160 (by decide +kernel)
theorem dX12_workSum_112 : decode cX12_workSum 112 = .ok (.iconst 3, 1) := dk_6 (by decide +kernel)
theorem dX12_workSum_113 : decode cX12_workSum 113 = .ok (.goto 4, 3) := dk_167 (by decide +kernel)
theorem dX12_workSum_116 : decode cX12_workSum 116 = .ok (.iconst 2, 1) := dk_5 (by decide +kernel)
theorem dX12_workSum_117 : decode cX12_workSum 117 = .ok (.iastore, 1) := dk_79 (by decide +kernel)
theorem dX12_workSum_118 : decode cX12_workSum 118 = .ok (.aload_n 0, 1) := dk_42 (by decide +kernel)
theorem dX12_workSum_119 : decode cX12_workSum 119 = .ok (.aload_n 0, 1) := dk_42 (by decide +kernel)
theorem dX12_workSum_120 : decode cX12_workSum 120 = .ok (.getfield 116, 3) := dk_180 (by decide +kernel)
theorem dX12_workSum_123 : decode cX12_workSum 123 = .ok (.iload_n 2, 1) := dk_28 (by decide +kernel)
theorem dX12_workSum_124 : decode cX12_workSum 124 = .ok (.iaload, 1) := dk_46 (by decide +kernel)
theorem dX12_workSum_125 : decode cX12_workSum 125 = .ok (.iconst (-1), 1) := dk_2 (by decide +kernel)
theorem dX12_workSum_126 : decode cX12_workSum 126 = .ok (.if_icmp .ne 12, 3) := dk_160 (by decide +kernel)
theorem dX12_workSum_129 : decode cX12_workSum 129 = .ok (.aload_n 0, 1) := dk_42 (by decide +kernel)
theorem dX12_workSum_130 : decode cX12_workSum 130 = .ok (.getfield 119, 3) := dk_180 (by decide +kernel)
theorem dX12_workSum_133 : decode cX12_workSum 133 = .ok (.iload_n 2, 1) := dk_28 (by decide +kernel)
theorem dX12_workSum_134 : decode cX12_workSum 134 = .ok (.iaload, 1) := dk_46 (by decide +kernel)
theorem dX12_workSum_135 : decode cX12_workSum 135 = .ok (.goto 9, 3) := dk_167 (by decide +kernel)
theorem dX12_workSum_138 : decode cX12_workSum 138 = .ok (.aload_n 0, 1) := dk_42 (by decide +kernel)
theorem dX12_workSum_139 : decode cX12_workSum 139 = .ok (.getfield 116, 3) := dk_180 (by decide +kernel)
theorem dX12_workSum_142 : decode cX12_workSum 142 = .ok (.iload_n 2, 1) := dk_28 (by decide +kernel)
theorem dX12_workSum_143 : decode cX12_workSum 143 = .ok (.iaload, 1) := dk_46 (by decide +kernel)
theorem dX12_workSum_144 : decode cX12_workSum 144 = .ok (.invokevirtual 650, 3) := dk_182 (by decide +kernel)
theorem dX12_workSum_147 : decode cX12_workSum 147 = .ok (.goto 125, 3) := dk_167 (by decide +kernel)
theorem dX12_workSum_150 : decode cX12_workSum 150 = .ok (.aload_n 0, 1) := dk_42 (by decide +kernel)
theorem dX12_workSum_151 : decode cX12_workSum 151 = .ok (.getfield 182, 3) := dk_180 (by decide +kernel)
theorem dX12_workSum_154 : decode cX12_workSum 154 = .ok (.iload_n 1, 1) := dk_27 (by decide +kernel)
theorem dX12_workSum_155 : decode cX12_workSum 155 = .ok (.iaload, 1) := dk_46 (by decide +kernel)
theorem dX12_workSum_156 : decode cX12_workSum 156 = .ok (.iconst 2, 1) := dk_5 (by decide +kernel)
theorem dX12_workSum_157 : decode cX12_workSum 157 = .ok (.if_icmp .ne 65, 3) := dk_160 (by decide +kernel)
theorem dX12_workSum_160 : decode cX12_workSum 160 = .ok (.aload_n 0, 1) := dk_42 (by decide +kernel)
theorem dX12_workSum_161 : decode cX12_workSum 161 = .ok (.getfield 182, 3) := dk_180 (by decide +kernel)
theorem dX12_workSum_164 : decode cX12_workSum 164 = .ok (.iload_n 1, 1) := dk_27 (by decide +kernel)
theorem dX12_workSum_165 : decode cX12_workSum 165 = .ok (.aload_n 0, 1) := dk_42 (by decide +kernel)
theorem dX12_workSum_166 : decode cX12_workSum 166 = .ok (.getfield 674, 3) := dk_180 (by decide +kernel)
theorem dX12_workSum_169 : decode cX12_workSum 169 = .ok (.ifCond .eq 7, 3) := dk_153 (by decide +kernel)
theorem dX12_workSum_172 : decode cX12_workSum 172 = .ok (.iconst 3, 1) := dk_6 (by decide +kernel)
theorem dX12_workSum_173 : decode cX12_workSum 173 = .ok (.goto 4, 3) := dk_167 (by decide +kernel)
theorem dX12_workSum_176 : decode cX12_workSum 176 = .ok (.iconst 1, 1) := dk_4 (by decide +kernel)
theorem dX12_workSum_177 : decode cX12_workSum 177 = .ok (.iastore, 1) := dk_79 (by decide +kernel)
theorem dX12_workSum_178 : decode cX12_workSum 178 = .ok (.aload_n 0, 1) := dk_42 (by decide +kernel)
theorem dX12_workSum_179 : decode cX12_workSum 179 = .ok (.iload_n 3, 1) := dk_29 (by decide +kernel)
theorem dX12_workSum_180 : decode cX12_workSum 180 = .ok (.aload_n 0, 1) := dk_42 (by decide +kernel)
theorem dX12_workSum_181 : decode cX12_workSum 181 = .ok (.getfield 185, 3) := dk_180 (by decide +kernel)
theorem dX12_workSum_184 : decode cX12_workSum 184 = .ok (.iload_n 1, 1) := dk_27 (by decide +kernel)
theorem dX12_workSum_185 : decode cX12_workSum 185 = .ok (.iaload, 1) := dk_46 (by decide +kernel)
theorem dX12_workSum_186 : decode cX12_workSum 186 = .ok (.invokevirtual 696, 3) := dk_182 (by decide +kernel)
theorem dX12_workSum_189 : decode cX12_workSum 189 = .ok (.aload_n 0, 1) := dk_42 (by decide +kernel)
theorem dX12_workSum_190 : decode cX12_workSum 190 = .ok (.getfield 674, 3) := dk_180 (by decide +kernel)
theorem dX12_workSum_193 : decode cX12_workSum 193 = .ok (.ifCond .eq 16, 3) := dk_153 (by decide +kernel)
theorem dX12_workSum_196 : decode cX12_workSum 196 = .ok (.aload_n 0, 1) := dk_42 (by decide +kernel)
theorem dX12_workSum_197 : decode cX12_workSum 197 = .ok (.aload_n 0, 1) := dk_42 (by decide +kernel)
theorem dX12_workSum_198 : decode cX12_workSum 198 = .ok (.getfield 119, 3) := dk_180 (by decide +kernel)
theorem dX12_workSum_201 : decode cX12_workSum 201 = .ok (.iload_n 2, 1) := dk_28 (by decide +kernel)
theorem dX12_workSum_202 : decode cX12_workSum 202 = .ok (.iaload, 1) := dk_46 (by decide +kernel)
theorem dX12_workSum_203 : decode cX12_workSum 203 = .ok (.invokevirtual 650, 3) := dk_182 (by decide +kernel)
theorem dX12_workSum_206 : decode cX12_workSum 206 = .ok (.goto 66, 3) := dk_167 (by decide +kernel)
theorem dX12_workSum_209 : decode cX12_workSum 209 = .ok (.aload_n 0, 1) := dk_42 (by decide +kernel)
theorem dX12_workSum_210 : decode cX12_workSum 210 = .ok (.getfield 185, 3) := dk_180 (by decide +kernel)
theorem dX12_workSum_213 : decode cX12_workSum 213 = .ok (.iload_n 1, 1) := dk_27 (by decide +kernel)
theorem dX12_workSum_214 : decode cX12_workSum 214 = .ok (.dup2, 1) := dk_92 (by decide +kernel)
theorem dX12_workSum_215 : decode cX12_workSum 215 = .ok (.iaload, 1) := dk_46 (by decide +kernel)
theorem dX12_workSum_216 : decode cX12_workSum 216 = .ok (.iconst 1, 1) := dk_4 (by decide +kernel)
theorem dX12_workSum_217 : decode cX12_workSum 217 = .ok (.iadd, 1) := dk_96 (by decide +kernel)
theorem dX12_workSum_218 : decode cX12_workSum 218 = .ok (.iastore, 1) := dk_79 (by decide +kernel)
theorem dX12_workSum_219 : decode cX12_workSum 219 = .ok (.goto 53, 3) := dk_167 (by decide +kernel)
theorem dX12_workSum_222 : decode cX12_workSum 222 = .ok (.aload_n 0, 1) := dk_42 (by decide +kernel)
theorem dX12_workSum_223 : decode cX12_workSum 223 = .ok (.aload_n 0, 1) := dk_42 (by decide +kernel)
theorem dX12_workSum_224 : decode cX12_workSum 224 = .ok (.getfield 659, 3) := dk_180 (by decide +kernel)
theorem dX12_workSum_227 : decode cX12_workSum 227 = .ok (.iconst 2, 1) := dk_5 (by decide +kernel)
theorem dX12_workSum_228 : decode cX12_workSum 228 = .ok (.isub, 1) := dk_100 (by decide +kernel)
theorem dX12_workSum_229 : decode cX12_workSum 229 = .ok (.aload_n 0, 1) := dk_42 (by decide +kernel)
theorem dX12_workSum_230 : decode cX12_workSum 230 = .ok (.getfield 659, 3) := dk_180 (by decide +kernel)
theorem dX12_workSum_233 : decode cX12_workSum 233 = .ok (.iconst 1, 1) := dk_4 (by decide +kernel)
theorem dX12_workSum_234 : decode cX12_workSum 234 = .ok (.isub, 1) := dk_100 (by decide +kernel)
theorem dX12_workSum_235 : decode cX12_workSum 235 = .ok (.iconst 1, 1) := dk_4 (by decide +kernel)
theorem dX12_workSum_236 : decode cX12_workSum 236 = .ok (.aload_n 0, 1) := dk_42 (by decide +kernel)
theorem dX12_workSum_237 : decode cX12_workSum 237 = .ok (.getfield 122, 3) := dk_180 (by decide +kernel)
theorem dX12_workSum_240 : decode cX12_workSum 240 = .ok (.iload_n 2, 1) := dk_28 (by decide +kernel)
theorem dX12_workSum_241 : decode cX12_workSum 241 = .ok (.iaload, 1) := dk_46 (by decide +kernel)
theorem dX12_workSum_242 : decode cX12_workSum 242 = .ok (.invokevirtual 683, 3) := dk_182 (by decide +kernel)
theorem dX12_workSum_245 : decode cX12_workSum 245 = .ok (.aload_n 0, 1) := dk_42 (by decide +kernel)
theorem dX12_workSum_246 : decode cX12_workSum 246 = .ok (.dup, 1) := dk_89 (by decide +kernel)
theorem dX12_workSum_247 : decode cX12_workSum 247 = .ok (.getfield 659, 3) := dk_180 (by decide +kernel)
theorem dX12_workSum_250 : decode cX12_workSum 250 = .ok (.iconst 1, 1) := dk_4 (by decide +kernel)
theorem dX12_workSum_251 : decode cX12_workSum 251 = .ok (.isub, 1) := dk_100 (by decide +kernel)
theorem dX12_workSum_252 : decode cX12_workSum 252 = .ok (.putfield 659, 3) := dk_181 (by decide +kernel)
theorem dX12_workSum_255 : decode cX12_workSum 255 = .ok (.aload_n 0, 1) := dk_42 (by decide +kernel)
theorem dX12_workSum_256 : decode cX12_workSum 256 = .ok (.getfield 185, 3) := dk_180 (by decide +kernel)
theorem dX12_workSum_259 : decode cX12_workSum 259 = .ok (.iload_n 1, 1) := dk_27 (by decide +kernel)
theorem dX12_workSum_260 : decode cX12_workSum 260 = .ok (.dup2, 1) := dk_92 (by decide +kernel)
theorem dX12_workSum_261 : decode cX12_workSum 261 = .ok (.iaload, 1) := dk_46 (by decide +kernel)
theorem dX12_workSum_262 : decode cX12_workSum 262 = .ok (.iconst 1, 1) := dk_4 (by decide +kernel)
theorem dX12_workSum_263 : decode cX12_workSum 263 = .ok (.iadd, 1) := dk_96 (by decide +kernel)
theorem dX12_workSum_264 : decode cX12_workSum 264 = .ok (.iastore, 1) := dk_79 (by decide +kernel)
theorem dX12_workSum_265 : decode cX12_workSum 265 = .ok (.aload_n 0, 1) := dk_42 (by decide +kernel)
theorem dX12_workSum_266 : decode cX12_workSum 266 = .ok (.getfield 182, 3) := dk_180 (by decide +kernel)
theorem dX12_workSum_269 : decode cX12_workSum 269 = .ok (.iload_n 1, 1) := dk_27 (by decide +kernel)
theorem dX12_workSum_270 : decode cX12_workSum 270 = .ok (.iconst 1, 1) := dk_4 (by decide +kernel)
theorem dX12_workSum_271 : decode cX12_workSum 271 = .ok (.iastore, 1) := dk_79 (by decide +kernel)
theorem dX12_workSum_272 : decode cX12_workSum 272 = .ok (.return_, 1) := dk_177 (by decide +kernel)
def wsRX12_workSum : List Cond := .code yX12_workSum cX12_workSum 4 none :: ([.fieldLink RX12 113 "OptimaWorksModel" "partA" "[I", .fieldLink RX12 182 "OptimaWorksModel" "stage" "[I", .fieldLink RX12 659 "OptimaWorksModel" "piled" "I", .fieldLink RX12 122 "OptimaWorksModel" "where" "[I", .fieldLink RX12 185 "OptimaWorksModel" "loopA" "[I", .fieldLink RX12 674 "OptimaWorksModel" "truth" "Z", .fieldLink RX12 119 "OptimaWorksModel" "partC" "[I", .fieldLink RX12 116 "OptimaWorksModel" "partB" "[I", .fieldLink RX12 647 "OptimaWorksModel" "framed" "I"] ++ wsX120 ++ (wsV RX12 683 RX12 yX12_join wsRX12_join) ++ (wsV RX12 696 RX12 yX12_bind wsRX12_bind) ++ (wsV RX12 650 RX12 yX12_call wsRX12_call) ++ (wsV RX12 693 RX12 yX12_membersOf wsRmembersOfm) ++ (wsV RX12 662 RX12 yX12_nought wsRX12_nought))
theorem iwsRX12_workSum_in12 : ∀ w ∈ wsX120, w ∈ wsRX12_workSum := fun _ h => List.mem_cons_of_mem _ (List.mem_append_left _ (List.mem_append_left _ (List.mem_append_left _ (List.mem_append_left _ (List.mem_append_left _ (List.mem_append_right _ h))))))
theorem gwsRX12_workSum_0 : GoodIn wsRX12_workSum (wsV RX12 683 RX12 yX12_join wsRX12_join) := goodIn_sub (fun _ h => List.mem_cons_of_mem _ (List.mem_append_left _ (List.mem_append_left _ (List.mem_append_left _ (List.mem_append_left _ (List.mem_append_right _ h)))))) (gdV (by decide +kernel) gdwsRX12_join)
theorem gwsRX12_workSum_1 : GoodIn wsRX12_workSum (wsV RX12 696 RX12 yX12_bind wsRX12_bind) := goodIn_sub (fun _ h => List.mem_cons_of_mem _ (List.mem_append_left _ (List.mem_append_left _ (List.mem_append_left _ (List.mem_append_right _ h))))) (gdV (by decide +kernel) gdwsRX12_bind)
theorem gwsRX12_workSum_2 : GoodIn wsRX12_workSum (wsV RX12 650 RX12 yX12_call wsRX12_call) := goodIn_sub (fun _ h => List.mem_cons_of_mem _ (List.mem_append_left _ (List.mem_append_left _ (List.mem_append_right _ h)))) (gdV (by decide +kernel) gdwsRX12_call)
theorem gwsRX12_workSum_3 : GoodIn wsRX12_workSum (wsV RX12 693 RX12 yX12_membersOf wsRmembersOfm) := goodIn_sub (fun _ h => List.mem_cons_of_mem _ (List.mem_append_left _ (List.mem_append_right _ h))) (gdV (by decide +kernel) gdwsRmembersOfm)
theorem gwsRX12_workSum_4 : GoodIn wsRX12_workSum (wsV RX12 662 RX12 yX12_nought wsRX12_nought) := goodIn_sub (fun _ h => List.mem_cons_of_mem _ (List.mem_append_right _ h)) (gdV (by decide +kernel) gdwsRX12_nought)
theorem gdwsRX12_workSum : wsRX12_workSum.all goodWord = true := gdC rfl (gdA (gdA (gdA (gdA (gdA (gdA (by decide +kernel : ([.fieldLink RX12 113 "OptimaWorksModel" "partA" "[I", .fieldLink RX12 182 "OptimaWorksModel" "stage" "[I", .fieldLink RX12 659 "OptimaWorksModel" "piled" "I", .fieldLink RX12 122 "OptimaWorksModel" "where" "[I", .fieldLink RX12 185 "OptimaWorksModel" "loopA" "[I", .fieldLink RX12 674 "OptimaWorksModel" "truth" "Z", .fieldLink RX12 119 "OptimaWorksModel" "partC" "[I", .fieldLink RX12 116 "OptimaWorksModel" "partB" "[I", .fieldLink RX12 647 "OptimaWorksModel" "framed" "I"] : List Cond).all goodWord = true) gdwsX120) (gdV (by decide +kernel) gdwsRX12_join)) (gdV (by decide +kernel) gdwsRX12_bind)) (gdV (by decide +kernel) gdwsRX12_call)) (gdV (by decide +kernel) gdwsRmembersOfm)) (gdV (by decide +kernel) gdwsRX12_nought))
set_option maxHeartbeats 4000000 in
set_option maxRecDepth 100000 in
/-- workSum(f, n) -/
theorem r_X12_workSum (l : Launch) (dC : Nat → ClassId) (dI : Nat → Nat → Nat) (a : Nat → Nat) (k : Nat → ClassId) (h0 : Nat) (vi : Nat → Int32) (vj : Nat → Int64) (vF : Nat → Nat → Int32) (vG : Nat → Nat → Int64) (nF : Nat → Nat → Int32) (V : Nat → Prop) (wt : Nat → Nat) (dp : Nat → Nat) (pd : Nat → Nat) (nN : Nat) (kN : Nat) (sN : Nat) (la : Nat) (hN : Nat) (pN : Nat) (rN : Nat) (fN : Nat) (fr : Nat) (bN : Nat) (se : Nat) (cN : Nat) (dV : Int32) (wW : Nat) (hnN : nN < 4000) (hfN : fN < 4299) (hkN : vF 29 nN = nI kN) (hsN : vF 53 fN = nI sN) (hfr9 : vi 89 = nI fr) (hfr1 : fr = fN + 1) (hTo : TopO nF V wt dp pd nN kN sN la hN pN rN) (hbB : vF 30 nN = nI bN) (hbN : bN < 900) (hBn : BnO (vF 36) (vF 37) (vF 38) se bN) (hse44 : se ≤ 44) (hSe : SeO (vF 16) (vF 17) se) (hMb : MbO (vF 17) (vF 36) (vF 37) bN (mbO nF nN)) (hmb4 : mbO nF nN ≤ 144) (hEn : EnO (vF 51)) (hcN : vF 32 nN = nI cN) (hdI : vF 31 nN = dV) (hdF : nF 31 nN = dV) (hSW : SumW nF V wt dp pd nN cN wW) (hwN : mbO nF nN * wW + 2 ≤ wt nN) (hla : 0 < sN → vF 54 fN = nI la) (hpl : vi 81 = nI pN) (hRw : ∀ v9, v9 < pN → RowU (vF 49) (vF 50) v9) (hpp : hN + pd nN ≤ 80) (hpd : 2 ≤ pd nN) (hst0 : 0 ≤ (vi 21).toInt) (hk9 : kN = 9) (sz : Nat) : Met l yX12_workSum wsRX12_workSum ({ frames := 3, cells := 0, slots := 0, locals := 87 }) (va_Pc [.ref h0, .int (nI fN), .int (nI nN)] (fun U => U.heap.size = sz ∧ va_P (dC, dI) vwCl (WR a k h0 vi vj vF vG) U.heap ∧ va_K (dC, dI) vwCl (tX12 k) U ∧ va_D (fun _ => True) (WR a k h0 vi vj vF vG))) (va_Qv (fun (u : (Nat → Int32) × (Nat → Int32) × (Nat → Int32) × (Nat → Int32) × (Nat → Int32) × (Nat → Int32) × (Nat) × (Nat) × (Int32) × (Int32)) => (∀ v9, v9 < (u.2.2.2.2.2.2.2.1) → RowU (u.1) (u.2.1) v9) ∧ (EnO (u.2.2.1)) ∧ (0 ≤ ((u.2.2.2.2.2.2.2.2.1)).toInt) ∧ ((u.2.2.2.2.2.2.2.2.1) = vi 21 ∨ 0 < ((u.2.2.2.2.2.2.2.2.1)).toInt) ∧ (StpO nF V wt dp pd nN kN fN hN rN (vF 52) (vF 53) (vF 54) (u.2.2.2.1) (u.2.2.2.2.1) (u.2.2.2.2.2.1) (u.2.2.2.2.2.2.1) (u.2.2.2.2.2.2.2.1))) (fun (u : (Nat → Int32) × (Nat → Int32) × (Nat → Int32) × (Nat → Int32) × (Nat → Int32) × (Nat → Int32) × (Nat) × (Nat) × (Int32) × (Int32)) t => va_P (dC, dI) vwCl (WR a k h0 (fT (fT (fT (fT vi 21 (u.2.2.2.2.2.2.2.2.1)) 22 (u.2.2.2.2.2.2.2.2.2)) 81 (nI (u.2.2.2.2.2.2.2.1))) 89 (nI (u.2.2.2.2.2.2.1))) vj (fT (fT (fT (fT (fT (fT vF 49 (u.1)) 50 (u.2.1)) 54 (u.2.2.2.2.2.1)) 53 (u.2.2.2.2.1)) 51 (u.2.2.1)) 52 (u.2.2.2.1)) vG) t.heap ∧ va_D (va_A (WR a k h0 vi vj vF vG) sz) (WR a k h0 (fT (fT (fT (fT vi 21 (u.2.2.2.2.2.2.2.2.1)) 22 (u.2.2.2.2.2.2.2.2.2)) 81 (nI (u.2.2.2.2.2.2.2.1))) 89 (nI (u.2.2.2.2.2.2.1))) vj (fT (fT (fT (fT (fT (fT vF 49 (u.1)) 50 (u.2.1)) 54 (u.2.2.2.2.2.1)) 53 (u.2.2.2.2.1)) 51 (u.2.2.1)) 52 (u.2.2.2.1)) vG)) (va_A (WR a k h0 vi vj vF vG) sz)) 0 0 (va_A (WR a k h0 vi vj vF vG) sz) := by
  refine Met.ofW (cc := cX12_workSum) (maxL := 4) (ret := none) (by decide) rfl ?_
  intro p e s m args below meth c s₁ B hml hv
  obtain ⟨rfl, hsz, hP, hK, hD0⟩ := hv
  have hx := B.exec
  have hb := B.bytes
  have hr := B.returns
  have hts := atoms_spec (ws := wsRX12_workSum) B.pre
  have hown : s.vm.findClass RX12 = some m.cls := findClass_of_methodNamed B.named
  have hlocks := B.notSynchronized
  subst hsz
  have hD := hD0.self (sz := s.heap.size)
  generalize hAe : va_A (WR a k h0 vi vj vF vG) s.heap.size = A at hD ⊢
  have hA : ∀ q : Nat, s.heap.size ≤ q → A q := fun q h => by rw [← hAe]; exact Or.inr h
  have hS : va_S A s.heap s.heap [] := va_S.rf
  have hl := lv_entry ([.ref h0, .int (nI fN), .int (nI nN)]) (n := 4) (Nat.le_of_ble_eq_true rfl)
  rw [lg_entry_eq]
  generalize (lg_sl ([.ref h0, .int (nI fN), .int (nI nN)]) ++ List.replicate (4 - (lg_sl ([.ref h0, .int (nI fN), .int (nI nN)])).length) Slot.unset).toArray = ls at hl ⊢
  have hl : lv_has ls 4 [(0, .ref h0), (1, .int (nI fN)), (2, .int (nI nN))] := hl
  have hs0 : (sN = 0 ∧ pN = hN) ∨ (sN = 1 ∧ pN = hN + 1 ∧ la ≤ mbO nF nN) ∨ (sN = 2 ∧ pN = hN + 1 ∧ la < mbO nF nN) ∨ (sN = 3 ∧ pN = hN + 2 ∧ la < mbO nF nN) := by (rcases hTo.sum hk9 with h9 | h9 | h9 | h9); (exact Or.inl ⟨h9.1, h9.2.1⟩); (exact Or.inr (Or.inl ⟨h9.1, h9.2.1, h9.2.2.1⟩)); (exact Or.inr (Or.inr (Or.inl ⟨h9.1, h9.2.1, h9.2.2.1⟩))); (exact Or.inr (Or.inr (Or.inr ⟨h9.1, h9.2.1, h9.2.2.1⟩)))
  refine lv_aload_n hx hb dX12_workSum_0 rfl (lv_at hl 0 rfl) ?_
  refine va_get (D := (dC, dI)) (ci := 12) (v := .ref (a 30)) (C := RX12) (T := TX12) (N := 163) (fs := fM (vS a vi vj)) hx hb hts iwsRX12_workSum_in12 hown hK hP 0 rfl rfl 54 (by decide) (hts (.fieldLink RX12 113 "OptimaWorksModel" "partA" "[I") (by decide +kernel)) (fun _ h9 => h9) rfl dX12_workSum_1 ?_
  refine lv_iload_n hx hb dX12_workSum_4 rfl (lv_at hl 2 rfl) ?_
  refine va_iald (cA := k 30) (n := 4200) (f := (vF 30)) hx hb hK hP 31 30 (WR_get 30 (by decide)) (TR_get 30 (by decide)) (vp_in_nI (show nN < 4200 by omega) (by omega)) dX12_workSum_5 ?_
  refine lv_topi (fun y1 hy1 => ?_)
  obtain rfl : ((vF 30) nN) = y1 := (hy1.trans (by rw [nI_clamp (by omega)])).symm
  refine lv_topi (fun y2 hy2 => ?_)
  obtain rfl : (nI bN) = y2 := (hy2.trans (hbB)).symm
  refine lv_istore_n hx hb dX12_workSum_6 rfl hl (by decide) rfl (fun ls (hl : lv_has ls _ ([(3, .int (nI bN)), (0, .ref h0), (1, .int (nI fN)), (2, .int (nI nN))])) => ?_)
  refine lv_aload_n hx hb dX12_workSum_7 rfl (lv_at hl 1 rfl) ?_
  refine va_get (D := (dC, dI)) (ci := 12) (v := .ref (a 53)) (C := RX12) (T := TX12) (N := 163) (fs := fM (vS a vi vj)) hx hb hts iwsRX12_workSum_in12 hown hK hP 0 rfl rfl 86 (by decide) (hts (.fieldLink RX12 182 "OptimaWorksModel" "stage" "[I") (by decide +kernel)) (fun _ h9 => h9) rfl dX12_workSum_8 ?_
  refine lv_iload_n hx hb dX12_workSum_11 rfl (lv_at hl 2 rfl) ?_
  refine va_iald (cA := k 53) (n := 4300) (f := (vF 53)) hx hb hK hP 54 53 (WR_get 53 (by decide)) (TR_get 53 (by decide)) (vp_in_nI (show fN < 4300 by omega) (by omega)) dX12_workSum_12 ?_
  refine lv_topi (fun y3 hy3 => ?_)
  obtain rfl : ((vF 53) fN) = y3 := (hy3.trans (by rw [nI_clamp (by omega)])).symm
  refine lv_topi (fun y4 hy4 => ?_)
  obtain rfl : (nI sN) = y4 := (hy4.trans (hsN)).symm
  refine lv_if_ne (tgt := 51) hx hb dX12_workSum_13 (by decide) (fun c_13 => ?_) (fun c_13 => ?_)
  · have t_13 : ((sN : Nat) : Int) ≠ 0 := toI_ne c_13 (nI_toInt (by omega)) (by decide)
    refine lv_aload_n hx hb dX12_workSum_51 rfl (lv_at hl 1 rfl) ?_
    refine va_get (D := (dC, dI)) (ci := 12) (v := .ref (a 53)) (C := RX12) (T := TX12) (N := 163) (fs := fM (vS a vi vj)) hx hb hts iwsRX12_workSum_in12 hown hK hP 0 rfl rfl 86 (by decide) (hts (.fieldLink RX12 182 "OptimaWorksModel" "stage" "[I") (by decide +kernel)) (fun _ h9 => h9) rfl dX12_workSum_52 ?_
    refine lv_iload_n hx hb dX12_workSum_55 rfl (lv_at hl 2 rfl) ?_
    refine va_iald (cA := k 53) (n := 4300) (f := (vF 53)) hx hb hK hP 54 53 (WR_get 53 (by decide)) (TR_get 53 (by decide)) (vp_in_nI (show fN < 4300 by omega) (by omega)) dX12_workSum_56 ?_
    refine lv_topi (fun y5 hy5 => ?_)
    obtain rfl : ((vF 53) fN) = y5 := (hy5.trans (by rw [nI_clamp (by omega)])).symm
    refine lv_topi (fun y6 hy6 => ?_)
    obtain rfl : (nI sN) = y6 := (hy6.trans (hsN)).symm
    refine lv_iconst (v := 1) hx hb dX12_workSum_57 (by decide) ?_
    refine lv_icmp_ne (tgt := 150) hx hb dX12_workSum_58 (by decide) (fun c_58 => ?_) (fun c_58 => ?_)
    · have t_58 : ((sN : Nat) : Int) ≠ 1 := toI_ne c_58 (nI_toInt (by omega)) (by decide)
      refine lv_aload_n hx hb dX12_workSum_150 rfl (lv_at hl 1 rfl) ?_
      refine va_get (D := (dC, dI)) (ci := 12) (v := .ref (a 53)) (C := RX12) (T := TX12) (N := 163) (fs := fM (vS a vi vj)) hx hb hts iwsRX12_workSum_in12 hown hK hP 0 rfl rfl 86 (by decide) (hts (.fieldLink RX12 182 "OptimaWorksModel" "stage" "[I") (by decide +kernel)) (fun _ h9 => h9) rfl dX12_workSum_151 ?_
      refine lv_iload_n hx hb dX12_workSum_154 rfl (lv_at hl 2 rfl) ?_
      refine va_iald (cA := k 53) (n := 4300) (f := (vF 53)) hx hb hK hP 54 53 (WR_get 53 (by decide)) (TR_get 53 (by decide)) (vp_in_nI (show fN < 4300 by omega) (by omega)) dX12_workSum_155 ?_
      refine lv_topi (fun y7 hy7 => ?_)
      obtain rfl : ((vF 53) fN) = y7 := (hy7.trans (by rw [nI_clamp (by omega)])).symm
      refine lv_topi (fun y8 hy8 => ?_)
      obtain rfl : (nI sN) = y8 := (hy8.trans (hsN)).symm
      refine lv_iconst (v := 2) hx hb dX12_workSum_156 (by decide) ?_
      refine lv_icmp_ne (tgt := 222) hx hb dX12_workSum_157 (by decide) (fun c_157 => ?_) (fun c_157 => ?_)
      · have t_157 : ((sN : Nat) : Int) ≠ 2 := toI_ne c_157 (nI_toInt (by omega)) (by decide)
        refine lv_aload_n hx hb dX12_workSum_222 rfl (lv_at hl 1 rfl) ?_
        refine lv_aload_n hx hb dX12_workSum_223 rfl (lv_at hl 1 rfl) ?_
        refine va_get (D := (dC, dI)) (ci := 12) (v := .int (vi 81)) (C := RX12) (T := TX12) (N := 163) (fs := fM (vS a vi vj)) hx hb hts iwsRX12_workSum_in12 hown hK hP 0 rfl rfl 81 (by decide) (hts (.fieldLink RX12 659 "OptimaWorksModel" "piled" "I") (by decide +kernel)) (fun _ h9 => h9) rfl dX12_workSum_224 ?_
        refine lv_topi (fun y9 hy9 => ?_)
        obtain rfl : (nI pN) = y9 := (hy9.trans (hpl)).symm
        refine lv_iconst (v := 2) hx hb dX12_workSum_227 (by decide) ?_
        refine lv_isub hx hb dX12_workSum_228 ?_
        refine lv_topi (fun y10 hy10 => ?_)
        obtain rfl : (nI (pN - 2)) = y10 := (hy10.trans (pk_sub (a := pN) (b := 2) (by omega))).symm
        refine lv_aload_n hx hb dX12_workSum_229 rfl (lv_at hl 1 rfl) ?_
        refine va_get (D := (dC, dI)) (ci := 12) (v := .int (vi 81)) (C := RX12) (T := TX12) (N := 163) (fs := fM (vS a vi vj)) hx hb hts iwsRX12_workSum_in12 hown hK hP 0 rfl rfl 81 (by decide) (hts (.fieldLink RX12 659 "OptimaWorksModel" "piled" "I") (by decide +kernel)) (fun _ h9 => h9) rfl dX12_workSum_230 ?_
        refine lv_topi (fun y11 hy11 => ?_)
        obtain rfl : (nI pN) = y11 := (hy11.trans (hpl)).symm
        refine lv_iconst (v := 1) hx hb dX12_workSum_233 (by decide) ?_
        refine lv_isub hx hb dX12_workSum_234 ?_
        refine lv_topi (fun y12 hy12 => ?_)
        obtain rfl : (nI (pN - 1)) = y12 := (hy12.trans (pk_sub (a := pN) (b := 1) (by omega))).symm
        refine lv_iconst (v := 1) hx hb dX12_workSum_235 (by decide) ?_
        refine lv_aload_n hx hb dX12_workSum_236 rfl (lv_at hl 1 rfl) ?_
        refine va_get (D := (dC, dI)) (ci := 12) (v := .ref (a 33)) (C := RX12) (T := TX12) (N := 163) (fs := fM (vS a vi vj)) hx hb hts iwsRX12_workSum_in12 hown hK hP 0 rfl rfl 57 (by decide) (hts (.fieldLink RX12 122 "OptimaWorksModel" "where" "[I") (by decide +kernel)) (fun _ h9 => h9) rfl dX12_workSum_237 ?_
        refine lv_iload_n hx hb dX12_workSum_240 rfl (lv_at hl 3 rfl) ?_
        refine va_iald (cA := k 33) (n := 4200) (f := (vF 33)) hx hb hK hP 34 33 (WR_get 33 (by decide)) (TR_get 33 (by decide)) (vp_in_nI (show nN < 4200 by omega) (by omega)) dX12_workSum_241 ?_
        refine lv_topi (fun y13 hy13 => ?_)
        obtain rfl : ((vF 33) nN) = y13 := (hy13.trans (by rw [nI_clamp (by omega)])).symm
        have hFc := allFree hD hS hA
        refine va_callv (va_runV (As := [.int (nI (pN - 2)), .int (nI (pN - 1)), .int 1, .int ((vF 33) nN)]) (rest := []) ⟨hx, hb, hml, hown, hts⟩ (r_X12_join l dC dI a k h0 vi vj vF vG (pN - 2) (pN - 1) 1 1 ((vF 33) nN) (by first | assumption | decide | omega | rfl) (by first | assumption | decide | omega | rfl) (by decide) (Or.inl rfl) (hRw _ (by omega)) (hRw _ (by omega)) s.heap.size) (cwV 4 hts gwsRX12_workSum_0 rfl rfl rfl hd_yX12_join_RX12 (by decide +kernel)) (fz_pre (va_recv hK hP (ci := 12) (q0 := 0) rfl rfl) hP hK hD) rfl rfl hl.1 rfl (lv_room (Nat.le_of_ble_eq_true rfl)) dX12_workSum_242 (by decide +kernel)) hS (fun q _ h => hFc q h) hFc (fun u t9_ H locs ht hvm hw9 hB9 hz1 hk1 hS => ?_)
        obtain ⟨s2242, p2242, f49242, f50242⟩ := u
        try dsimp only at hw9 hB9
        have hP : va_P (dC, dI) vwCl (WR a k h0 (fT (fT vi 21 s2242) 22 p2242) vj (fT (fT vF 49 f49242) 50 f50242) vG) H := fz_P ht hB9.1
        have hD : va_D A (WR a k h0 (fT (fT vi 21 s2242) 22 p2242) vj (fT (fT vF 49 f49242) 50 f50242) vG) := hB9.2.weaken (fun _ q _ h => hFc q.1 h)
        obtain ⟨f242_0, f242_1, f242_2, f242_3⟩ := hw9
        have f242_0 : ∀ v9, v9 < 100 → RowU (vF 49) (vF 50) v9 → RowU f49242 f50242 v9 := f242_0
        have f242_1 : ∀ q, (q < 9 * (pN - 2) ∨ 9 * (pN - 2) + 9 ≤ q) → f49242 q = (vF 49) q := f242_1
        have f242_2 : ∀ q, (q < 9 * (pN - 2) ∨ 9 * (pN - 2) + 9 ≤ q) → f50242 q = (vF 50) q := f242_2
        have f242_3 : s2242 = (vi 21) ∨ 0 < (s2242).toInt := f242_3
        refine lv_aload_n hx hb dX12_workSum_245 rfl (lv_at hl 1 rfl) ?_
        refine lv_dup hx hb dX12_workSum_246 rfl ?_
        refine va_get (D := (dC, dI)) (ci := 12) (v := .int (vi 81)) (C := RX12) (T := TX12) (N := 163) (fs := fM (vS a (fT (fT vi 21 s2242) 22 p2242) vj)) hx hb hts iwsRX12_workSum_in12 hown hK hP 0 rfl rfl 81 (by decide) (hts (.fieldLink RX12 659 "OptimaWorksModel" "piled" "I") (by decide +kernel)) (fun _ h9 => h9) rfl dX12_workSum_247 ?_
        refine lv_topi (fun y14 hy14 => ?_)
        obtain rfl : (nI pN) = y14 := (hy14.trans (hpl)).symm
        refine lv_iconst (v := 1) hx hb dX12_workSum_250 (by decide) ?_
        refine lv_isub hx hb dX12_workSum_251 ?_
        refine lv_topi (fun y15 hy15 => ?_)
        obtain rfl : (nI (pN - 1)) = y15 := (hy15.trans (pk_sub (a := pN) (b := 1) (by omega))).symm
        refine va_put (D := (dC, dI)) (ci := 12) (v := .int (nI (pN - 1))) (ty := .int) (C := RX12) (T := TX12) (N := 163) (fs := fM (vS a (fT (fT vi 21 s2242) 22 p2242) vj)) hx hb hts iwsRX12_workSum_in12 tyX12 tyX12_ok nmX12 hown hK hP hD hS 0 rfl rfl 81 (by decide) (hts (.fieldLink RX12 659 "OptimaWorksModel" "piled" "I") (by decide +kernel)) (fun _ h9 => h9) rfl (by decide +kernel) rfl rfl (Nat.le_of_ble_eq_true rfl) dX12_workSum_252 (fun H locs hP hD hS => ?_)
        have hP : va_P (dC, dI) vwCl (WR a k h0 (fT (fT (fT vi 21 s2242) 22 p2242) 81 (nI (pN - 1))) vj (fT (fT vF 49 f49242) 50 f50242) vG) H := by rw [← WR_i 81 _ rfl]; exact hP
        have hD : va_D A (WR a k h0 (fT (fT (fT vi 21 s2242) 22 p2242) 81 (nI (pN - 1))) vj (fT (fT vF 49 f49242) 50 f50242) vG) := by rw [← WR_i 81 _ rfl]; exact hD
        refine lv_aload_n hx hb dX12_workSum_255 rfl (lv_at hl 1 rfl) ?_
        refine va_get (D := (dC, dI)) (ci := 12) (v := .ref (a 54)) (C := RX12) (T := TX12) (N := 163) (fs := fM (vS a (fT (fT (fT vi 21 s2242) 22 p2242) 81 (nI (pN - 1))) vj)) hx hb hts iwsRX12_workSum_in12 hown hK hP 0 rfl rfl 87 (by decide) (hts (.fieldLink RX12 185 "OptimaWorksModel" "loopA" "[I") (by decide +kernel)) (fun _ h9 => h9) rfl dX12_workSum_256 ?_
        refine lv_iload_n hx hb dX12_workSum_259 rfl (lv_at hl 2 rfl) ?_
        refine lv_dup2_11 hx hb dX12_workSum_260 rfl rfl ?_
        refine va_iald (cA := k 54) (n := 4300) (f := (vF 54)) hx hb hK hP 55 54 (WR_get 54 (by decide)) (TR_get 54 (by decide)) (vp_in_nI (show fN < 4300 by omega) (by omega)) dX12_workSum_261 ?_
        refine lv_topi (fun y16 hy16 => ?_)
        obtain rfl : ((vF 54) fN) = y16 := (hy16.trans (by rw [nI_clamp (by omega)])).symm
        refine lv_topi (fun y17 hy17 => ?_)
        obtain rfl : (nI la) = y17 := (hy17.trans (hla (by omega))).symm
        refine lv_iconst (v := 1) hx hb dX12_workSum_262 (by decide) ?_
        refine lv_iadd hx hb dX12_workSum_263 ?_
        refine lv_topi (fun y18 hy18 => ?_)
        obtain rfl : (nI (la + 1)) = y18 := (hy18.trans (nI_add la 1)).symm
        refine va_iast (cA := k 54) (n := 4300) (f := (vF 54)) hx hb hK hP hD hS 55 54 (WR_get 54 (by decide)) (TR_get 54 (by decide)) (vp_in_nI (show fN < 4300 by omega) (by omega)) dX12_workSum_264 (fun H locs hP hD hS => ?_)
        have hP : va_P (dC, dI) vwCl (WR a k h0 (fT (fT (fT vi 21 s2242) 22 p2242) 81 (nI (pN - 1))) vj (fT (fT (fT vF 49 f49242) 50 f50242) 54 (upd (vF 54) ((nI fN)).toNatClampNeg (nI (la + 1)))) vG) H := by rw [← WR_F 54 (by decide) _ rfl]; exact hP
        have hD : va_D A (WR a k h0 (fT (fT (fT vi 21 s2242) 22 p2242) 81 (nI (pN - 1))) vj (fT (fT (fT vF 49 f49242) 50 f50242) 54 (upd (vF 54) ((nI fN)).toNatClampNeg (nI (la + 1)))) vG) := by rw [← WR_F 54 (by decide) _ rfl]; exact hD
        refine lv_aload_n hx hb dX12_workSum_265 rfl (lv_at hl 1 rfl) ?_
        refine va_get (D := (dC, dI)) (ci := 12) (v := .ref (a 53)) (C := RX12) (T := TX12) (N := 163) (fs := fM (vS a (fT (fT (fT vi 21 s2242) 22 p2242) 81 (nI (pN - 1))) vj)) hx hb hts iwsRX12_workSum_in12 hown hK hP 0 rfl rfl 86 (by decide) (hts (.fieldLink RX12 182 "OptimaWorksModel" "stage" "[I") (by decide +kernel)) (fun _ h9 => h9) rfl dX12_workSum_266 ?_
        refine lv_iload_n hx hb dX12_workSum_269 rfl (lv_at hl 2 rfl) ?_
        refine lv_iconst (v := 1) hx hb dX12_workSum_270 (by decide) ?_
        refine va_iast (cA := k 53) (n := 4300) (f := (vF 53)) hx hb hK hP hD hS 54 53 (WR_get 53 (by decide)) (TR_get 53 (by decide)) (vp_in_nI (show fN < 4300 by omega) (by omega)) dX12_workSum_271 (fun H locs hP hD hS => ?_)
        have hP : va_P (dC, dI) vwCl (WR a k h0 (fT (fT (fT vi 21 s2242) 22 p2242) 81 (nI (pN - 1))) vj (fT (fT (fT (fT vF 49 f49242) 50 f50242) 54 (upd (vF 54) ((nI fN)).toNatClampNeg (nI (la + 1)))) 53 (upd (vF 53) ((nI fN)).toNatClampNeg 1)) vG) H := by rw [← WR_F 53 (by decide) _ rfl]; exact hP
        have hD : va_D A (WR a k h0 (fT (fT (fT vi 21 s2242) 22 p2242) 81 (nI (pN - 1))) vj (fT (fT (fT (fT vF 49 f49242) 50 f50242) 54 (upd (vF 54) ((nI fN)).toNatClampNeg (nI (la + 1)))) 53 (upd (vF 53) ((nI fN)).toNatClampNeg 1)) vG) := by rw [← WR_F 53 (by decide) _ rfl]; exact hD
        refine W.widen (k := 0) (n := 0) (by decide +kernel) (by decide +kernel) ?_
        have e9 : fT (fT (fT (fT vi 21 s2242) 22 p2242) 81 (nI (pN - 1))) 89 (nI fr) = fT (fT (fT vi 21 s2242) 22 p2242) 81 (nI (pN - 1)) := by funext q9; by_cases h9_21 : q9 = 21; (subst h9_21; exact ((fT_ne _ _ (Nat.ne_of_beq_eq_false rfl)).trans ((fT_ne _ _ (Nat.ne_of_beq_eq_false rfl)).trans ((fT_ne _ _ (Nat.ne_of_beq_eq_false rfl)).trans (fT_eq _ _ _)))).trans (Eq.trans (by first | rfl | assumption | (symm; assumption) | (subst_vars; rfl)) ((fT_ne _ _ (Nat.ne_of_beq_eq_false rfl)).trans ((fT_ne _ _ (Nat.ne_of_beq_eq_false rfl)).trans (fT_eq _ _ _))).symm)); by_cases h9_22 : q9 = 22; (subst h9_22; exact ((fT_ne _ _ (Nat.ne_of_beq_eq_false rfl)).trans ((fT_ne _ _ (Nat.ne_of_beq_eq_false rfl)).trans (fT_eq _ _ _))).trans (Eq.trans (by first | rfl | assumption | (symm; assumption) | (subst_vars; rfl)) ((fT_ne _ _ (Nat.ne_of_beq_eq_false rfl)).trans (fT_eq _ _ _)).symm)); by_cases h9_81 : q9 = 81; (subst h9_81; exact ((fT_ne _ _ (Nat.ne_of_beq_eq_false rfl)).trans (fT_eq _ _ _)).trans (Eq.trans (by first | rfl | assumption | (symm; assumption) | (subst_vars; rfl)) (fT_eq _ _ _).symm)); by_cases h9_89 : q9 = 89; (subst h9_89; exact (fT_eq _ _ _).trans (Eq.trans (by first | rfl | assumption | (symm; assumption) | (subst_vars; rfl)) ((fT_ne _ _ (Nat.ne_of_beq_eq_false rfl)).trans ((fT_ne _ _ (Nat.ne_of_beq_eq_false rfl)).trans (fT_ne _ _ (Nat.ne_of_beq_eq_false rfl)))).symm)); exact ((fT_ne _ _ h9_89).trans ((fT_ne _ _ h9_81).trans ((fT_ne _ _ h9_22).trans (fT_ne _ _ h9_21)))).trans ((fT_ne _ _ h9_81).trans ((fT_ne _ _ h9_22).trans (fT_ne _ _ h9_21))).symm
        have hP : va_P (dC, dI) vwCl (WR a k h0 (fT (fT (fT (fT vi 21 s2242) 22 p2242) 81 (nI (pN - 1))) 89 (nI fr)) vj (fT (fT (fT (fT vF 49 f49242) 50 f50242) 54 (upd (vF 54) ((nI fN)).toNatClampNeg (nI (la + 1)))) 53 (upd (vF 53) ((nI fN)).toNatClampNeg 1)) vG) H := by rw [e9]; exact hP
        have hD : va_D A (WR a k h0 (fT (fT (fT (fT vi 21 s2242) 22 p2242) 81 (nI (pN - 1))) 89 (nI fr)) vj (fT (fT (fT (fT vF 49 f49242) 50 f50242) 54 (upd (vF 54) ((nI fN)).toNatClampNeg (nI (la + 1)))) 53 (upd (vF 53) ((nI fN)).toNatClampNeg 1)) vG) := by rw [e9]; exact hD
        clear e9
        have e9 : fT (fT (fT (fT (fT (fT vF 49 f49242) 50 f50242) 54 (upd (vF 54) ((nI fN)).toNatClampNeg (nI (la + 1)))) 53 (upd (vF 53) ((nI fN)).toNatClampNeg 1)) 51 (vF 51)) 52 (vF 52) = fT (fT (fT (fT vF 49 f49242) 50 f50242) 54 (upd (vF 54) ((nI fN)).toNatClampNeg (nI (la + 1)))) 53 (upd (vF 53) ((nI fN)).toNatClampNeg 1) := (fT_id _ _ ((fT_ne _ _ (Nat.ne_of_beq_eq_false rfl)).trans ((fT_ne _ _ (Nat.ne_of_beq_eq_false rfl)).trans ((fT_ne _ _ (Nat.ne_of_beq_eq_false rfl)).trans ((fT_ne _ _ (Nat.ne_of_beq_eq_false rfl)).trans (fT_ne _ _ (Nat.ne_of_beq_eq_false rfl))))))).trans (fT_id _ _ ((fT_ne _ _ (Nat.ne_of_beq_eq_false rfl)).trans ((fT_ne _ _ (Nat.ne_of_beq_eq_false rfl)).trans ((fT_ne _ _ (Nat.ne_of_beq_eq_false rfl)).trans (fT_ne _ _ (Nat.ne_of_beq_eq_false rfl))))))
        have hP : va_P (dC, dI) vwCl (WR a k h0 (fT (fT (fT (fT vi 21 s2242) 22 p2242) 81 (nI (pN - 1))) 89 (nI fr)) vj (fT (fT (fT (fT (fT (fT vF 49 f49242) 50 f50242) 54 (upd (vF 54) ((nI fN)).toNatClampNeg (nI (la + 1)))) 53 (upd (vF 53) ((nI fN)).toNatClampNeg 1)) 51 (vF 51)) 52 (vF 52)) vG) H := by rw [e9]; exact hP
        have hD : va_D A (WR a k h0 (fT (fT (fT (fT vi 21 s2242) 22 p2242) 81 (nI (pN - 1))) 89 (nI fr)) vj (fT (fT (fT (fT (fT (fT vF 49 f49242) 50 f50242) 54 (upd (vF 54) ((nI fN)).toNatClampNeg (nI (la + 1)))) 53 (upd (vF 53) ((nI fN)).toNatClampNeg 1)) 51 (vF 51)) 52 (vF 52)) vG) := by rw [e9]; exact hD
        clear e9
        exact W.vret hx hb hr (fun t9_ ht hW => ⟨⟨(f49242, f50242, (vF 51), (vF 52), (upd (vF 53) ((nI fN)).toNatClampNeg 1), (upd (vF 54) ((nI fN)).toNatClampNeg (nI (la + 1))), fr, (pN - 1), s2242, p2242), rfl, by (try dsimp only); exact ⟨fun v9 h9 => f242_0 v9 (by omega) (hRw v9 (by omega)), hEn, by (rcases f242_3 with h9 | h9); (rw [h9]; exact hst0); omega, f242_3, by (obtain rfl : kN = 9 := hk9); (obtain rfl : sN = 3 := by omega); (have hlm : la < mbO nF nN := by omega); (obtain ⟨W9, h1, h2⟩ := hTo.s3 hSW.1); exact StpO.stay' 1 (la + 1) ((mbO nF nN - (la + 1)) * W9 + 1) rfl hfN hfr1 (fun q hq => by rw [upd_at (by omega), if_neg (by omega)]) (fun _ => by rw [upd_at (by omega), if_pos rfl]) (TopO.next (by omega) hlm h1 (Nat.le_refl _)) (by omega)⟩, by rw [ht]; exact hP, hD⟩, hS.F ht⟩) hS.2.2 dX12_workSum_272
      · have t_157 : ((sN : Nat) : Int) = 2 := toI_nne c_157 (nI_toInt (by omega)) (by decide)
        refine lv_aload_n hx hb dX12_workSum_160 rfl (lv_at hl 1 rfl) ?_
        refine va_get (D := (dC, dI)) (ci := 12) (v := .ref (a 53)) (C := RX12) (T := TX12) (N := 163) (fs := fM (vS a vi vj)) hx hb hts iwsRX12_workSum_in12 hown hK hP 0 rfl rfl 86 (by decide) (hts (.fieldLink RX12 182 "OptimaWorksModel" "stage" "[I") (by decide +kernel)) (fun _ h9 => h9) rfl dX12_workSum_161 ?_
        refine lv_iload_n hx hb dX12_workSum_164 rfl (lv_at hl 2 rfl) ?_
        refine lv_aload_n hx hb dX12_workSum_165 rfl (lv_at hl 1 rfl) ?_
        refine va_get (D := (dC, dI)) (ci := 12) (v := .int (vi 84)) (C := RX12) (T := TX12) (N := 163) (fs := fM (vS a vi vj)) hx hb hts iwsRX12_workSum_in12 hown hK hP 0 rfl rfl 84 (by decide) (hts (.fieldLink RX12 674 "OptimaWorksModel" "truth" "Z") (by decide +kernel)) (fun _ h9 => h9) rfl dX12_workSum_166 ?_
        refine lv_if_eq (tgt := 176) hx hb dX12_workSum_169 (by decide) (fun c_169 => ?_) (fun c_169 => ?_)
        · have t_169 : ((vi 84)).toInt = 0 := toI_eq c_169 rfl (by decide)
          refine lv_iconst (v := 1) hx hb dX12_workSum_176 (by decide) ?_
          refine va_iast (cA := k 53) (n := 4300) (f := (vF 53)) hx hb hK hP hD hS 54 53 (WR_get 53 (by decide)) (TR_get 53 (by decide)) (vp_in_nI (show fN < 4300 by omega) (by omega)) dX12_workSum_177 (fun H locs hP hD hS => ?_)
          have hP : va_P (dC, dI) vwCl (WR a k h0 vi vj (fT vF 53 (upd (vF 53) ((nI fN)).toNatClampNeg 1)) vG) H := by rw [← WR_F 53 (by decide) _ rfl]; exact hP
          have hD : va_D A (WR a k h0 vi vj (fT vF 53 (upd (vF 53) ((nI fN)).toNatClampNeg 1)) vG) := by rw [← WR_F 53 (by decide) _ rfl]; exact hD
          refine lv_aload_n hx hb dX12_workSum_178 rfl (lv_at hl 1 rfl) ?_
          refine lv_iload_n hx hb dX12_workSum_179 rfl (lv_at hl 0 rfl) ?_
          refine lv_aload_n hx hb dX12_workSum_180 rfl (lv_at hl 1 rfl) ?_
          refine va_get (D := (dC, dI)) (ci := 12) (v := .ref (a 54)) (C := RX12) (T := TX12) (N := 163) (fs := fM (vS a vi vj)) hx hb hts iwsRX12_workSum_in12 hown hK hP 0 rfl rfl 87 (by decide) (hts (.fieldLink RX12 185 "OptimaWorksModel" "loopA" "[I") (by decide +kernel)) (fun _ h9 => h9) rfl dX12_workSum_181 ?_
          refine lv_iload_n hx hb dX12_workSum_184 rfl (lv_at hl 2 rfl) ?_
          refine va_iald (cA := k 54) (n := 4300) (f := (vF 54)) hx hb hK hP 55 54 (WR_get 54 (by decide)) (TR_get 54 (by decide)) (vp_in_nI (show fN < 4300 by omega) (by omega)) dX12_workSum_185 ?_
          refine lv_topi (fun y19 hy19 => ?_)
          obtain rfl : ((vF 54) fN) = y19 := (hy19.trans (by rw [nI_clamp (by omega)])).symm
          refine lv_topi (fun y20 hy20 => ?_)
          obtain rfl : (nI la) = y20 := (hy20.trans (hla (by omega))).symm
          have hFc := allFree hD hS hA
          refine va_callv (va_runV (As := [.int (nI bN), .int (nI la)]) (rest := []) ⟨hx, hb, hml, hown, hts⟩ (r_X12_bind l dC dI a k h0 vi vj (fT vF 53 (upd (vF 53) ((nI fN)).toNatClampNeg 1)) vG bN la se (by first | assumption | decide | omega | rfl) (by first | assumption | decide | omega | rfl) (by first | assumption | decide | omega | rfl) (by first | assumption | decide | omega | rfl) (by first | assumption | decide | omega | rfl) (by first | assumption | decide | omega | rfl) H.size) (cwV 2 hts gwsRX12_workSum_1 rfl rfl rfl hd_yX12_bind_RX12 (by decide +kernel)) (fz_pre (va_recv hK hP (ci := 12) (q0 := 0) rfl rfl) hP hK hD) rfl rfl hl.1 rfl (lv_room (Nat.le_of_ble_eq_true rfl)) dX12_workSum_186 (by decide +kernel)) hS (fun q _ h => hFc q h) hFc (fun u t9_ H locs ht hvm hw9 hB9 hz1 hk1 hS => ?_)
          obtain ⟨g51186, hwit186⟩ : ∃ w9, w9 = u := ⟨u, rfl⟩
          subst hwit186
          have hP : va_P (dC, dI) vwCl (WR a k h0 vi vj (fT (fT vF 53 (upd (vF 53) ((nI fN)).toNatClampNeg 1)) 51 g51186) vG) H := fz_P ht hB9.1
          have hD : va_D A (WR a k h0 vi vj (fT (fT vF 53 (upd (vF 53) ((nI fN)).toNatClampNeg 1)) 51 g51186) vG) := hB9.2.weaken (fun _ q _ h => hFc q.1 h)
          have f186_0 := hw9
          try dsimp only at f186_0
          refine lv_aload_n hx hb dX12_workSum_189 rfl (lv_at hl 1 rfl) ?_
          refine va_get (D := (dC, dI)) (ci := 12) (v := .int (vi 84)) (C := RX12) (T := TX12) (N := 163) (fs := fM (vS a vi vj)) hx hb hts iwsRX12_workSum_in12 hown hK hP 0 rfl rfl 84 (by decide) (hts (.fieldLink RX12 674 "OptimaWorksModel" "truth" "Z") (by decide +kernel)) (fun _ h9 => h9) rfl dX12_workSum_190 ?_
          refine lv_if_eq (tgt := 209) hx hb dX12_workSum_193 (by decide) (fun c_193 => ?_) (fun c9 => False.elim (by have t9 : ¬ ((vi 84)).toInt = 0 := toI_neq c9 rfl (by decide); omega))
          have t_193 : ((vi 84)).toInt = 0 := toI_eq c_193 rfl (by decide)
          refine lv_aload_n hx hb dX12_workSum_209 rfl (lv_at hl 1 rfl) ?_
          refine va_get (D := (dC, dI)) (ci := 12) (v := .ref (a 54)) (C := RX12) (T := TX12) (N := 163) (fs := fM (vS a vi vj)) hx hb hts iwsRX12_workSum_in12 hown hK hP 0 rfl rfl 87 (by decide) (hts (.fieldLink RX12 185 "OptimaWorksModel" "loopA" "[I") (by decide +kernel)) (fun _ h9 => h9) rfl dX12_workSum_210 ?_
          refine lv_iload_n hx hb dX12_workSum_213 rfl (lv_at hl 2 rfl) ?_
          refine lv_dup2_11 hx hb dX12_workSum_214 rfl rfl ?_
          refine va_iald (cA := k 54) (n := 4300) (f := (vF 54)) hx hb hK hP 55 54 (WR_get 54 (by decide)) (TR_get 54 (by decide)) (vp_in_nI (show fN < 4300 by omega) (by omega)) dX12_workSum_215 ?_
          refine lv_topi (fun y21 hy21 => ?_)
          obtain rfl : ((vF 54) fN) = y21 := (hy21.trans (by rw [nI_clamp (by omega)])).symm
          refine lv_topi (fun y22 hy22 => ?_)
          obtain rfl : (nI la) = y22 := (hy22.trans (hla (by omega))).symm
          refine lv_iconst (v := 1) hx hb dX12_workSum_216 (by decide) ?_
          refine lv_iadd hx hb dX12_workSum_217 ?_
          refine lv_topi (fun y23 hy23 => ?_)
          obtain rfl : (nI (la + 1)) = y23 := (hy23.trans (nI_add la 1)).symm
          refine va_iast (cA := k 54) (n := 4300) (f := (vF 54)) hx hb hK hP hD hS 55 54 (WR_get 54 (by decide)) (TR_get 54 (by decide)) (vp_in_nI (show fN < 4300 by omega) (by omega)) dX12_workSum_218 (fun H locs hP hD hS => ?_)
          have hP : va_P (dC, dI) vwCl (WR a k h0 vi vj (fT (fT (fT vF 53 (upd (vF 53) ((nI fN)).toNatClampNeg 1)) 51 g51186) 54 (upd (vF 54) ((nI fN)).toNatClampNeg (nI (la + 1)))) vG) H := by rw [← WR_F 54 (by decide) _ rfl]; exact hP
          have hD : va_D A (WR a k h0 vi vj (fT (fT (fT vF 53 (upd (vF 53) ((nI fN)).toNatClampNeg 1)) 51 g51186) 54 (upd (vF 54) ((nI fN)).toNatClampNeg (nI (la + 1)))) vG) := by rw [← WR_F 54 (by decide) _ rfl]; exact hD
          refine lv_goto (tgt := 272) hx hb dX12_workSum_219 (by decide) ?_
          refine W.widen (k := 0) (n := 0) (by decide +kernel) (by decide +kernel) ?_
          have e9 : fT (fT (fT (fT vi 21 (vi 21)) 22 (vi 22)) 81 (nI pN)) 89 (nI fr) = vi := by funext q9; by_cases h9_21 : q9 = 21; (subst h9_21; exact ((fT_ne _ _ (Nat.ne_of_beq_eq_false rfl)).trans ((fT_ne _ _ (Nat.ne_of_beq_eq_false rfl)).trans ((fT_ne _ _ (Nat.ne_of_beq_eq_false rfl)).trans (fT_eq _ _ _)))).trans (Eq.trans (by first | rfl | assumption | (symm; assumption) | (subst_vars; rfl)) (Eq.refl _).symm)); by_cases h9_22 : q9 = 22; (subst h9_22; exact ((fT_ne _ _ (Nat.ne_of_beq_eq_false rfl)).trans ((fT_ne _ _ (Nat.ne_of_beq_eq_false rfl)).trans (fT_eq _ _ _))).trans (Eq.trans (by first | rfl | assumption | (symm; assumption) | (subst_vars; rfl)) (Eq.refl _).symm)); by_cases h9_81 : q9 = 81; (subst h9_81; exact ((fT_ne _ _ (Nat.ne_of_beq_eq_false rfl)).trans (fT_eq _ _ _)).trans (Eq.trans (by first | rfl | assumption | (symm; assumption) | (subst_vars; rfl)) (Eq.refl _).symm)); by_cases h9_89 : q9 = 89; (subst h9_89; exact (fT_eq _ _ _).trans (Eq.trans (by first | rfl | assumption | (symm; assumption) | (subst_vars; rfl)) (Eq.refl _).symm)); exact ((fT_ne _ _ h9_89).trans ((fT_ne _ _ h9_81).trans ((fT_ne _ _ h9_22).trans (fT_ne _ _ h9_21)))).trans (Eq.refl _).symm
          have hP : va_P (dC, dI) vwCl (WR a k h0 (fT (fT (fT (fT vi 21 (vi 21)) 22 (vi 22)) 81 (nI pN)) 89 (nI fr)) vj (fT (fT (fT vF 53 (upd (vF 53) ((nI fN)).toNatClampNeg 1)) 51 g51186) 54 (upd (vF 54) ((nI fN)).toNatClampNeg (nI (la + 1)))) vG) H := by rw [e9]; exact hP
          have hD : va_D A (WR a k h0 (fT (fT (fT (fT vi 21 (vi 21)) 22 (vi 22)) 81 (nI pN)) 89 (nI fr)) vj (fT (fT (fT vF 53 (upd (vF 53) ((nI fN)).toNatClampNeg 1)) 51 g51186) 54 (upd (vF 54) ((nI fN)).toNatClampNeg (nI (la + 1)))) vG) := by rw [e9]; exact hD
          clear e9
          have e9 : fT (fT (fT (fT (fT (fT vF 49 (vF 49)) 50 (vF 50)) 54 (upd (vF 54) ((nI fN)).toNatClampNeg (nI (la + 1)))) 53 (upd (vF 53) ((nI fN)).toNatClampNeg 1)) 51 g51186) 52 (vF 52) = fT (fT (fT vF 53 (upd (vF 53) ((nI fN)).toNatClampNeg 1)) 51 g51186) 54 (upd (vF 54) ((nI fN)).toNatClampNeg (nI (la + 1))) := by funext q9; by_cases h9_49 : q9 = 49; (subst h9_49; exact ((fT_ne _ _ (Nat.ne_of_beq_eq_false rfl)).trans ((fT_ne _ _ (Nat.ne_of_beq_eq_false rfl)).trans ((fT_ne _ _ (Nat.ne_of_beq_eq_false rfl)).trans ((fT_ne _ _ (Nat.ne_of_beq_eq_false rfl)).trans ((fT_ne _ _ (Nat.ne_of_beq_eq_false rfl)).trans (fT_eq _ _ _)))))).trans (Eq.trans (by first | rfl | assumption | (symm; assumption) | (subst_vars; rfl)) ((fT_ne _ _ (Nat.ne_of_beq_eq_false rfl)).trans ((fT_ne _ _ (Nat.ne_of_beq_eq_false rfl)).trans (fT_ne _ _ (Nat.ne_of_beq_eq_false rfl)))).symm)); by_cases h9_50 : q9 = 50; (subst h9_50; exact ((fT_ne _ _ (Nat.ne_of_beq_eq_false rfl)).trans ((fT_ne _ _ (Nat.ne_of_beq_eq_false rfl)).trans ((fT_ne _ _ (Nat.ne_of_beq_eq_false rfl)).trans ((fT_ne _ _ (Nat.ne_of_beq_eq_false rfl)).trans (fT_eq _ _ _))))).trans (Eq.trans (by first | rfl | assumption | (symm; assumption) | (subst_vars; rfl)) ((fT_ne _ _ (Nat.ne_of_beq_eq_false rfl)).trans ((fT_ne _ _ (Nat.ne_of_beq_eq_false rfl)).trans (fT_ne _ _ (Nat.ne_of_beq_eq_false rfl)))).symm)); by_cases h9_54 : q9 = 54; (subst h9_54; exact ((fT_ne _ _ (Nat.ne_of_beq_eq_false rfl)).trans ((fT_ne _ _ (Nat.ne_of_beq_eq_false rfl)).trans ((fT_ne _ _ (Nat.ne_of_beq_eq_false rfl)).trans (fT_eq _ _ _)))).trans (Eq.trans (by first | rfl | assumption | (symm; assumption) | (subst_vars; rfl)) (fT_eq _ _ _).symm)); by_cases h9_53 : q9 = 53; (subst h9_53; exact ((fT_ne _ _ (Nat.ne_of_beq_eq_false rfl)).trans ((fT_ne _ _ (Nat.ne_of_beq_eq_false rfl)).trans (fT_eq _ _ _))).trans (Eq.trans (by first | rfl | assumption | (symm; assumption) | (subst_vars; rfl)) ((fT_ne _ _ (Nat.ne_of_beq_eq_false rfl)).trans ((fT_ne _ _ (Nat.ne_of_beq_eq_false rfl)).trans (fT_eq _ _ _))).symm)); by_cases h9_51 : q9 = 51; (subst h9_51; exact ((fT_ne _ _ (Nat.ne_of_beq_eq_false rfl)).trans (fT_eq _ _ _)).trans (Eq.trans (by first | rfl | assumption | (symm; assumption) | (subst_vars; rfl)) ((fT_ne _ _ (Nat.ne_of_beq_eq_false rfl)).trans (fT_eq _ _ _)).symm)); by_cases h9_52 : q9 = 52; (subst h9_52; exact (fT_eq _ _ _).trans (Eq.trans (by first | rfl | assumption | (symm; assumption) | (subst_vars; rfl)) ((fT_ne _ _ (Nat.ne_of_beq_eq_false rfl)).trans ((fT_ne _ _ (Nat.ne_of_beq_eq_false rfl)).trans (fT_ne _ _ (Nat.ne_of_beq_eq_false rfl)))).symm)); exact ((fT_ne _ _ h9_52).trans ((fT_ne _ _ h9_51).trans ((fT_ne _ _ h9_53).trans ((fT_ne _ _ h9_54).trans ((fT_ne _ _ h9_50).trans (fT_ne _ _ h9_49)))))).trans ((fT_ne _ _ h9_54).trans ((fT_ne _ _ h9_51).trans (fT_ne _ _ h9_53))).symm
          have hP : va_P (dC, dI) vwCl (WR a k h0 (fT (fT (fT (fT vi 21 (vi 21)) 22 (vi 22)) 81 (nI pN)) 89 (nI fr)) vj (fT (fT (fT (fT (fT (fT vF 49 (vF 49)) 50 (vF 50)) 54 (upd (vF 54) ((nI fN)).toNatClampNeg (nI (la + 1)))) 53 (upd (vF 53) ((nI fN)).toNatClampNeg 1)) 51 g51186) 52 (vF 52)) vG) H := by rw [e9]; exact hP
          have hD : va_D A (WR a k h0 (fT (fT (fT (fT vi 21 (vi 21)) 22 (vi 22)) 81 (nI pN)) 89 (nI fr)) vj (fT (fT (fT (fT (fT (fT vF 49 (vF 49)) 50 (vF 50)) 54 (upd (vF 54) ((nI fN)).toNatClampNeg (nI (la + 1)))) 53 (upd (vF 53) ((nI fN)).toNatClampNeg 1)) 51 g51186) 52 (vF 52)) vG) := by rw [e9]; exact hD
          clear e9
          exact W.vret hx hb hr (fun t9_ ht hW => ⟨⟨((vF 49), (vF 50), g51186, (vF 52), (upd (vF 53) ((nI fN)).toNatClampNeg 1), (upd (vF 54) ((nI fN)).toNatClampNeg (nI (la + 1))), fr, pN, (vi 21), (vi 22)), rfl, by (try dsimp only); exact ⟨fun v9 h9 => hRw v9 h9, f186_0, hst0, Or.inl rfl, by (obtain rfl : kN = 9 := hk9); (obtain rfl : sN = 2 := by omega); (have hlm : la < mbO nF nN := by omega); (obtain ⟨W9, h1, h2⟩ := hTo.s2 hSW.1); exact StpO.stay' 1 (la + 1) ((mbO nF nN - (la + 1)) * W9 + 1) rfl hfN hfr1 (fun q hq => by rw [upd_at (by omega), if_neg (by omega)]) (fun _ => by rw [upd_at (by omega), if_pos rfl]) (TopO.next (by omega) hlm h1 (Nat.le_refl _)) (by omega)⟩, by rw [ht]; exact hP, hD⟩, hS.F ht⟩) hS.2.2 dX12_workSum_272
        · have t_169 : ¬ ((vi 84)).toInt = 0 := toI_neq c_169 rfl (by decide)
          refine lv_iconst (v := 3) hx hb dX12_workSum_172 (by decide) ?_
          refine lv_goto (tgt := 177) hx hb dX12_workSum_173 (by decide) ?_
          refine va_iast (cA := k 53) (n := 4300) (f := (vF 53)) hx hb hK hP hD hS 54 53 (WR_get 53 (by decide)) (TR_get 53 (by decide)) (vp_in_nI (show fN < 4300 by omega) (by omega)) dX12_workSum_177 (fun H locs hP hD hS => ?_)
          have hP : va_P (dC, dI) vwCl (WR a k h0 vi vj (fT vF 53 (upd (vF 53) ((nI fN)).toNatClampNeg 3)) vG) H := by rw [← WR_F 53 (by decide) _ rfl]; exact hP
          have hD : va_D A (WR a k h0 vi vj (fT vF 53 (upd (vF 53) ((nI fN)).toNatClampNeg 3)) vG) := by rw [← WR_F 53 (by decide) _ rfl]; exact hD
          refine lv_aload_n hx hb dX12_workSum_178 rfl (lv_at hl 1 rfl) ?_
          refine lv_iload_n hx hb dX12_workSum_179 rfl (lv_at hl 0 rfl) ?_
          refine lv_aload_n hx hb dX12_workSum_180 rfl (lv_at hl 1 rfl) ?_
          refine va_get (D := (dC, dI)) (ci := 12) (v := .ref (a 54)) (C := RX12) (T := TX12) (N := 163) (fs := fM (vS a vi vj)) hx hb hts iwsRX12_workSum_in12 hown hK hP 0 rfl rfl 87 (by decide) (hts (.fieldLink RX12 185 "OptimaWorksModel" "loopA" "[I") (by decide +kernel)) (fun _ h9 => h9) rfl dX12_workSum_181 ?_
          refine lv_iload_n hx hb dX12_workSum_184 rfl (lv_at hl 2 rfl) ?_
          refine va_iald (cA := k 54) (n := 4300) (f := (vF 54)) hx hb hK hP 55 54 (WR_get 54 (by decide)) (TR_get 54 (by decide)) (vp_in_nI (show fN < 4300 by omega) (by omega)) dX12_workSum_185 ?_
          refine lv_topi (fun y24 hy24 => ?_)
          obtain rfl : ((vF 54) fN) = y24 := (hy24.trans (by rw [nI_clamp (by omega)])).symm
          refine lv_topi (fun y25 hy25 => ?_)
          obtain rfl : (nI la) = y25 := (hy25.trans (hla (by omega))).symm
          have hFc := allFree hD hS hA
          refine va_callv (va_runV (As := [.int (nI bN), .int (nI la)]) (rest := []) ⟨hx, hb, hml, hown, hts⟩ (r_X12_bind l dC dI a k h0 vi vj (fT vF 53 (upd (vF 53) ((nI fN)).toNatClampNeg 3)) vG bN la se (by first | assumption | decide | omega | rfl) (by first | assumption | decide | omega | rfl) (by first | assumption | decide | omega | rfl) (by first | assumption | decide | omega | rfl) (by first | assumption | decide | omega | rfl) (by first | assumption | decide | omega | rfl) H.size) (cwV 2 hts gwsRX12_workSum_1 rfl rfl rfl hd_yX12_bind_RX12 (by decide +kernel)) (fz_pre (va_recv hK hP (ci := 12) (q0 := 0) rfl rfl) hP hK hD) rfl rfl hl.1 rfl (lv_room (Nat.le_of_ble_eq_true rfl)) dX12_workSum_186 (by decide +kernel)) hS (fun q _ h => hFc q h) hFc (fun u t9_ H locs ht hvm hw9 hB9 hz1 hk1 hS => ?_)
          obtain ⟨g51186_1, hwit186_1⟩ : ∃ w9, w9 = u := ⟨u, rfl⟩
          subst hwit186_1
          have hP : va_P (dC, dI) vwCl (WR a k h0 vi vj (fT (fT vF 53 (upd (vF 53) ((nI fN)).toNatClampNeg 3)) 51 g51186_1) vG) H := fz_P ht hB9.1
          have hD : va_D A (WR a k h0 vi vj (fT (fT vF 53 (upd (vF 53) ((nI fN)).toNatClampNeg 3)) 51 g51186_1) vG) := hB9.2.weaken (fun _ q _ h => hFc q.1 h)
          have f186_1_0 := hw9
          try dsimp only at f186_1_0
          refine lv_aload_n hx hb dX12_workSum_189 rfl (lv_at hl 1 rfl) ?_
          refine va_get (D := (dC, dI)) (ci := 12) (v := .int (vi 84)) (C := RX12) (T := TX12) (N := 163) (fs := fM (vS a vi vj)) hx hb hts iwsRX12_workSum_in12 hown hK hP 0 rfl rfl 84 (by decide) (hts (.fieldLink RX12 674 "OptimaWorksModel" "truth" "Z") (by decide +kernel)) (fun _ h9 => h9) rfl dX12_workSum_190 ?_
          refine lv_if_eq (tgt := 209) hx hb dX12_workSum_193 (by decide) (fun c9 => False.elim (by have t9 : ((vi 84)).toInt = 0 := toI_eq c9 rfl (by decide); omega)) (fun c_193 => ?_)
          have t_193 : ¬ ((vi 84)).toInt = 0 := toI_neq c_193 rfl (by decide)
          refine lv_aload_n hx hb dX12_workSum_196 rfl (lv_at hl 1 rfl) ?_
          refine lv_aload_n hx hb dX12_workSum_197 rfl (lv_at hl 1 rfl) ?_
          refine va_get (D := (dC, dI)) (ci := 12) (v := .ref (a 32)) (C := RX12) (T := TX12) (N := 163) (fs := fM (vS a vi vj)) hx hb hts iwsRX12_workSum_in12 hown hK hP 0 rfl rfl 56 (by decide) (hts (.fieldLink RX12 119 "OptimaWorksModel" "partC" "[I") (by decide +kernel)) (fun _ h9 => h9) rfl dX12_workSum_198 ?_
          refine lv_iload_n hx hb dX12_workSum_201 rfl (lv_at hl 3 rfl) ?_
          refine va_iald (cA := k 32) (n := 4200) (f := (vF 32)) hx hb hK hP 33 32 (WR_get 32 (by decide)) (TR_get 32 (by decide)) (vp_in_nI (show nN < 4200 by omega) (by omega)) dX12_workSum_202 ?_
          refine lv_topi (fun y26 hy26 => ?_)
          obtain rfl : ((vF 32) nN) = y26 := (hy26.trans (by rw [nI_clamp (by omega)])).symm
          refine lv_topi (fun y27 hy27 => ?_)
          obtain rfl : (nI cN) = y27 := (hy27.trans (hcN)).symm
          have hFc := allFree hD hS hA
          refine va_callv (va_runV (As := [.int (nI cN)]) (rest := []) ⟨hx, hb, hml, hown, hts⟩ (r_X12_call l dC dI a k h0 vi vj (fT (fT vF 53 (upd (vF 53) ((nI fN)).toNatClampNeg 3)) 51 g51186_1) vG (nI cN) fr hfr9 (by first | assumption | decide | omega | rfl) H.size) (cwV 1 hts gwsRX12_workSum_2 rfl rfl rfl hd_yX12_call_RX12 (by decide +kernel)) (fz_pre (va_recv hK hP (ci := 12) (q0 := 0) rfl rfl) hP hK hD) rfl rfl hl.1 rfl (lv_room (Nat.le_of_ble_eq_true rfl)) dX12_workSum_203 (by decide +kernel)) hS (fun q _ h => hFc q h) hFc (fun u t9_ H locs ht hvm hw9 hB9 hz1 hk1 hS => ?_)
          have hP : va_P (dC, dI) vwCl (WR a k h0 (fT vi 89 (nI (fr + 1))) vj (fT (fT (fT (fT vF 53 (upd (vF 53) ((nI fN)).toNatClampNeg 3)) 51 g51186_1) 52 (upd (vF 52) (nI fr).toNatClampNeg (nI cN))) 53 (upd (upd (vF 53) ((nI fN)).toNatClampNeg 3) (nI fr).toNatClampNeg 0)) vG) H := fz_P ht hB9.1
          have hD : va_D A (WR a k h0 (fT vi 89 (nI (fr + 1))) vj (fT (fT (fT (fT vF 53 (upd (vF 53) ((nI fN)).toNatClampNeg 3)) 51 g51186_1) 52 (upd (vF 52) (nI fr).toNatClampNeg (nI cN))) 53 (upd (upd (vF 53) ((nI fN)).toNatClampNeg 3) (nI fr).toNatClampNeg 0)) vG) := hB9.2.weaken (fun _ q _ h => hFc q.1 h)
          have e9 : fT (fT (fT vF 53 (upd (upd (vF 53) ((nI fN)).toNatClampNeg 3) (nI fr).toNatClampNeg 0)) 51 g51186_1) 52 (upd (vF 52) (nI fr).toNatClampNeg (nI cN)) = fT (fT (fT (fT vF 53 (upd (vF 53) ((nI fN)).toNatClampNeg 3)) 51 g51186_1) 52 (upd (vF 52) (nI fr).toNatClampNeg (nI cN))) 53 (upd (upd (vF 53) ((nI fN)).toNatClampNeg 3) (nI fr).toNatClampNeg 0) := ((fT_sw _ _ _ (Nat.ne_of_beq_eq_false rfl)).trans (congrArg (fun g9 => fT g9 52 (upd (vF 52) (nI fr).toNatClampNeg (nI cN))) ((fT_sw _ _ _ (Nat.ne_of_beq_eq_false rfl)).trans (congrArg (fun g9 => fT g9 51 g51186_1) (fT_sm _ _ _ _))))).symm
          rw [← e9] at hP hD
          clear e9
          have hP : va_P (dC, dI) vwCl (WR a k h0 (fT vi 89 (nI (fr + 1))) vj (fT (fT (fT vF 53 (upd (upd (vF 53) ((nI fN)).toNatClampNeg 3) (nI fr).toNatClampNeg 0)) 51 g51186_1) 52 (upd (vF 52) (nI fr).toNatClampNeg (nI cN))) vG) H := hP
          have hD : va_D A (WR a k h0 (fT vi 89 (nI (fr + 1))) vj (fT (fT (fT vF 53 (upd (upd (vF 53) ((nI fN)).toNatClampNeg 3) (nI fr).toNatClampNeg 0)) 51 g51186_1) 52 (upd (vF 52) (nI fr).toNatClampNeg (nI cN))) vG) := hD
          refine lv_goto (tgt := 272) hx hb dX12_workSum_206 (by decide) ?_
          refine W.widen (k := 0) (n := 0) (by decide +kernel) (by decide +kernel) ?_
          have e9 : fT (fT (fT (fT vi 21 (vi 21)) 22 (vi 22)) 81 (nI pN)) 89 (nI (fr + 1)) = fT vi 89 (nI (fr + 1)) := by funext q9; by_cases h9_21 : q9 = 21; (subst h9_21; exact ((fT_ne _ _ (Nat.ne_of_beq_eq_false rfl)).trans ((fT_ne _ _ (Nat.ne_of_beq_eq_false rfl)).trans ((fT_ne _ _ (Nat.ne_of_beq_eq_false rfl)).trans (fT_eq _ _ _)))).trans (Eq.trans (by first | rfl | assumption | (symm; assumption) | (subst_vars; rfl)) (fT_ne _ _ (Nat.ne_of_beq_eq_false rfl)).symm)); by_cases h9_22 : q9 = 22; (subst h9_22; exact ((fT_ne _ _ (Nat.ne_of_beq_eq_false rfl)).trans ((fT_ne _ _ (Nat.ne_of_beq_eq_false rfl)).trans (fT_eq _ _ _))).trans (Eq.trans (by first | rfl | assumption | (symm; assumption) | (subst_vars; rfl)) (fT_ne _ _ (Nat.ne_of_beq_eq_false rfl)).symm)); by_cases h9_81 : q9 = 81; (subst h9_81; exact ((fT_ne _ _ (Nat.ne_of_beq_eq_false rfl)).trans (fT_eq _ _ _)).trans (Eq.trans (by first | rfl | assumption | (symm; assumption) | (subst_vars; rfl)) (fT_ne _ _ (Nat.ne_of_beq_eq_false rfl)).symm)); by_cases h9_89 : q9 = 89; (subst h9_89; exact (fT_eq _ _ _).trans (Eq.trans (by first | rfl | assumption | (symm; assumption) | (subst_vars; rfl)) (fT_eq _ _ _).symm)); exact ((fT_ne _ _ h9_89).trans ((fT_ne _ _ h9_81).trans ((fT_ne _ _ h9_22).trans (fT_ne _ _ h9_21)))).trans (fT_ne _ _ h9_89).symm
          have hP : va_P (dC, dI) vwCl (WR a k h0 (fT (fT (fT (fT vi 21 (vi 21)) 22 (vi 22)) 81 (nI pN)) 89 (nI (fr + 1))) vj (fT (fT (fT vF 53 (upd (upd (vF 53) ((nI fN)).toNatClampNeg 3) (nI fr).toNatClampNeg 0)) 51 g51186_1) 52 (upd (vF 52) (nI fr).toNatClampNeg (nI cN))) vG) H := by rw [e9]; exact hP
          have hD : va_D A (WR a k h0 (fT (fT (fT (fT vi 21 (vi 21)) 22 (vi 22)) 81 (nI pN)) 89 (nI (fr + 1))) vj (fT (fT (fT vF 53 (upd (upd (vF 53) ((nI fN)).toNatClampNeg 3) (nI fr).toNatClampNeg 0)) 51 g51186_1) 52 (upd (vF 52) (nI fr).toNatClampNeg (nI cN))) vG) := by rw [e9]; exact hD
          clear e9
          have e9 : fT (fT (fT (fT (fT (fT vF 49 (vF 49)) 50 (vF 50)) 54 (vF 54)) 53 (upd (upd (vF 53) ((nI fN)).toNatClampNeg 3) (nI fr).toNatClampNeg 0)) 51 g51186_1) 52 (upd (vF 52) (nI fr).toNatClampNeg (nI cN)) = fT (fT (fT vF 53 (upd (upd (vF 53) ((nI fN)).toNatClampNeg 3) (nI fr).toNatClampNeg 0)) 51 g51186_1) 52 (upd (vF 52) (nI fr).toNatClampNeg (nI cN)) := by funext q9; by_cases h9_49 : q9 = 49; (subst h9_49; exact ((fT_ne _ _ (Nat.ne_of_beq_eq_false rfl)).trans ((fT_ne _ _ (Nat.ne_of_beq_eq_false rfl)).trans ((fT_ne _ _ (Nat.ne_of_beq_eq_false rfl)).trans ((fT_ne _ _ (Nat.ne_of_beq_eq_false rfl)).trans ((fT_ne _ _ (Nat.ne_of_beq_eq_false rfl)).trans (fT_eq _ _ _)))))).trans (Eq.trans (by first | rfl | assumption | (symm; assumption) | (subst_vars; rfl)) ((fT_ne _ _ (Nat.ne_of_beq_eq_false rfl)).trans ((fT_ne _ _ (Nat.ne_of_beq_eq_false rfl)).trans (fT_ne _ _ (Nat.ne_of_beq_eq_false rfl)))).symm)); by_cases h9_50 : q9 = 50; (subst h9_50; exact ((fT_ne _ _ (Nat.ne_of_beq_eq_false rfl)).trans ((fT_ne _ _ (Nat.ne_of_beq_eq_false rfl)).trans ((fT_ne _ _ (Nat.ne_of_beq_eq_false rfl)).trans ((fT_ne _ _ (Nat.ne_of_beq_eq_false rfl)).trans (fT_eq _ _ _))))).trans (Eq.trans (by first | rfl | assumption | (symm; assumption) | (subst_vars; rfl)) ((fT_ne _ _ (Nat.ne_of_beq_eq_false rfl)).trans ((fT_ne _ _ (Nat.ne_of_beq_eq_false rfl)).trans (fT_ne _ _ (Nat.ne_of_beq_eq_false rfl)))).symm)); by_cases h9_54 : q9 = 54; (subst h9_54; exact ((fT_ne _ _ (Nat.ne_of_beq_eq_false rfl)).trans ((fT_ne _ _ (Nat.ne_of_beq_eq_false rfl)).trans ((fT_ne _ _ (Nat.ne_of_beq_eq_false rfl)).trans (fT_eq _ _ _)))).trans (Eq.trans (by first | rfl | assumption | (symm; assumption) | (subst_vars; rfl)) ((fT_ne _ _ (Nat.ne_of_beq_eq_false rfl)).trans ((fT_ne _ _ (Nat.ne_of_beq_eq_false rfl)).trans (fT_ne _ _ (Nat.ne_of_beq_eq_false rfl)))).symm)); by_cases h9_53 : q9 = 53; (subst h9_53; exact ((fT_ne _ _ (Nat.ne_of_beq_eq_false rfl)).trans ((fT_ne _ _ (Nat.ne_of_beq_eq_false rfl)).trans (fT_eq _ _ _))).trans (Eq.trans (by first | rfl | assumption | (symm; assumption) | (subst_vars; rfl)) ((fT_ne _ _ (Nat.ne_of_beq_eq_false rfl)).trans ((fT_ne _ _ (Nat.ne_of_beq_eq_false rfl)).trans (fT_eq _ _ _))).symm)); by_cases h9_51 : q9 = 51; (subst h9_51; exact ((fT_ne _ _ (Nat.ne_of_beq_eq_false rfl)).trans (fT_eq _ _ _)).trans (Eq.trans (by first | rfl | assumption | (symm; assumption) | (subst_vars; rfl)) ((fT_ne _ _ (Nat.ne_of_beq_eq_false rfl)).trans (fT_eq _ _ _)).symm)); by_cases h9_52 : q9 = 52; (subst h9_52; exact (fT_eq _ _ _).trans (Eq.trans (by first | rfl | assumption | (symm; assumption) | (subst_vars; rfl)) (fT_eq _ _ _).symm)); exact ((fT_ne _ _ h9_52).trans ((fT_ne _ _ h9_51).trans ((fT_ne _ _ h9_53).trans ((fT_ne _ _ h9_54).trans ((fT_ne _ _ h9_50).trans (fT_ne _ _ h9_49)))))).trans ((fT_ne _ _ h9_52).trans ((fT_ne _ _ h9_51).trans (fT_ne _ _ h9_53))).symm
          have hP : va_P (dC, dI) vwCl (WR a k h0 (fT (fT (fT (fT vi 21 (vi 21)) 22 (vi 22)) 81 (nI pN)) 89 (nI (fr + 1))) vj (fT (fT (fT (fT (fT (fT vF 49 (vF 49)) 50 (vF 50)) 54 (vF 54)) 53 (upd (upd (vF 53) ((nI fN)).toNatClampNeg 3) (nI fr).toNatClampNeg 0)) 51 g51186_1) 52 (upd (vF 52) (nI fr).toNatClampNeg (nI cN))) vG) H := by rw [e9]; exact hP
          have hD : va_D A (WR a k h0 (fT (fT (fT (fT vi 21 (vi 21)) 22 (vi 22)) 81 (nI pN)) 89 (nI (fr + 1))) vj (fT (fT (fT (fT (fT (fT vF 49 (vF 49)) 50 (vF 50)) 54 (vF 54)) 53 (upd (upd (vF 53) ((nI fN)).toNatClampNeg 3) (nI fr).toNatClampNeg 0)) 51 g51186_1) 52 (upd (vF 52) (nI fr).toNatClampNeg (nI cN))) vG) := by rw [e9]; exact hD
          clear e9
          exact W.vret hx hb hr (fun t9_ ht hW => ⟨⟨((vF 49), (vF 50), g51186_1, (upd (vF 52) (nI fr).toNatClampNeg (nI cN)), (upd (upd (vF 53) ((nI fN)).toNatClampNeg 3) (nI fr).toNatClampNeg 0), (vF 54), (fr + 1), pN, (vi 21), (vi 22)), rfl, by (try dsimp only); exact ⟨fun v9 h9 => hRw v9 h9, f186_1_0, hst0, Or.inl rfl, by (obtain rfl : kN = 9 := hk9); (obtain rfl : sN = 2 := by omega); (have hlm : la < mbO nF nN := by omega); (obtain ⟨W9, h1, h2⟩ := hTo.s2 hSW.1); (have h4 := hSW.1.2.2.2.1); exact StpO.push' cN 3 la ((mbO nF nN - (la + 1)) * W9 + 3) rfl rfl hfN hfr1 (fun _ _ => rfl) (fun _ => hla (by omega)) hSW.1.2.1 hSW.1.2.2.1 (by omega) (WtO.s3 (by omega) hSW.1.2.2.2.2 hlm h1 (Nat.le_refl _)) (by omega)⟩, by rw [ht]; exact hP, hD⟩, hS.F ht⟩) hS.2.2 dX12_workSum_272
    · have t_58 : ((sN : Nat) : Int) = 1 := toI_nne c_58 (nI_toInt (by omega)) (by decide)
      refine lv_aload_n hx hb dX12_workSum_61 rfl (lv_at hl 1 rfl) ?_
      refine va_get (D := (dC, dI)) (ci := 12) (v := .ref (a 54)) (C := RX12) (T := TX12) (N := 163) (fs := fM (vS a vi vj)) hx hb hts iwsRX12_workSum_in12 hown hK hP 0 rfl rfl 87 (by decide) (hts (.fieldLink RX12 185 "OptimaWorksModel" "loopA" "[I") (by decide +kernel)) (fun _ h9 => h9) rfl dX12_workSum_62 ?_
      refine lv_iload_n hx hb dX12_workSum_65 rfl (lv_at hl 2 rfl) ?_
      refine va_iald (cA := k 54) (n := 4300) (f := (vF 54)) hx hb hK hP 55 54 (WR_get 54 (by decide)) (TR_get 54 (by decide)) (vp_in_nI (show fN < 4300 by omega) (by omega)) dX12_workSum_66 ?_
      refine lv_topi (fun y28 hy28 => ?_)
      obtain rfl : ((vF 54) fN) = y28 := (hy28.trans (by rw [nI_clamp (by omega)])).symm
      refine lv_topi (fun y29 hy29 => ?_)
      obtain rfl : (nI la) = y29 := (hy29.trans (hla (by omega))).symm
      refine lv_aload_n hx hb dX12_workSum_67 rfl (lv_at hl 1 rfl) ?_
      refine lv_iload_n hx hb dX12_workSum_68 rfl (lv_at hl 0 rfl) ?_
      have hFc := allFree hD hS hA
      refine va_calli (va_runV (As := [.int (nI bN)]) (rest := [.int (nI la)]) ⟨hx, hb, hml, hown, hts⟩ (r_X12_membersOfm l dC dI a k h0 vi vj vF vG bN (mbO nF nN) (by first | assumption | decide | omega | rfl) (by first | assumption | decide | omega | rfl) s.heap.size) (cwV 1 hts gwsRX12_workSum_3 rfl rfl rfl hd_yX12_membersOf_RX12 (by decide +kernel)) (fz_pre (va_recv hK hP (ci := 12) (q0 := 0) rfl rfl) hP hK hD) rfl rfl hl.1 rfl (lv_room (Nat.le_of_ble_eq_true rfl)) dX12_workSum_69 (by decide +kernel)) hS (fun q _ h => hFc q h) hFc (fun r69 u t9_ H locs ht hvm hw9 hB9 hz1 hk1 hS => ?_)
      have hP : va_P (dC, dI) vwCl (WR a k h0 vi vj vF vG) H := fz_P ht hB9.1
      have hD : va_D A (WR a k h0 vi vj vF vG) := hB9.2.weaken (fun _ q _ h => hFc q.1 h)
      obtain rfl := hw9
      refine lv_icmp_ne (tgt := 86) hx hb dX12_workSum_72 (by decide) (fun c_72 => ?_) (fun c_72 => ?_)
      · have t_72 : ((la : Nat) : Int) ≠ (((mbO nF nN) : Nat) : Int) := toI_ne c_72 (nI_toInt (by omega)) (nI_toInt (by omega))
        refine lv_aload_n hx hb dX12_workSum_86 rfl (lv_at hl 1 rfl) ?_
        refine lv_iload_n hx hb dX12_workSum_87 rfl (lv_at hl 0 rfl) ?_
        refine lv_aload_n hx hb dX12_workSum_88 rfl (lv_at hl 1 rfl) ?_
        refine va_get (D := (dC, dI)) (ci := 12) (v := .ref (a 54)) (C := RX12) (T := TX12) (N := 163) (fs := fM (vS a vi vj)) hx hb hts iwsRX12_workSum_in12 hown hK hP 0 rfl rfl 87 (by decide) (hts (.fieldLink RX12 185 "OptimaWorksModel" "loopA" "[I") (by decide +kernel)) (fun _ h9 => h9) rfl dX12_workSum_89 ?_
        refine lv_iload_n hx hb dX12_workSum_92 rfl (lv_at hl 2 rfl) ?_
        refine va_iald (cA := k 54) (n := 4300) (f := (vF 54)) hx hb hK hP 55 54 (WR_get 54 (by decide)) (TR_get 54 (by decide)) (vp_in_nI (show fN < 4300 by omega) (by omega)) dX12_workSum_93 ?_
        refine lv_topi (fun y30 hy30 => ?_)
        obtain rfl : ((vF 54) fN) = y30 := (hy30.trans (by rw [nI_clamp (by omega)])).symm
        refine lv_topi (fun y31 hy31 => ?_)
        obtain rfl : (nI la) = y31 := (hy31.trans (hla (by omega))).symm
        have hFc := allFree hD hS hA
        refine va_callv (va_runV (As := [.int (nI bN), .int (nI la)]) (rest := []) ⟨hx, hb, hml, hown, hts⟩ (r_X12_bind l dC dI a k h0 vi vj vF vG bN la se (by first | assumption | decide | omega | rfl) (by first | assumption | decide | omega | rfl) (by first | assumption | decide | omega | rfl) (by first | assumption | decide | omega | rfl) (by first | assumption | decide | omega | rfl) (by first | assumption | decide | omega | rfl) H.size) (cwV 2 hts gwsRX12_workSum_1 rfl rfl rfl hd_yX12_bind_RX12 (by decide +kernel)) (fz_pre (va_recv hK hP (ci := 12) (q0 := 0) rfl rfl) hP hK hD) rfl rfl hl.1 rfl (lv_room (Nat.le_of_ble_eq_true rfl)) dX12_workSum_94 (by decide +kernel)) hS (fun q _ h => hFc q h) hFc (fun u t9_ H locs ht hvm hw9 hB9 hz1 hk1 hS => ?_)
        obtain ⟨g5194, hwit94⟩ : ∃ w9, w9 = u := ⟨u, rfl⟩
        subst hwit94
        have hP : va_P (dC, dI) vwCl (WR a k h0 vi vj (fT vF 51 g5194) vG) H := fz_P ht hB9.1
        have hD : va_D A (WR a k h0 vi vj (fT vF 51 g5194) vG) := hB9.2.weaken (fun _ q _ h => hFc q.1 h)
        have f94_0 := hw9
        try dsimp only at f94_0
        refine lv_aload_n hx hb dX12_workSum_97 rfl (lv_at hl 1 rfl) ?_
        refine va_get (D := (dC, dI)) (ci := 12) (v := .ref (a 53)) (C := RX12) (T := TX12) (N := 163) (fs := fM (vS a vi vj)) hx hb hts iwsRX12_workSum_in12 hown hK hP 0 rfl rfl 86 (by decide) (hts (.fieldLink RX12 182 "OptimaWorksModel" "stage" "[I") (by decide +kernel)) (fun _ h9 => h9) rfl dX12_workSum_98 ?_
        refine lv_iload_n hx hb dX12_workSum_101 rfl (lv_at hl 2 rfl) ?_
        refine lv_aload_n hx hb dX12_workSum_102 rfl (lv_at hl 1 rfl) ?_
        refine va_get (D := (dC, dI)) (ci := 12) (v := .ref (a 31)) (C := RX12) (T := TX12) (N := 163) (fs := fM (vS a vi vj)) hx hb hts iwsRX12_workSum_in12 hown hK hP 0 rfl rfl 55 (by decide) (hts (.fieldLink RX12 116 "OptimaWorksModel" "partB" "[I") (by decide +kernel)) (fun _ h9 => h9) rfl dX12_workSum_103 ?_
        refine lv_iload_n hx hb dX12_workSum_106 rfl (lv_at hl 3 rfl) ?_
        refine va_iald (cA := k 31) (n := 4200) (f := (vF 31)) hx hb hK hP 32 31 (WR_get 31 (by decide)) (TR_get 31 (by decide)) (vp_in_nI (show nN < 4200 by omega) (by omega)) dX12_workSum_107 ?_
        refine lv_topi (fun y32 hy32 => ?_)
        obtain rfl : ((vF 31) nN) = y32 := (hy32.trans (by rw [nI_clamp (by omega)])).symm
        refine lv_topi (fun y33 hy33 => ?_)
        obtain rfl : dV = y33 := (hy33.trans (hdI)).symm
        refine lv_iconst (v := (-1)) hx hb dX12_workSum_108 (by decide) ?_
        refine lv_icmp_ne (tgt := 116) hx hb dX12_workSum_109 (by decide) (fun c_109 => ?_) (fun c_109 => ?_)
        · have t_109 : (dV).toInt ≠ -1 := toI_ne c_109 rfl (by decide)
          refine lv_iconst (v := 2) hx hb dX12_workSum_116 (by decide) ?_
          refine va_iast (cA := k 53) (n := 4300) (f := (vF 53)) hx hb hK hP hD hS 54 53 (WR_get 53 (by decide)) (TR_get 53 (by decide)) (vp_in_nI (show fN < 4300 by omega) (by omega)) dX12_workSum_117 (fun H locs hP hD hS => ?_)
          have hP : va_P (dC, dI) vwCl (WR a k h0 vi vj (fT (fT vF 51 g5194) 53 (upd (vF 53) ((nI fN)).toNatClampNeg 2)) vG) H := by rw [← WR_F 53 (by decide) _ rfl]; exact hP
          have hD : va_D A (WR a k h0 vi vj (fT (fT vF 51 g5194) 53 (upd (vF 53) ((nI fN)).toNatClampNeg 2)) vG) := by rw [← WR_F 53 (by decide) _ rfl]; exact hD
          refine lv_aload_n hx hb dX12_workSum_118 rfl (lv_at hl 1 rfl) ?_
          refine lv_aload_n hx hb dX12_workSum_119 rfl (lv_at hl 1 rfl) ?_
          refine va_get (D := (dC, dI)) (ci := 12) (v := .ref (a 31)) (C := RX12) (T := TX12) (N := 163) (fs := fM (vS a vi vj)) hx hb hts iwsRX12_workSum_in12 hown hK hP 0 rfl rfl 55 (by decide) (hts (.fieldLink RX12 116 "OptimaWorksModel" "partB" "[I") (by decide +kernel)) (fun _ h9 => h9) rfl dX12_workSum_120 ?_
          refine lv_iload_n hx hb dX12_workSum_123 rfl (lv_at hl 3 rfl) ?_
          refine va_iald (cA := k 31) (n := 4200) (f := (vF 31)) hx hb hK hP 32 31 (WR_get 31 (by decide)) (TR_get 31 (by decide)) (vp_in_nI (show nN < 4200 by omega) (by omega)) dX12_workSum_124 ?_
          refine lv_topi (fun y34 hy34 => ?_)
          obtain rfl : ((vF 31) nN) = y34 := (hy34.trans (by rw [nI_clamp (by omega)])).symm
          refine lv_topi (fun y35 hy35 => ?_)
          obtain rfl : dV = y35 := (hy35.trans (hdI)).symm
          refine lv_iconst (v := (-1)) hx hb dX12_workSum_125 (by decide) ?_
          refine lv_icmp_ne (tgt := 138) hx hb dX12_workSum_126 (by decide) (fun c_126 => ?_) (fun c9 => False.elim (by have t9 : (dV).toInt = -1 := toI_nne c9 rfl (by decide); omega))
          have t_126 : (dV).toInt ≠ -1 := toI_ne c_126 rfl (by decide)
          refine lv_aload_n hx hb dX12_workSum_138 rfl (lv_at hl 1 rfl) ?_
          refine va_get (D := (dC, dI)) (ci := 12) (v := .ref (a 31)) (C := RX12) (T := TX12) (N := 163) (fs := fM (vS a vi vj)) hx hb hts iwsRX12_workSum_in12 hown hK hP 0 rfl rfl 55 (by decide) (hts (.fieldLink RX12 116 "OptimaWorksModel" "partB" "[I") (by decide +kernel)) (fun _ h9 => h9) rfl dX12_workSum_139 ?_
          refine lv_iload_n hx hb dX12_workSum_142 rfl (lv_at hl 3 rfl) ?_
          refine va_iald (cA := k 31) (n := 4200) (f := (vF 31)) hx hb hK hP 32 31 (WR_get 31 (by decide)) (TR_get 31 (by decide)) (vp_in_nI (show nN < 4200 by omega) (by omega)) dX12_workSum_143 ?_
          refine lv_topi (fun y36 hy36 => ?_)
          obtain rfl : ((vF 31) nN) = y36 := (hy36.trans (by rw [nI_clamp (by omega)])).symm
          refine lv_topi (fun y37 hy37 => ?_)
          obtain rfl : dV = y37 := (hy37.trans (hdI)).symm
          have hFc := allFree hD hS hA
          refine va_callv (va_runV (As := [.int dV]) (rest := []) ⟨hx, hb, hml, hown, hts⟩ (r_X12_call l dC dI a k h0 vi vj (fT (fT vF 51 g5194) 53 (upd (vF 53) ((nI fN)).toNatClampNeg 2)) vG dV fr hfr9 (by first | assumption | decide | omega | rfl) H.size) (cwV 1 hts gwsRX12_workSum_2 rfl rfl rfl hd_yX12_call_RX12 (by decide +kernel)) (fz_pre (va_recv hK hP (ci := 12) (q0 := 0) rfl rfl) hP hK hD) rfl rfl hl.1 rfl (lv_room (Nat.le_of_ble_eq_true rfl)) dX12_workSum_144 (by decide +kernel)) hS (fun q _ h => hFc q h) hFc (fun u t9_ H locs ht hvm hw9 hB9 hz1 hk1 hS => ?_)
          have hP : va_P (dC, dI) vwCl (WR a k h0 (fT vi 89 (nI (fr + 1))) vj (fT (fT (fT (fT vF 51 g5194) 53 (upd (vF 53) ((nI fN)).toNatClampNeg 2)) 52 (upd (vF 52) (nI fr).toNatClampNeg dV)) 53 (upd (upd (vF 53) ((nI fN)).toNatClampNeg 2) (nI fr).toNatClampNeg 0)) vG) H := fz_P ht hB9.1
          have hD : va_D A (WR a k h0 (fT vi 89 (nI (fr + 1))) vj (fT (fT (fT (fT vF 51 g5194) 53 (upd (vF 53) ((nI fN)).toNatClampNeg 2)) 52 (upd (vF 52) (nI fr).toNatClampNeg dV)) 53 (upd (upd (vF 53) ((nI fN)).toNatClampNeg 2) (nI fr).toNatClampNeg 0)) vG) := hB9.2.weaken (fun _ q _ h => hFc q.1 h)
          have e9 : fT (fT (fT vF 51 g5194) 53 (upd (upd (vF 53) ((nI fN)).toNatClampNeg 2) (nI fr).toNatClampNeg 0)) 52 (upd (vF 52) (nI fr).toNatClampNeg dV) = fT (fT (fT (fT vF 51 g5194) 53 (upd (vF 53) ((nI fN)).toNatClampNeg 2)) 52 (upd (vF 52) (nI fr).toNatClampNeg dV)) 53 (upd (upd (vF 53) ((nI fN)).toNatClampNeg 2) (nI fr).toNatClampNeg 0) := ((fT_sw _ _ _ (Nat.ne_of_beq_eq_false rfl)).trans (congrArg (fun g9 => fT g9 52 (upd (vF 52) (nI fr).toNatClampNeg dV)) (fT_sm _ _ _ _))).symm
          rw [← e9] at hP hD
          clear e9
          have hP : va_P (dC, dI) vwCl (WR a k h0 (fT vi 89 (nI (fr + 1))) vj (fT (fT (fT vF 51 g5194) 53 (upd (upd (vF 53) ((nI fN)).toNatClampNeg 2) (nI fr).toNatClampNeg 0)) 52 (upd (vF 52) (nI fr).toNatClampNeg dV)) vG) H := hP
          have hD : va_D A (WR a k h0 (fT vi 89 (nI (fr + 1))) vj (fT (fT (fT vF 51 g5194) 53 (upd (upd (vF 53) ((nI fN)).toNatClampNeg 2) (nI fr).toNatClampNeg 0)) 52 (upd (vF 52) (nI fr).toNatClampNeg dV)) vG) := hD
          refine lv_goto (tgt := 272) hx hb dX12_workSum_147 (by decide) ?_
          refine W.widen (k := 0) (n := 0) (by decide +kernel) (by decide +kernel) ?_
          have e9 : fT (fT (fT (fT vi 21 (vi 21)) 22 (vi 22)) 81 (nI pN)) 89 (nI (fr + 1)) = fT vi 89 (nI (fr + 1)) := by funext q9; by_cases h9_21 : q9 = 21; (subst h9_21; exact ((fT_ne _ _ (Nat.ne_of_beq_eq_false rfl)).trans ((fT_ne _ _ (Nat.ne_of_beq_eq_false rfl)).trans ((fT_ne _ _ (Nat.ne_of_beq_eq_false rfl)).trans (fT_eq _ _ _)))).trans (Eq.trans (by first | rfl | assumption | (symm; assumption) | (subst_vars; rfl)) (fT_ne _ _ (Nat.ne_of_beq_eq_false rfl)).symm)); by_cases h9_22 : q9 = 22; (subst h9_22; exact ((fT_ne _ _ (Nat.ne_of_beq_eq_false rfl)).trans ((fT_ne _ _ (Nat.ne_of_beq_eq_false rfl)).trans (fT_eq _ _ _))).trans (Eq.trans (by first | rfl | assumption | (symm; assumption) | (subst_vars; rfl)) (fT_ne _ _ (Nat.ne_of_beq_eq_false rfl)).symm)); by_cases h9_81 : q9 = 81; (subst h9_81; exact ((fT_ne _ _ (Nat.ne_of_beq_eq_false rfl)).trans (fT_eq _ _ _)).trans (Eq.trans (by first | rfl | assumption | (symm; assumption) | (subst_vars; rfl)) (fT_ne _ _ (Nat.ne_of_beq_eq_false rfl)).symm)); by_cases h9_89 : q9 = 89; (subst h9_89; exact (fT_eq _ _ _).trans (Eq.trans (by first | rfl | assumption | (symm; assumption) | (subst_vars; rfl)) (fT_eq _ _ _).symm)); exact ((fT_ne _ _ h9_89).trans ((fT_ne _ _ h9_81).trans ((fT_ne _ _ h9_22).trans (fT_ne _ _ h9_21)))).trans (fT_ne _ _ h9_89).symm
          have hP : va_P (dC, dI) vwCl (WR a k h0 (fT (fT (fT (fT vi 21 (vi 21)) 22 (vi 22)) 81 (nI pN)) 89 (nI (fr + 1))) vj (fT (fT (fT vF 51 g5194) 53 (upd (upd (vF 53) ((nI fN)).toNatClampNeg 2) (nI fr).toNatClampNeg 0)) 52 (upd (vF 52) (nI fr).toNatClampNeg dV)) vG) H := by rw [e9]; exact hP
          have hD : va_D A (WR a k h0 (fT (fT (fT (fT vi 21 (vi 21)) 22 (vi 22)) 81 (nI pN)) 89 (nI (fr + 1))) vj (fT (fT (fT vF 51 g5194) 53 (upd (upd (vF 53) ((nI fN)).toNatClampNeg 2) (nI fr).toNatClampNeg 0)) 52 (upd (vF 52) (nI fr).toNatClampNeg dV)) vG) := by rw [e9]; exact hD
          clear e9
          have e9 : fT (fT (fT (fT (fT (fT vF 49 (vF 49)) 50 (vF 50)) 54 (vF 54)) 53 (upd (upd (vF 53) ((nI fN)).toNatClampNeg 2) (nI fr).toNatClampNeg 0)) 51 g5194) 52 (upd (vF 52) (nI fr).toNatClampNeg dV) = fT (fT (fT vF 51 g5194) 53 (upd (upd (vF 53) ((nI fN)).toNatClampNeg 2) (nI fr).toNatClampNeg 0)) 52 (upd (vF 52) (nI fr).toNatClampNeg dV) := by funext q9; by_cases h9_49 : q9 = 49; (subst h9_49; exact ((fT_ne _ _ (Nat.ne_of_beq_eq_false rfl)).trans ((fT_ne _ _ (Nat.ne_of_beq_eq_false rfl)).trans ((fT_ne _ _ (Nat.ne_of_beq_eq_false rfl)).trans ((fT_ne _ _ (Nat.ne_of_beq_eq_false rfl)).trans ((fT_ne _ _ (Nat.ne_of_beq_eq_false rfl)).trans (fT_eq _ _ _)))))).trans (Eq.trans (by first | rfl | assumption | (symm; assumption) | (subst_vars; rfl)) ((fT_ne _ _ (Nat.ne_of_beq_eq_false rfl)).trans ((fT_ne _ _ (Nat.ne_of_beq_eq_false rfl)).trans (fT_ne _ _ (Nat.ne_of_beq_eq_false rfl)))).symm)); by_cases h9_50 : q9 = 50; (subst h9_50; exact ((fT_ne _ _ (Nat.ne_of_beq_eq_false rfl)).trans ((fT_ne _ _ (Nat.ne_of_beq_eq_false rfl)).trans ((fT_ne _ _ (Nat.ne_of_beq_eq_false rfl)).trans ((fT_ne _ _ (Nat.ne_of_beq_eq_false rfl)).trans (fT_eq _ _ _))))).trans (Eq.trans (by first | rfl | assumption | (symm; assumption) | (subst_vars; rfl)) ((fT_ne _ _ (Nat.ne_of_beq_eq_false rfl)).trans ((fT_ne _ _ (Nat.ne_of_beq_eq_false rfl)).trans (fT_ne _ _ (Nat.ne_of_beq_eq_false rfl)))).symm)); by_cases h9_54 : q9 = 54; (subst h9_54; exact ((fT_ne _ _ (Nat.ne_of_beq_eq_false rfl)).trans ((fT_ne _ _ (Nat.ne_of_beq_eq_false rfl)).trans ((fT_ne _ _ (Nat.ne_of_beq_eq_false rfl)).trans (fT_eq _ _ _)))).trans (Eq.trans (by first | rfl | assumption | (symm; assumption) | (subst_vars; rfl)) ((fT_ne _ _ (Nat.ne_of_beq_eq_false rfl)).trans ((fT_ne _ _ (Nat.ne_of_beq_eq_false rfl)).trans (fT_ne _ _ (Nat.ne_of_beq_eq_false rfl)))).symm)); by_cases h9_53 : q9 = 53; (subst h9_53; exact ((fT_ne _ _ (Nat.ne_of_beq_eq_false rfl)).trans ((fT_ne _ _ (Nat.ne_of_beq_eq_false rfl)).trans (fT_eq _ _ _))).trans (Eq.trans (by first | rfl | assumption | (symm; assumption) | (subst_vars; rfl)) ((fT_ne _ _ (Nat.ne_of_beq_eq_false rfl)).trans (fT_eq _ _ _)).symm)); by_cases h9_51 : q9 = 51; (subst h9_51; exact ((fT_ne _ _ (Nat.ne_of_beq_eq_false rfl)).trans (fT_eq _ _ _)).trans (Eq.trans (by first | rfl | assumption | (symm; assumption) | (subst_vars; rfl)) ((fT_ne _ _ (Nat.ne_of_beq_eq_false rfl)).trans ((fT_ne _ _ (Nat.ne_of_beq_eq_false rfl)).trans (fT_eq _ _ _))).symm)); by_cases h9_52 : q9 = 52; (subst h9_52; exact (fT_eq _ _ _).trans (Eq.trans (by first | rfl | assumption | (symm; assumption) | (subst_vars; rfl)) (fT_eq _ _ _).symm)); exact ((fT_ne _ _ h9_52).trans ((fT_ne _ _ h9_51).trans ((fT_ne _ _ h9_53).trans ((fT_ne _ _ h9_54).trans ((fT_ne _ _ h9_50).trans (fT_ne _ _ h9_49)))))).trans ((fT_ne _ _ h9_52).trans ((fT_ne _ _ h9_53).trans (fT_ne _ _ h9_51))).symm
          have hP : va_P (dC, dI) vwCl (WR a k h0 (fT (fT (fT (fT vi 21 (vi 21)) 22 (vi 22)) 81 (nI pN)) 89 (nI (fr + 1))) vj (fT (fT (fT (fT (fT (fT vF 49 (vF 49)) 50 (vF 50)) 54 (vF 54)) 53 (upd (upd (vF 53) ((nI fN)).toNatClampNeg 2) (nI fr).toNatClampNeg 0)) 51 g5194) 52 (upd (vF 52) (nI fr).toNatClampNeg dV)) vG) H := by rw [e9]; exact hP
          have hD : va_D A (WR a k h0 (fT (fT (fT (fT vi 21 (vi 21)) 22 (vi 22)) 81 (nI pN)) 89 (nI (fr + 1))) vj (fT (fT (fT (fT (fT (fT vF 49 (vF 49)) 50 (vF 50)) 54 (vF 54)) 53 (upd (upd (vF 53) ((nI fN)).toNatClampNeg 2) (nI fr).toNatClampNeg 0)) 51 g5194) 52 (upd (vF 52) (nI fr).toNatClampNeg dV)) vG) := by rw [e9]; exact hD
          clear e9
          exact W.vret hx hb hr (fun t9_ ht hW => ⟨⟨((vF 49), (vF 50), g5194, (upd (vF 52) (nI fr).toNatClampNeg dV), (upd (upd (vF 53) ((nI fN)).toNatClampNeg 2) (nI fr).toNatClampNeg 0), (vF 54), (fr + 1), pN, (vi 21), (vi 22)), rfl, by (try dsimp only); exact ⟨fun v9 h9 => hRw v9 h9, f94_0, hst0, Or.inl rfl, by (obtain rfl : kN = 9 := hk9); (obtain rfl : sN = 1 := by omega); (have hlm : la < mbO nF nN := by omega); (obtain ⟨W9, h1, h2⟩ := hTo.s1 hSW.1); rw [sum_step hlm] at h2; (have h3 := h1.2.1); (obtain ⟨d9, h5, h6⟩ := h1.2.2.resolve_left (fun h => c_109 (hdF.symm.trans h))); (have h4 := h5.2.2.2.1); exact StpO.push' d9 2 la ((mbO nF nN - (la + 1)) * W9 + wt cN + 5) rfl (hdF.symm.trans h5.1.1) hfN hfr1 (fun _ _ => rfl) (fun _ => hla (by omega)) h5.2.1 h5.2.2.1 (by omega) (WtO.s2 (by omega) h5.2.2.2.2 hlm h1 (Nat.le_refl _)) (by omega)⟩, by rw [ht]; exact hP, hD⟩, hS.F ht⟩) hS.2.2 dX12_workSum_272
        · have t_109 : (dV).toInt = -1 := toI_nne c_109 rfl (by decide)
          refine lv_iconst (v := 3) hx hb dX12_workSum_112 (by decide) ?_
          refine lv_goto (tgt := 117) hx hb dX12_workSum_113 (by decide) ?_
          refine va_iast (cA := k 53) (n := 4300) (f := (vF 53)) hx hb hK hP hD hS 54 53 (WR_get 53 (by decide)) (TR_get 53 (by decide)) (vp_in_nI (show fN < 4300 by omega) (by omega)) dX12_workSum_117 (fun H locs hP hD hS => ?_)
          have hP : va_P (dC, dI) vwCl (WR a k h0 vi vj (fT (fT vF 51 g5194) 53 (upd (vF 53) ((nI fN)).toNatClampNeg 3)) vG) H := by rw [← WR_F 53 (by decide) _ rfl]; exact hP
          have hD : va_D A (WR a k h0 vi vj (fT (fT vF 51 g5194) 53 (upd (vF 53) ((nI fN)).toNatClampNeg 3)) vG) := by rw [← WR_F 53 (by decide) _ rfl]; exact hD
          refine lv_aload_n hx hb dX12_workSum_118 rfl (lv_at hl 1 rfl) ?_
          refine lv_aload_n hx hb dX12_workSum_119 rfl (lv_at hl 1 rfl) ?_
          refine va_get (D := (dC, dI)) (ci := 12) (v := .ref (a 31)) (C := RX12) (T := TX12) (N := 163) (fs := fM (vS a vi vj)) hx hb hts iwsRX12_workSum_in12 hown hK hP 0 rfl rfl 55 (by decide) (hts (.fieldLink RX12 116 "OptimaWorksModel" "partB" "[I") (by decide +kernel)) (fun _ h9 => h9) rfl dX12_workSum_120 ?_
          refine lv_iload_n hx hb dX12_workSum_123 rfl (lv_at hl 3 rfl) ?_
          refine va_iald (cA := k 31) (n := 4200) (f := (vF 31)) hx hb hK hP 32 31 (WR_get 31 (by decide)) (TR_get 31 (by decide)) (vp_in_nI (show nN < 4200 by omega) (by omega)) dX12_workSum_124 ?_
          refine lv_topi (fun y38 hy38 => ?_)
          obtain rfl : ((vF 31) nN) = y38 := (hy38.trans (by rw [nI_clamp (by omega)])).symm
          refine lv_topi (fun y39 hy39 => ?_)
          obtain rfl : dV = y39 := (hy39.trans (hdI)).symm
          refine lv_iconst (v := (-1)) hx hb dX12_workSum_125 (by decide) ?_
          refine lv_icmp_ne (tgt := 138) hx hb dX12_workSum_126 (by decide) (fun c9 => False.elim (by have t9 : (dV).toInt ≠ -1 := toI_ne c9 rfl (by decide); omega)) (fun c_126 => ?_)
          have t_126 : (dV).toInt = -1 := toI_nne c_126 rfl (by decide)
          refine lv_aload_n hx hb dX12_workSum_129 rfl (lv_at hl 1 rfl) ?_
          refine va_get (D := (dC, dI)) (ci := 12) (v := .ref (a 32)) (C := RX12) (T := TX12) (N := 163) (fs := fM (vS a vi vj)) hx hb hts iwsRX12_workSum_in12 hown hK hP 0 rfl rfl 56 (by decide) (hts (.fieldLink RX12 119 "OptimaWorksModel" "partC" "[I") (by decide +kernel)) (fun _ h9 => h9) rfl dX12_workSum_130 ?_
          refine lv_iload_n hx hb dX12_workSum_133 rfl (lv_at hl 3 rfl) ?_
          refine va_iald (cA := k 32) (n := 4200) (f := (vF 32)) hx hb hK hP 33 32 (WR_get 32 (by decide)) (TR_get 32 (by decide)) (vp_in_nI (show nN < 4200 by omega) (by omega)) dX12_workSum_134 ?_
          refine lv_topi (fun y40 hy40 => ?_)
          obtain rfl : ((vF 32) nN) = y40 := (hy40.trans (by rw [nI_clamp (by omega)])).symm
          refine lv_topi (fun y41 hy41 => ?_)
          obtain rfl : (nI cN) = y41 := (hy41.trans (hcN)).symm
          refine lv_goto (tgt := 144) hx hb dX12_workSum_135 (by decide) ?_
          have hFc := allFree hD hS hA
          refine va_callv (va_runV (As := [.int (nI cN)]) (rest := []) ⟨hx, hb, hml, hown, hts⟩ (r_X12_call l dC dI a k h0 vi vj (fT (fT vF 51 g5194) 53 (upd (vF 53) ((nI fN)).toNatClampNeg 3)) vG (nI cN) fr hfr9 (by first | assumption | decide | omega | rfl) H.size) (cwV 1 hts gwsRX12_workSum_2 rfl rfl rfl hd_yX12_call_RX12 (by decide +kernel)) (fz_pre (va_recv hK hP (ci := 12) (q0 := 0) rfl rfl) hP hK hD) rfl rfl hl.1 rfl (lv_room (Nat.le_of_ble_eq_true rfl)) dX12_workSum_144 (by decide +kernel)) hS (fun q _ h => hFc q h) hFc (fun u t9_ H locs ht hvm hw9 hB9 hz1 hk1 hS => ?_)
          have hP : va_P (dC, dI) vwCl (WR a k h0 (fT vi 89 (nI (fr + 1))) vj (fT (fT (fT (fT vF 51 g5194) 53 (upd (vF 53) ((nI fN)).toNatClampNeg 3)) 52 (upd (vF 52) (nI fr).toNatClampNeg (nI cN))) 53 (upd (upd (vF 53) ((nI fN)).toNatClampNeg 3) (nI fr).toNatClampNeg 0)) vG) H := fz_P ht hB9.1
          have hD : va_D A (WR a k h0 (fT vi 89 (nI (fr + 1))) vj (fT (fT (fT (fT vF 51 g5194) 53 (upd (vF 53) ((nI fN)).toNatClampNeg 3)) 52 (upd (vF 52) (nI fr).toNatClampNeg (nI cN))) 53 (upd (upd (vF 53) ((nI fN)).toNatClampNeg 3) (nI fr).toNatClampNeg 0)) vG) := hB9.2.weaken (fun _ q _ h => hFc q.1 h)
          have e9 : fT (fT (fT vF 51 g5194) 53 (upd (upd (vF 53) ((nI fN)).toNatClampNeg 3) (nI fr).toNatClampNeg 0)) 52 (upd (vF 52) (nI fr).toNatClampNeg (nI cN)) = fT (fT (fT (fT vF 51 g5194) 53 (upd (vF 53) ((nI fN)).toNatClampNeg 3)) 52 (upd (vF 52) (nI fr).toNatClampNeg (nI cN))) 53 (upd (upd (vF 53) ((nI fN)).toNatClampNeg 3) (nI fr).toNatClampNeg 0) := ((fT_sw _ _ _ (Nat.ne_of_beq_eq_false rfl)).trans (congrArg (fun g9 => fT g9 52 (upd (vF 52) (nI fr).toNatClampNeg (nI cN))) (fT_sm _ _ _ _))).symm
          rw [← e9] at hP hD
          clear e9
          have hP : va_P (dC, dI) vwCl (WR a k h0 (fT vi 89 (nI (fr + 1))) vj (fT (fT (fT vF 51 g5194) 53 (upd (upd (vF 53) ((nI fN)).toNatClampNeg 3) (nI fr).toNatClampNeg 0)) 52 (upd (vF 52) (nI fr).toNatClampNeg (nI cN))) vG) H := hP
          have hD : va_D A (WR a k h0 (fT vi 89 (nI (fr + 1))) vj (fT (fT (fT vF 51 g5194) 53 (upd (upd (vF 53) ((nI fN)).toNatClampNeg 3) (nI fr).toNatClampNeg 0)) 52 (upd (vF 52) (nI fr).toNatClampNeg (nI cN))) vG) := hD
          refine lv_goto (tgt := 272) hx hb dX12_workSum_147 (by decide) ?_
          refine W.widen (k := 0) (n := 0) (by decide +kernel) (by decide +kernel) ?_
          have e9 : fT (fT (fT (fT vi 21 (vi 21)) 22 (vi 22)) 81 (nI pN)) 89 (nI (fr + 1)) = fT vi 89 (nI (fr + 1)) := by funext q9; by_cases h9_21 : q9 = 21; (subst h9_21; exact ((fT_ne _ _ (Nat.ne_of_beq_eq_false rfl)).trans ((fT_ne _ _ (Nat.ne_of_beq_eq_false rfl)).trans ((fT_ne _ _ (Nat.ne_of_beq_eq_false rfl)).trans (fT_eq _ _ _)))).trans (Eq.trans (by first | rfl | assumption | (symm; assumption) | (subst_vars; rfl)) (fT_ne _ _ (Nat.ne_of_beq_eq_false rfl)).symm)); by_cases h9_22 : q9 = 22; (subst h9_22; exact ((fT_ne _ _ (Nat.ne_of_beq_eq_false rfl)).trans ((fT_ne _ _ (Nat.ne_of_beq_eq_false rfl)).trans (fT_eq _ _ _))).trans (Eq.trans (by first | rfl | assumption | (symm; assumption) | (subst_vars; rfl)) (fT_ne _ _ (Nat.ne_of_beq_eq_false rfl)).symm)); by_cases h9_81 : q9 = 81; (subst h9_81; exact ((fT_ne _ _ (Nat.ne_of_beq_eq_false rfl)).trans (fT_eq _ _ _)).trans (Eq.trans (by first | rfl | assumption | (symm; assumption) | (subst_vars; rfl)) (fT_ne _ _ (Nat.ne_of_beq_eq_false rfl)).symm)); by_cases h9_89 : q9 = 89; (subst h9_89; exact (fT_eq _ _ _).trans (Eq.trans (by first | rfl | assumption | (symm; assumption) | (subst_vars; rfl)) (fT_eq _ _ _).symm)); exact ((fT_ne _ _ h9_89).trans ((fT_ne _ _ h9_81).trans ((fT_ne _ _ h9_22).trans (fT_ne _ _ h9_21)))).trans (fT_ne _ _ h9_89).symm
          have hP : va_P (dC, dI) vwCl (WR a k h0 (fT (fT (fT (fT vi 21 (vi 21)) 22 (vi 22)) 81 (nI pN)) 89 (nI (fr + 1))) vj (fT (fT (fT vF 51 g5194) 53 (upd (upd (vF 53) ((nI fN)).toNatClampNeg 3) (nI fr).toNatClampNeg 0)) 52 (upd (vF 52) (nI fr).toNatClampNeg (nI cN))) vG) H := by rw [e9]; exact hP
          have hD : va_D A (WR a k h0 (fT (fT (fT (fT vi 21 (vi 21)) 22 (vi 22)) 81 (nI pN)) 89 (nI (fr + 1))) vj (fT (fT (fT vF 51 g5194) 53 (upd (upd (vF 53) ((nI fN)).toNatClampNeg 3) (nI fr).toNatClampNeg 0)) 52 (upd (vF 52) (nI fr).toNatClampNeg (nI cN))) vG) := by rw [e9]; exact hD
          clear e9
          have e9 : fT (fT (fT (fT (fT (fT vF 49 (vF 49)) 50 (vF 50)) 54 (vF 54)) 53 (upd (upd (vF 53) ((nI fN)).toNatClampNeg 3) (nI fr).toNatClampNeg 0)) 51 g5194) 52 (upd (vF 52) (nI fr).toNatClampNeg (nI cN)) = fT (fT (fT vF 51 g5194) 53 (upd (upd (vF 53) ((nI fN)).toNatClampNeg 3) (nI fr).toNatClampNeg 0)) 52 (upd (vF 52) (nI fr).toNatClampNeg (nI cN)) := by funext q9; by_cases h9_49 : q9 = 49; (subst h9_49; exact ((fT_ne _ _ (Nat.ne_of_beq_eq_false rfl)).trans ((fT_ne _ _ (Nat.ne_of_beq_eq_false rfl)).trans ((fT_ne _ _ (Nat.ne_of_beq_eq_false rfl)).trans ((fT_ne _ _ (Nat.ne_of_beq_eq_false rfl)).trans ((fT_ne _ _ (Nat.ne_of_beq_eq_false rfl)).trans (fT_eq _ _ _)))))).trans (Eq.trans (by first | rfl | assumption | (symm; assumption) | (subst_vars; rfl)) ((fT_ne _ _ (Nat.ne_of_beq_eq_false rfl)).trans ((fT_ne _ _ (Nat.ne_of_beq_eq_false rfl)).trans (fT_ne _ _ (Nat.ne_of_beq_eq_false rfl)))).symm)); by_cases h9_50 : q9 = 50; (subst h9_50; exact ((fT_ne _ _ (Nat.ne_of_beq_eq_false rfl)).trans ((fT_ne _ _ (Nat.ne_of_beq_eq_false rfl)).trans ((fT_ne _ _ (Nat.ne_of_beq_eq_false rfl)).trans ((fT_ne _ _ (Nat.ne_of_beq_eq_false rfl)).trans (fT_eq _ _ _))))).trans (Eq.trans (by first | rfl | assumption | (symm; assumption) | (subst_vars; rfl)) ((fT_ne _ _ (Nat.ne_of_beq_eq_false rfl)).trans ((fT_ne _ _ (Nat.ne_of_beq_eq_false rfl)).trans (fT_ne _ _ (Nat.ne_of_beq_eq_false rfl)))).symm)); by_cases h9_54 : q9 = 54; (subst h9_54; exact ((fT_ne _ _ (Nat.ne_of_beq_eq_false rfl)).trans ((fT_ne _ _ (Nat.ne_of_beq_eq_false rfl)).trans ((fT_ne _ _ (Nat.ne_of_beq_eq_false rfl)).trans (fT_eq _ _ _)))).trans (Eq.trans (by first | rfl | assumption | (symm; assumption) | (subst_vars; rfl)) ((fT_ne _ _ (Nat.ne_of_beq_eq_false rfl)).trans ((fT_ne _ _ (Nat.ne_of_beq_eq_false rfl)).trans (fT_ne _ _ (Nat.ne_of_beq_eq_false rfl)))).symm)); by_cases h9_53 : q9 = 53; (subst h9_53; exact ((fT_ne _ _ (Nat.ne_of_beq_eq_false rfl)).trans ((fT_ne _ _ (Nat.ne_of_beq_eq_false rfl)).trans (fT_eq _ _ _))).trans (Eq.trans (by first | rfl | assumption | (symm; assumption) | (subst_vars; rfl)) ((fT_ne _ _ (Nat.ne_of_beq_eq_false rfl)).trans (fT_eq _ _ _)).symm)); by_cases h9_51 : q9 = 51; (subst h9_51; exact ((fT_ne _ _ (Nat.ne_of_beq_eq_false rfl)).trans (fT_eq _ _ _)).trans (Eq.trans (by first | rfl | assumption | (symm; assumption) | (subst_vars; rfl)) ((fT_ne _ _ (Nat.ne_of_beq_eq_false rfl)).trans ((fT_ne _ _ (Nat.ne_of_beq_eq_false rfl)).trans (fT_eq _ _ _))).symm)); by_cases h9_52 : q9 = 52; (subst h9_52; exact (fT_eq _ _ _).trans (Eq.trans (by first | rfl | assumption | (symm; assumption) | (subst_vars; rfl)) (fT_eq _ _ _).symm)); exact ((fT_ne _ _ h9_52).trans ((fT_ne _ _ h9_51).trans ((fT_ne _ _ h9_53).trans ((fT_ne _ _ h9_54).trans ((fT_ne _ _ h9_50).trans (fT_ne _ _ h9_49)))))).trans ((fT_ne _ _ h9_52).trans ((fT_ne _ _ h9_53).trans (fT_ne _ _ h9_51))).symm
          have hP : va_P (dC, dI) vwCl (WR a k h0 (fT (fT (fT (fT vi 21 (vi 21)) 22 (vi 22)) 81 (nI pN)) 89 (nI (fr + 1))) vj (fT (fT (fT (fT (fT (fT vF 49 (vF 49)) 50 (vF 50)) 54 (vF 54)) 53 (upd (upd (vF 53) ((nI fN)).toNatClampNeg 3) (nI fr).toNatClampNeg 0)) 51 g5194) 52 (upd (vF 52) (nI fr).toNatClampNeg (nI cN))) vG) H := by rw [e9]; exact hP
          have hD : va_D A (WR a k h0 (fT (fT (fT (fT vi 21 (vi 21)) 22 (vi 22)) 81 (nI pN)) 89 (nI (fr + 1))) vj (fT (fT (fT (fT (fT (fT vF 49 (vF 49)) 50 (vF 50)) 54 (vF 54)) 53 (upd (upd (vF 53) ((nI fN)).toNatClampNeg 3) (nI fr).toNatClampNeg 0)) 51 g5194) 52 (upd (vF 52) (nI fr).toNatClampNeg (nI cN))) vG) := by rw [e9]; exact hD
          clear e9
          exact W.vret hx hb hr (fun t9_ ht hW => ⟨⟨((vF 49), (vF 50), g5194, (upd (vF 52) (nI fr).toNatClampNeg (nI cN)), (upd (upd (vF 53) ((nI fN)).toNatClampNeg 3) (nI fr).toNatClampNeg 0), (vF 54), (fr + 1), pN, (vi 21), (vi 22)), rfl, by (try dsimp only); exact ⟨fun v9 h9 => hRw v9 h9, f94_0, hst0, Or.inl rfl, by (obtain rfl : kN = 9 := hk9); (obtain rfl : sN = 1 := by omega); (have hlm : la < mbO nF nN := by omega); (obtain ⟨W9, h1, h2⟩ := hTo.s1 hSW.1); rw [sum_step hlm] at h2; (have h3 := h1.2.1); (have h4 := hSW.1.2.2.2.1); exact StpO.push' cN 3 la ((mbO nF nN - (la + 1)) * W9 + 3) rfl rfl hfN hfr1 (fun _ _ => rfl) (fun _ => hla (by omega)) hSW.1.2.1 hSW.1.2.2.1 (by omega) (WtO.s3 (by omega) hSW.1.2.2.2.2 hlm h1 (Nat.le_refl _)) (by omega)⟩, by rw [ht]; exact hP, hD⟩, hS.F ht⟩) hS.2.2 dX12_workSum_272
      · have t_72 : ((la : Nat) : Int) = (((mbO nF nN) : Nat) : Int) := toI_nne c_72 (nI_toInt (by omega)) (nI_toInt (by omega))
        refine lv_aload_n hx hb dX12_workSum_75 rfl (lv_at hl 1 rfl) ?_
        refine lv_dup hx hb dX12_workSum_76 rfl ?_
        refine va_get (D := (dC, dI)) (ci := 12) (v := .int (vi 89)) (C := RX12) (T := TX12) (N := 163) (fs := fM (vS a vi vj)) hx hb hts iwsRX12_workSum_in12 hown hK hP 0 rfl rfl 89 (by decide) (hts (.fieldLink RX12 647 "OptimaWorksModel" "framed" "I") (by decide +kernel)) (fun _ h9 => h9) rfl dX12_workSum_77 ?_
        refine lv_topi (fun y42 hy42 => ?_)
        obtain rfl : (nI fr) = y42 := (hy42.trans (hfr9)).symm
        refine lv_iconst (v := 1) hx hb dX12_workSum_80 (by decide) ?_
        refine lv_isub hx hb dX12_workSum_81 ?_
        refine lv_topi (fun y43 hy43 => ?_)
        obtain rfl : (nI (fr - 1)) = y43 := (hy43.trans (pk_sub (a := fr) (b := 1) (by omega))).symm
        refine va_put (D := (dC, dI)) (ci := 12) (v := .int (nI (fr - 1))) (ty := .int) (C := RX12) (T := TX12) (N := 163) (fs := fM (vS a vi vj)) hx hb hts iwsRX12_workSum_in12 tyX12 tyX12_ok nmX12 hown hK hP hD hS 0 rfl rfl 89 (by decide) (hts (.fieldLink RX12 647 "OptimaWorksModel" "framed" "I") (by decide +kernel)) (fun _ h9 => h9) rfl (by decide +kernel) rfl rfl (Nat.le_of_ble_eq_true rfl) dX12_workSum_82 (fun H locs hP hD hS => ?_)
        have hP : va_P (dC, dI) vwCl (WR a k h0 (fT vi 89 (nI (fr - 1))) vj vF vG) H := by rw [← WR_i 89 _ rfl]; exact hP
        have hD : va_D A (WR a k h0 (fT vi 89 (nI (fr - 1))) vj vF vG) := by rw [← WR_i 89 _ rfl]; exact hD
        refine W.widen (k := 0) (n := 0) (by decide +kernel) (by decide +kernel) ?_
        have e9 : fT (fT (fT (fT vi 21 (vi 21)) 22 (vi 22)) 81 (nI pN)) 89 (nI (fr - 1)) = fT vi 89 (nI (fr - 1)) := by funext q9; by_cases h9_21 : q9 = 21; (subst h9_21; exact ((fT_ne _ _ (Nat.ne_of_beq_eq_false rfl)).trans ((fT_ne _ _ (Nat.ne_of_beq_eq_false rfl)).trans ((fT_ne _ _ (Nat.ne_of_beq_eq_false rfl)).trans (fT_eq _ _ _)))).trans (Eq.trans (by first | rfl | assumption | (symm; assumption) | (subst_vars; rfl)) (fT_ne _ _ (Nat.ne_of_beq_eq_false rfl)).symm)); by_cases h9_22 : q9 = 22; (subst h9_22; exact ((fT_ne _ _ (Nat.ne_of_beq_eq_false rfl)).trans ((fT_ne _ _ (Nat.ne_of_beq_eq_false rfl)).trans (fT_eq _ _ _))).trans (Eq.trans (by first | rfl | assumption | (symm; assumption) | (subst_vars; rfl)) (fT_ne _ _ (Nat.ne_of_beq_eq_false rfl)).symm)); by_cases h9_81 : q9 = 81; (subst h9_81; exact ((fT_ne _ _ (Nat.ne_of_beq_eq_false rfl)).trans (fT_eq _ _ _)).trans (Eq.trans (by first | rfl | assumption | (symm; assumption) | (subst_vars; rfl)) (fT_ne _ _ (Nat.ne_of_beq_eq_false rfl)).symm)); by_cases h9_89 : q9 = 89; (subst h9_89; exact (fT_eq _ _ _).trans (Eq.trans (by first | rfl | assumption | (symm; assumption) | (subst_vars; rfl)) (fT_eq _ _ _).symm)); exact ((fT_ne _ _ h9_89).trans ((fT_ne _ _ h9_81).trans ((fT_ne _ _ h9_22).trans (fT_ne _ _ h9_21)))).trans (fT_ne _ _ h9_89).symm
        have hP : va_P (dC, dI) vwCl (WR a k h0 (fT (fT (fT (fT vi 21 (vi 21)) 22 (vi 22)) 81 (nI pN)) 89 (nI (fr - 1))) vj vF vG) H := by rw [e9]; exact hP
        have hD : va_D A (WR a k h0 (fT (fT (fT (fT vi 21 (vi 21)) 22 (vi 22)) 81 (nI pN)) 89 (nI (fr - 1))) vj vF vG) := by rw [e9]; exact hD
        clear e9
        have e9 : fT (fT (fT (fT (fT (fT vF 49 (vF 49)) 50 (vF 50)) 54 (vF 54)) 53 (vF 53)) 51 (vF 51)) 52 (vF 52) = vF := (fT_id _ _ ((fT_ne _ _ (Nat.ne_of_beq_eq_false rfl)).trans ((fT_ne _ _ (Nat.ne_of_beq_eq_false rfl)).trans ((fT_ne _ _ (Nat.ne_of_beq_eq_false rfl)).trans ((fT_ne _ _ (Nat.ne_of_beq_eq_false rfl)).trans (fT_ne _ _ (Nat.ne_of_beq_eq_false rfl))))))).trans ((fT_id _ _ ((fT_ne _ _ (Nat.ne_of_beq_eq_false rfl)).trans ((fT_ne _ _ (Nat.ne_of_beq_eq_false rfl)).trans ((fT_ne _ _ (Nat.ne_of_beq_eq_false rfl)).trans (fT_ne _ _ (Nat.ne_of_beq_eq_false rfl)))))).trans ((fT_id _ _ ((fT_ne _ _ (Nat.ne_of_beq_eq_false rfl)).trans ((fT_ne _ _ (Nat.ne_of_beq_eq_false rfl)).trans (fT_ne _ _ (Nat.ne_of_beq_eq_false rfl))))).trans ((fT_id _ _ ((fT_ne _ _ (Nat.ne_of_beq_eq_false rfl)).trans (fT_ne _ _ (Nat.ne_of_beq_eq_false rfl)))).trans ((fT_id _ _ (fT_ne _ _ (Nat.ne_of_beq_eq_false rfl))).trans (fT_id _ _ (rfl))))))
        have hP : va_P (dC, dI) vwCl (WR a k h0 (fT (fT (fT (fT vi 21 (vi 21)) 22 (vi 22)) 81 (nI pN)) 89 (nI (fr - 1))) vj (fT (fT (fT (fT (fT (fT vF 49 (vF 49)) 50 (vF 50)) 54 (vF 54)) 53 (vF 53)) 51 (vF 51)) 52 (vF 52)) vG) H := by rw [e9]; exact hP
        have hD : va_D A (WR a k h0 (fT (fT (fT (fT vi 21 (vi 21)) 22 (vi 22)) 81 (nI pN)) 89 (nI (fr - 1))) vj (fT (fT (fT (fT (fT (fT vF 49 (vF 49)) 50 (vF 50)) 54 (vF 54)) 53 (vF 53)) 51 (vF 51)) 52 (vF 52)) vG) := by rw [e9]; exact hD
        clear e9
        exact W.vret hx hb hr (fun t9_ ht hW => ⟨⟨((vF 49), (vF 50), (vF 51), (vF 52), (vF 53), (vF 54), (fr - 1), pN, (vi 21), (vi 22)), rfl, by (try dsimp only); exact ⟨fun v9 h9 => hRw v9 h9, hEn, hst0, Or.inl rfl, StpO.pop0 hfr1 (by rw [if_pos (by omega)]; omega)⟩, by rw [ht]; exact hP, hD⟩, hS.F ht⟩) hS.2.2 dX12_workSum_85
  · have t_13 : ((sN : Nat) : Int) = 0 := toI_nne c_13 (nI_toInt (by omega)) (by decide)
    refine lv_aload_n hx hb dX12_workSum_16 rfl (lv_at hl 1 rfl) ?_
    refine lv_aload_n hx hb dX12_workSum_17 rfl (lv_at hl 1 rfl) ?_
    refine va_get (D := (dC, dI)) (ci := 12) (v := .int (vi 81)) (C := RX12) (T := TX12) (N := 163) (fs := fM (vS a vi vj)) hx hb hts iwsRX12_workSum_in12 hown hK hP 0 rfl rfl 81 (by decide) (hts (.fieldLink RX12 659 "OptimaWorksModel" "piled" "I") (by decide +kernel)) (fun _ h9 => h9) rfl dX12_workSum_18 ?_
    refine lv_topi (fun y44 hy44 => ?_)
    obtain rfl : (nI pN) = y44 := (hy44.trans (hpl)).symm
    have hFc := allFree hD hS hA
    refine va_callv (va_runV (As := [.int (nI pN)]) (rest := []) ⟨hx, hb, hml, hown, hts⟩ (r_X12_nought l dC dI a k h0 vi vj vF vG pN (by first | assumption | decide | omega | rfl) s.heap.size) (cwV 1 hts gwsRX12_workSum_4 rfl rfl rfl hd_yX12_nought_RX12 (by decide +kernel)) (fz_pre (va_recv hK hP (ci := 12) (q0 := 0) rfl rfl) hP hK hD) rfl rfl hl.1 rfl (lv_room (Nat.le_of_ble_eq_true rfl)) dX12_workSum_21 (by decide +kernel)) hS (fun q _ h => hFc q h) hFc (fun u t9_ H locs ht hvm hw9 hB9 hz1 hk1 hS => ?_)
    obtain ⟨f4921, f5021⟩ := u
    try dsimp only at hw9 hB9
    have hP : va_P (dC, dI) vwCl (WR a k h0 vi vj (fT (fT vF 49 f4921) 50 f5021) vG) H := fz_P ht hB9.1
    have hD : va_D A (WR a k h0 vi vj (fT (fT vF 49 f4921) 50 f5021) vG) := hB9.2.weaken (fun _ q _ h => hFc q.1 h)
    obtain ⟨f21_0, f21_1, f21_2, f21_3⟩ := hw9
    have f21_2 : ∀ q, (q < 9 * pN ∨ 9 * pN + 9 ≤ q) → f4921 q = (vF 49) q := f21_2
    have f21_3 : ∀ q, (q < 9 * pN ∨ 9 * pN + 9 ≤ q) → f5021 q = (vF 50) q := f21_3
    refine lv_aload_n hx hb dX12_workSum_24 rfl (lv_at hl 1 rfl) ?_
    refine lv_dup hx hb dX12_workSum_25 rfl ?_
    refine va_get (D := (dC, dI)) (ci := 12) (v := .int (vi 81)) (C := RX12) (T := TX12) (N := 163) (fs := fM (vS a vi vj)) hx hb hts iwsRX12_workSum_in12 hown hK hP 0 rfl rfl 81 (by decide) (hts (.fieldLink RX12 659 "OptimaWorksModel" "piled" "I") (by decide +kernel)) (fun _ h9 => h9) rfl dX12_workSum_26 ?_
    refine lv_topi (fun y45 hy45 => ?_)
    obtain rfl : (nI pN) = y45 := (hy45.trans (hpl)).symm
    refine lv_iconst (v := 1) hx hb dX12_workSum_29 (by decide) ?_
    refine lv_iadd hx hb dX12_workSum_30 ?_
    refine lv_topi (fun y46 hy46 => ?_)
    obtain rfl : (nI (pN + 1)) = y46 := (hy46.trans (nI_add pN 1)).symm
    refine va_put (D := (dC, dI)) (ci := 12) (v := .int (nI (pN + 1))) (ty := .int) (C := RX12) (T := TX12) (N := 163) (fs := fM (vS a vi vj)) hx hb hts iwsRX12_workSum_in12 tyX12 tyX12_ok nmX12 hown hK hP hD hS 0 rfl rfl 81 (by decide) (hts (.fieldLink RX12 659 "OptimaWorksModel" "piled" "I") (by decide +kernel)) (fun _ h9 => h9) rfl (by decide +kernel) rfl rfl (Nat.le_of_ble_eq_true rfl) dX12_workSum_31 (fun H locs hP hD hS => ?_)
    have hP : va_P (dC, dI) vwCl (WR a k h0 (fT vi 81 (nI (pN + 1))) vj (fT (fT vF 49 f4921) 50 f5021) vG) H := by rw [← WR_i 81 _ rfl]; exact hP
    have hD : va_D A (WR a k h0 (fT vi 81 (nI (pN + 1))) vj (fT (fT vF 49 f4921) 50 f5021) vG) := by rw [← WR_i 81 _ rfl]; exact hD
    refine lv_aload_n hx hb dX12_workSum_34 rfl (lv_at hl 1 rfl) ?_
    refine va_get (D := (dC, dI)) (ci := 12) (v := .ref (a 54)) (C := RX12) (T := TX12) (N := 163) (fs := fM (vS a (fT vi 81 (nI (pN + 1))) vj)) hx hb hts iwsRX12_workSum_in12 hown hK hP 0 rfl rfl 87 (by decide) (hts (.fieldLink RX12 185 "OptimaWorksModel" "loopA" "[I") (by decide +kernel)) (fun _ h9 => h9) rfl dX12_workSum_35 ?_
    refine lv_iload_n hx hb dX12_workSum_38 rfl (lv_at hl 2 rfl) ?_
    refine lv_iconst (v := 0) hx hb dX12_workSum_39 (by decide) ?_
    refine va_iast (cA := k 54) (n := 4300) (f := (vF 54)) hx hb hK hP hD hS 55 54 (WR_get 54 (by decide)) (TR_get 54 (by decide)) (vp_in_nI (show fN < 4300 by omega) (by omega)) dX12_workSum_40 (fun H locs hP hD hS => ?_)
    have hP : va_P (dC, dI) vwCl (WR a k h0 (fT vi 81 (nI (pN + 1))) vj (fT (fT (fT vF 49 f4921) 50 f5021) 54 (upd (vF 54) ((nI fN)).toNatClampNeg 0)) vG) H := by rw [← WR_F 54 (by decide) _ rfl]; exact hP
    have hD : va_D A (WR a k h0 (fT vi 81 (nI (pN + 1))) vj (fT (fT (fT vF 49 f4921) 50 f5021) 54 (upd (vF 54) ((nI fN)).toNatClampNeg 0)) vG) := by rw [← WR_F 54 (by decide) _ rfl]; exact hD
    refine lv_aload_n hx hb dX12_workSum_41 rfl (lv_at hl 1 rfl) ?_
    refine va_get (D := (dC, dI)) (ci := 12) (v := .ref (a 53)) (C := RX12) (T := TX12) (N := 163) (fs := fM (vS a (fT vi 81 (nI (pN + 1))) vj)) hx hb hts iwsRX12_workSum_in12 hown hK hP 0 rfl rfl 86 (by decide) (hts (.fieldLink RX12 182 "OptimaWorksModel" "stage" "[I") (by decide +kernel)) (fun _ h9 => h9) rfl dX12_workSum_42 ?_
    refine lv_iload_n hx hb dX12_workSum_45 rfl (lv_at hl 2 rfl) ?_
    refine lv_iconst (v := 1) hx hb dX12_workSum_46 (by decide) ?_
    refine va_iast (cA := k 53) (n := 4300) (f := (vF 53)) hx hb hK hP hD hS 54 53 (WR_get 53 (by decide)) (TR_get 53 (by decide)) (vp_in_nI (show fN < 4300 by omega) (by omega)) dX12_workSum_47 (fun H locs hP hD hS => ?_)
    have hP : va_P (dC, dI) vwCl (WR a k h0 (fT vi 81 (nI (pN + 1))) vj (fT (fT (fT (fT vF 49 f4921) 50 f5021) 54 (upd (vF 54) ((nI fN)).toNatClampNeg 0)) 53 (upd (vF 53) ((nI fN)).toNatClampNeg 1)) vG) H := by rw [← WR_F 53 (by decide) _ rfl]; exact hP
    have hD : va_D A (WR a k h0 (fT vi 81 (nI (pN + 1))) vj (fT (fT (fT (fT vF 49 f4921) 50 f5021) 54 (upd (vF 54) ((nI fN)).toNatClampNeg 0)) 53 (upd (vF 53) ((nI fN)).toNatClampNeg 1)) vG) := by rw [← WR_F 53 (by decide) _ rfl]; exact hD
    refine lv_goto (tgt := 272) hx hb dX12_workSum_48 (by decide) ?_
    refine W.widen (k := 0) (n := 0) (by decide +kernel) (by decide +kernel) ?_
    have e9 : fT (fT (fT (fT vi 21 (vi 21)) 22 (vi 22)) 81 (nI (pN + 1))) 89 (nI fr) = fT vi 81 (nI (pN + 1)) := by funext q9; by_cases h9_21 : q9 = 21; (subst h9_21; exact ((fT_ne _ _ (Nat.ne_of_beq_eq_false rfl)).trans ((fT_ne _ _ (Nat.ne_of_beq_eq_false rfl)).trans ((fT_ne _ _ (Nat.ne_of_beq_eq_false rfl)).trans (fT_eq _ _ _)))).trans (Eq.trans (by first | rfl | assumption | (symm; assumption) | (subst_vars; rfl)) (fT_ne _ _ (Nat.ne_of_beq_eq_false rfl)).symm)); by_cases h9_22 : q9 = 22; (subst h9_22; exact ((fT_ne _ _ (Nat.ne_of_beq_eq_false rfl)).trans ((fT_ne _ _ (Nat.ne_of_beq_eq_false rfl)).trans (fT_eq _ _ _))).trans (Eq.trans (by first | rfl | assumption | (symm; assumption) | (subst_vars; rfl)) (fT_ne _ _ (Nat.ne_of_beq_eq_false rfl)).symm)); by_cases h9_81 : q9 = 81; (subst h9_81; exact ((fT_ne _ _ (Nat.ne_of_beq_eq_false rfl)).trans (fT_eq _ _ _)).trans (Eq.trans (by first | rfl | assumption | (symm; assumption) | (subst_vars; rfl)) (fT_eq _ _ _).symm)); by_cases h9_89 : q9 = 89; (subst h9_89; exact (fT_eq _ _ _).trans (Eq.trans (by first | rfl | assumption | (symm; assumption) | (subst_vars; rfl)) (fT_ne _ _ (Nat.ne_of_beq_eq_false rfl)).symm)); exact ((fT_ne _ _ h9_89).trans ((fT_ne _ _ h9_81).trans ((fT_ne _ _ h9_22).trans (fT_ne _ _ h9_21)))).trans (fT_ne _ _ h9_81).symm
    have hP : va_P (dC, dI) vwCl (WR a k h0 (fT (fT (fT (fT vi 21 (vi 21)) 22 (vi 22)) 81 (nI (pN + 1))) 89 (nI fr)) vj (fT (fT (fT (fT vF 49 f4921) 50 f5021) 54 (upd (vF 54) ((nI fN)).toNatClampNeg 0)) 53 (upd (vF 53) ((nI fN)).toNatClampNeg 1)) vG) H := by rw [e9]; exact hP
    have hD : va_D A (WR a k h0 (fT (fT (fT (fT vi 21 (vi 21)) 22 (vi 22)) 81 (nI (pN + 1))) 89 (nI fr)) vj (fT (fT (fT (fT vF 49 f4921) 50 f5021) 54 (upd (vF 54) ((nI fN)).toNatClampNeg 0)) 53 (upd (vF 53) ((nI fN)).toNatClampNeg 1)) vG) := by rw [e9]; exact hD
    clear e9
    have e9 : fT (fT (fT (fT (fT (fT vF 49 f4921) 50 f5021) 54 (upd (vF 54) ((nI fN)).toNatClampNeg 0)) 53 (upd (vF 53) ((nI fN)).toNatClampNeg 1)) 51 (vF 51)) 52 (vF 52) = fT (fT (fT (fT vF 49 f4921) 50 f5021) 54 (upd (vF 54) ((nI fN)).toNatClampNeg 0)) 53 (upd (vF 53) ((nI fN)).toNatClampNeg 1) := (fT_id _ _ ((fT_ne _ _ (Nat.ne_of_beq_eq_false rfl)).trans ((fT_ne _ _ (Nat.ne_of_beq_eq_false rfl)).trans ((fT_ne _ _ (Nat.ne_of_beq_eq_false rfl)).trans ((fT_ne _ _ (Nat.ne_of_beq_eq_false rfl)).trans (fT_ne _ _ (Nat.ne_of_beq_eq_false rfl))))))).trans (fT_id _ _ ((fT_ne _ _ (Nat.ne_of_beq_eq_false rfl)).trans ((fT_ne _ _ (Nat.ne_of_beq_eq_false rfl)).trans ((fT_ne _ _ (Nat.ne_of_beq_eq_false rfl)).trans (fT_ne _ _ (Nat.ne_of_beq_eq_false rfl))))))
    have hP : va_P (dC, dI) vwCl (WR a k h0 (fT (fT (fT (fT vi 21 (vi 21)) 22 (vi 22)) 81 (nI (pN + 1))) 89 (nI fr)) vj (fT (fT (fT (fT (fT (fT vF 49 f4921) 50 f5021) 54 (upd (vF 54) ((nI fN)).toNatClampNeg 0)) 53 (upd (vF 53) ((nI fN)).toNatClampNeg 1)) 51 (vF 51)) 52 (vF 52)) vG) H := by rw [e9]; exact hP
    have hD : va_D A (WR a k h0 (fT (fT (fT (fT vi 21 (vi 21)) 22 (vi 22)) 81 (nI (pN + 1))) 89 (nI fr)) vj (fT (fT (fT (fT (fT (fT vF 49 f4921) 50 f5021) 54 (upd (vF 54) ((nI fN)).toNatClampNeg 0)) 53 (upd (vF 53) ((nI fN)).toNatClampNeg 1)) 51 (vF 51)) 52 (vF 52)) vG) := by rw [e9]; exact hD
    clear e9
    exact W.vret hx hb hr (fun t9_ ht hW => ⟨⟨(f4921, f5021, (vF 51), (vF 52), (upd (vF 53) ((nI fN)).toNatClampNeg 1), (upd (vF 54) ((nI fN)).toNatClampNeg 0), fr, (pN + 1), (vi 21), (vi 22)), rfl, by (try dsimp only); exact ⟨fun v9 h9 => RowU.nought f21_0 f21_1 (fun q h9 => f21_2 q (Or.inl h9)) (fun q h9 => f21_3 q (Or.inl h9)) hRw (by omega), hEn, hst0, Or.inl rfl, by (obtain rfl : kN = 9 := hk9); (obtain rfl : sN = 0 := by omega); (have h8 := hTo.s0); exact StpO.stay' 1 0 (mbO nF nN * wW + 1) rfl hfN hfr1 (fun q hq => by rw [upd_at (by omega), if_neg (by omega)]) (fun _ => by rw [upd_at (by omega), if_pos rfl]; exact nI_0.symm) (TopO.next (by omega) (Nat.zero_le _) hSW (Nat.le_refl _)) (by omega)⟩, by rw [ht]; exact hP, hD⟩, hS.F ht⟩) hS.2.2 dX12_workSum_272

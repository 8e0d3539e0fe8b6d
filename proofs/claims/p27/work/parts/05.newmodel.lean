def wsX12_init_r1 : List Cond := [Cond.methodLink RX12 1 objectInit, Cond.instanceMethod objectInit, Cond.code objectInit ⟨#[0xb1]⟩ 1 none, Cond.arrayClass .int, Cond.fieldLink RX12 7 "OptimaWorksModel" "big" "[I", Cond.arrayClass .long, Cond.fieldLink RX12 13 "OptimaWorksModel" "sum" "[J", Cond.fieldLink RX12 17 "OptimaWorksModel" "rest" "[I", Cond.fieldLink RX12 20 "OptimaWorksModel" "less" "[I", Cond.fieldLink RX12 23 "OptimaWorksModel" "columnOf" "[I", Cond.fieldLink RX12 26 "OptimaWorksModel" "rowOf" "[I", Cond.arrayClass .boolean, Cond.fieldLink RX12 29 "OptimaWorksModel" "still" "[Z", Cond.fieldLink RX12 33 "OptimaWorksModel" "fast" "[J", Cond.fieldLink RX12 36 "OptimaWorksModel" "later" "[J", Cond.arrayClass .byte, Cond.fieldLink RX12 39 "OptimaWorksModel" "tape" "[B", Cond.fieldLink RX12 43 "OptimaWorksModel" "place" "I", Cond.fieldLink RX12 47 "OptimaWorksModel" "latestPlace" "I", Cond.fieldLink RX12 50 "OptimaWorksModel" "nameKind" "[I", Cond.fieldLink RX12 53 "OptimaWorksModel" "nameFrom" "[I", Cond.fieldLink RX12 56 "OptimaWorksModel" "nameLong" "[I", Cond.fieldLink RX12 59 "OptimaWorksModel" "nameOf" "[I", Cond.fieldLink RX12 62 "OptimaWorksModel" "binderFrom" "[I"]
def wsX12_init_r2 : List Cond := [Cond.fieldLink RX12 65 "OptimaWorksModel" "binderLong" "[I", Cond.fieldLink RX12 68 "OptimaWorksModel" "ownFrom" "I", Cond.fieldLink RX12 71 "OptimaWorksModel" "setLow" "[I", Cond.fieldLink RX12 74 "OptimaWorksModel" "setMany" "[I", Cond.fieldLink RX12 77 "OptimaWorksModel" "paramPlaces" "[I", Cond.fieldLink RX12 80 "OptimaWorksModel" "paramOne" "[I", Cond.fieldLink RX12 83 "OptimaWorksModel" "paramTwo" "[I", Cond.fieldLink RX12 86 "OptimaWorksModel" "paramAt" "[I", Cond.fieldLink RX12 89 "OptimaWorksModel" "paramTop" "[I", Cond.fieldLink RX12 92 "OptimaWorksModel" "paramUnder" "[I", Cond.fieldLink RX12 95 "OptimaWorksModel" "varPlaces" "[I", Cond.fieldLink RX12 98 "OptimaWorksModel" "varOne" "[I", Cond.fieldLink RX12 101 "OptimaWorksModel" "varTwo" "[I", Cond.fieldLink RX12 104 "OptimaWorksModel" "varAt" "[I", Cond.fieldLink RX12 107 "OptimaWorksModel" "varWhole" "[I", Cond.fieldLink RX12 110 "OptimaWorksModel" "kind" "[I", Cond.fieldLink RX12 113 "OptimaWorksModel" "partA" "[I", Cond.fieldLink RX12 116 "OptimaWorksModel" "partB" "[I", Cond.fieldLink RX12 119 "OptimaWorksModel" "partC" "[I", Cond.fieldLink RX12 122 "OptimaWorksModel" "where" "[I", Cond.fieldLink RX12 125 "OptimaWorksModel" "firstA" "[I", Cond.fieldLink RX12 128 "OptimaWorksModel" "firstB" "[I", Cond.fieldLink RX12 131 "OptimaWorksModel" "bindOne" "[I", Cond.fieldLink RX12 134 "OptimaWorksModel" "bindTwo" "[I"]
def wsX12_init_r3 : List Cond := [Cond.fieldLink RX12 137 "OptimaWorksModel" "bindAt" "[I", Cond.fieldLink RX12 140 "OptimaWorksModel" "what" "[I", Cond.fieldLink RX12 143 "OptimaWorksModel" "step" "[I", Cond.fieldLink RX12 146 "OptimaWorksModel" "got1" "[I", Cond.fieldLink RX12 149 "OptimaWorksModel" "got2" "[I", Cond.fieldLink RX12 152 "OptimaWorksModel" "sign1" "[I", Cond.fieldLink RX12 155 "OptimaWorksModel" "sign2" "[I", Cond.fieldLink RX12 158 "OptimaWorksModel" "at1" "[I", Cond.fieldLink RX12 161 "OptimaWorksModel" "at2" "[I", Cond.fieldLink RX12 164 "OptimaWorksModel" "begins" "[I", Cond.fieldLink RX12 167 "OptimaWorksModel" "extra" "[I", Cond.fieldLink RX12 170 "OptimaWorksModel" "top" "[I", Cond.fieldLink RX12 173 "OptimaWorksModel" "under" "[I", Cond.fieldLink RX12 176 "OptimaWorksModel" "env" "[I", Cond.fieldLink RX12 179 "OptimaWorksModel" "frame" "[I", Cond.fieldLink RX12 182 "OptimaWorksModel" "stage" "[I", Cond.fieldLink RX12 185 "OptimaWorksModel" "loopA" "[I", Cond.fieldLink RX12 188 "OptimaWorksModel" "loopB" "[I", Cond.fieldLink RX12 191 "OptimaWorksModel" "low" "[I", Cond.fieldLink RX12 194 "OptimaWorksModel" "high" "[I", Cond.fieldLink RX12 197 "OptimaWorksModel" "whole" "[I", Cond.fieldLink RX12 200 "OptimaWorksModel" "wayMany" "[I", Cond.fieldLink RX12 203 "OptimaWorksModel" "wayNumber" "[I", Cond.fieldLink RX12 206 "OptimaWorksModel" "waySign" "[I"]
def wsX12_init_r4 : List Cond := [Cond.fieldLink RX12 209 "OptimaWorksModel" "differentSet" "[I", Cond.fieldLink RX12 212 "OptimaWorksModel" "goalTop" "[I", Cond.fieldLink RX12 215 "OptimaWorksModel" "goalUnder" "[I", Cond.fieldLink RX12 218 "OptimaWorksModel" "goalMax" "[I", Cond.fieldLink RX12 221 "OptimaWorksModel" "partNode" "[I", Cond.fieldLink RX12 224 "OptimaWorksModel" "partFirst" "[I", Cond.fieldLink RX12 227 "OptimaWorksModel" "partSign" "[I", Cond.fieldLink RX12 230 "OptimaWorksModel" "chosen" "[I", Cond.fieldLink RX12 233 "OptimaWorksModel" "value" "[I", Cond.fieldLink RX12 236 "OptimaWorksModel" "needKind" "[I", Cond.fieldLink RX12 239 "OptimaWorksModel" "needOf" "[I", Cond.fieldLink RX12 242 "OptimaWorksModel" "needKept" "[I", Cond.fieldLink RX12 245 "OptimaWorksModel" "needColumn" "[I", Cond.fieldLink RX12 248 "OptimaWorksModel" "out" "[B", Cond.fieldLink RX12 251 "OptimaWorksModel" "digits" "[I", Cond.fieldLink RX12 254 "OptimaWorksModel" "ready" "[I", Cond.fieldLink RX12 257 "OptimaWorksModel" "domain" "[I", Cond.fieldLink RX12 260 "OptimaWorksModel" "now" "[I", Cond.fieldLink RX12 263 "OptimaWorksModel" "ruleKind" "[I", Cond.fieldLink RX12 266 "OptimaWorksModel" "ruleA" "[I", Cond.fieldLink RX12 269 "OptimaWorksModel" "ruleB" "[I", Cond.fieldLink RX12 272 "OptimaWorksModel" "ruleC" "[I", Cond.fieldLink RX12 275 "OptimaWorksModel" "rulePairs" "[I", Cond.fieldLink RX12 278 "OptimaWorksModel" "pairs" "[I"]
def wsX12_init_r5 : List Cond := [Cond.fieldLink RX12 281 "OptimaWorksModel" "with" "[I", Cond.fieldLink RX12 284 "OptimaWorksModel" "taker" "[I", Cond.fieldLink RX12 287 "OptimaWorksModel" "came" "[I", Cond.fieldLink RX12 290 "OptimaWorksModel" "looked" "[I", Cond.fieldLink RX12 293 "OptimaWorksModel" "rowValue" "[I", Cond.constant RX12 296 (50000), Cond.fieldLink RX12 297 "OptimaWorksModel" "listedRow" "[I", Cond.fieldLink RX12 300 "OptimaWorksModel" "listedMany" "I", Cond.fieldLink RX12 303 "OptimaWorksModel" "wants" "[I", Cond.fieldLink RX12 306 "OptimaWorksModel" "wantsNot" "[I", Cond.fieldLink RX12 309 "OptimaWorksModel" "weights" "[I", Cond.fieldLink RX12 312 "OptimaWorksModel" "arcFrom" "[I", Cond.fieldLink RX12 315 "OptimaWorksModel" "arcTo" "[I", Cond.fieldLink RX12 318 "OptimaWorksModel" "arcRoom" "[I", Cond.fieldLink RX12 321 "OptimaWorksModel" "arcCost" "[I", Cond.fieldLink RX12 324 "OptimaWorksModel" "flow" "[I", Cond.fieldLink RX12 327 "OptimaWorksModel" "price" "[I", Cond.fieldLink RX12 330 "OptimaWorksModel" "by" "[I", Cond.fieldLink RX12 333 "OptimaWorksModel" "far" "[I", Cond.fieldLink RX12 336 "OptimaWorksModel" "joined" "[I", Cond.fieldLink RX12 339 "OptimaWorksModel" "member1" "[I", Cond.fieldLink RX12 342 "OptimaWorksModel" "order" "[I", Cond.fieldLink RX12 345 "OptimaWorksModel" "tourBest" "[I"]
def wsX12_init : List Cond := .code yX12_init cX12_init 1 none :: ((wsX12_init_r1 ++ (wsX12_init_r2 ++ (wsX12_init_r3 ++ (wsX12_init_r4 ++ wsX12_init_r5)))) ++ wsX120)
theorem dX12_init_0 : decode cX12_init 0 = .ok (.aload_n 0, 1) := dk_42 (by decide +kernel)
theorem dX12_init_1 : decode cX12_init 1 = .ok (.invokespecial 1, 3) := dk_183 (by decide +kernel)
theorem dX12_init_4 : decode cX12_init 4 = .ok (.aload_n 0, 1) := dk_42 (by decide +kernel)
theorem dX12_init_5 : decode cX12_init 5 = .ok (.sipush 26400, 3) := dk_17 (by decide +kernel)
theorem dX12_init_8 : decode cX12_init 8 = .ok (.newarray .int, 2) := by decide +kernel
theorem dX12_init_10 : decode cX12_init 10 = .ok (.putfield 7, 3) := dk_181 (by decide +kernel)
theorem dX12_init_13 : decode cX12_init 13 = .ok (.aload_n 0, 1) := dk_42 (by decide +kernel)
theorem dX12_init_14 : decode cX12_init 14 = .ok (.bipush 48, 2) := dk_16 (by decide +kernel)
theorem dX12_init_16 : decode cX12_init 16 = .ok (.newarray .long, 2) := by decide +kernel
theorem dX12_init_18 : decode cX12_init 18 = .ok (.putfield 13, 3) := dk_181 (by decide +kernel)
theorem dX12_init_21 : decode cX12_init 21 = .ok (.aload_n 0, 1) := dk_42 (by decide +kernel)
theorem dX12_init_22 : decode cX12_init 22 = .ok (.bipush 60, 2) := dk_16 (by decide +kernel)
theorem dX12_init_24 : decode cX12_init 24 = .ok (.newarray .int, 2) := by decide +kernel
theorem dX12_init_26 : decode cX12_init 26 = .ok (.putfield 17, 3) := dk_181 (by decide +kernel)
theorem dX12_init_29 : decode cX12_init 29 = .ok (.aload_n 0, 1) := dk_42 (by decide +kernel)
theorem dX12_init_30 : decode cX12_init 30 = .ok (.bipush 30, 2) := dk_16 (by decide +kernel)
theorem dX12_init_32 : decode cX12_init 32 = .ok (.newarray .int, 2) := by decide +kernel
theorem dX12_init_34 : decode cX12_init 34 = .ok (.putfield 20, 3) := dk_181 (by decide +kernel)
theorem dX12_init_37 : decode cX12_init 37 = .ok (.aload_n 0, 1) := dk_42 (by decide +kernel)
theorem dX12_init_38 : decode cX12_init 38 = .ok (.bipush 46, 2) := dk_16 (by decide +kernel)
theorem dX12_init_40 : decode cX12_init 40 = .ok (.newarray .int, 2) := by decide +kernel
theorem dX12_init_42 : decode cX12_init 42 = .ok (.putfield 23, 3) := dk_181 (by decide +kernel)
theorem dX12_init_45 : decode cX12_init 45 = .ok (.aload_n 0, 1) := dk_42 (by decide +kernel)
theorem dX12_init_46 : decode cX12_init 46 = .ok (.bipush 60, 2) := dk_16 (by decide +kernel)
theorem dX12_init_48 : decode cX12_init 48 = .ok (.newarray .int, 2) := by decide +kernel
theorem dX12_init_50 : decode cX12_init 50 = .ok (.putfield 26, 3) := dk_181 (by decide +kernel)
theorem dX12_init_53 : decode cX12_init 53 = .ok (.aload_n 0, 1) := dk_42 (by decide +kernel)
theorem dX12_init_54 : decode cX12_init 54 = .ok (.bipush 46, 2) := dk_16 (by decide +kernel)
theorem dX12_init_56 : decode cX12_init 56 = .ok (.newarray .boolean, 2) := by decide +kernel
theorem dX12_init_58 : decode cX12_init 58 = .ok (.putfield 29, 3) := dk_181 (by decide +kernel)
theorem dX12_init_61 : decode cX12_init 61 = .ok (.aload_n 0, 1) := dk_42 (by decide +kernel)
theorem dX12_init_62 : decode cX12_init 62 = .ok (.sipush 1000, 3) := dk_17 (by decide +kernel)
theorem dX12_init_65 : decode cX12_init 65 = .ok (.newarray .long, 2) := by decide +kernel
theorem dX12_init_67 : decode cX12_init 67 = .ok (.putfield 33, 3) := dk_181 (by decide +kernel)
theorem dX12_init_70 : decode cX12_init 70 = .ok (.aload_n 0, 1) := dk_42 (by decide +kernel)
theorem dX12_init_71 : decode cX12_init 71 = .ok (.sipush 1000, 3) := dk_17 (by decide +kernel)
theorem dX12_init_74 : decode cX12_init 74 = .ok (.newarray .long, 2) := by decide +kernel
theorem dX12_init_76 : decode cX12_init 76 = .ok (.putfield 36, 3) := dk_181 (by decide +kernel)
theorem dX12_init_79 : decode cX12_init 79 = .ok (.aload_n 0, 1) := dk_42 (by decide +kernel)
theorem dX12_init_80 : decode cX12_init 80 = .ok (.sipush 4000, 3) := dk_17 (by decide +kernel)
theorem dX12_init_83 : decode cX12_init 83 = .ok (.newarray .byte, 2) := by decide +kernel
theorem dX12_init_85 : decode cX12_init 85 = .ok (.putfield 39, 3) := dk_181 (by decide +kernel)
theorem dX12_init_88 : decode cX12_init 88 = .ok (.aload_n 0, 1) := dk_42 (by decide +kernel)
theorem dX12_init_89 : decode cX12_init 89 = .ok (.iconst (-1), 1) := dk_2 (by decide +kernel)
theorem dX12_init_90 : decode cX12_init 90 = .ok (.putfield 43, 3) := dk_181 (by decide +kernel)
theorem dX12_init_93 : decode cX12_init 93 = .ok (.aload_n 0, 1) := dk_42 (by decide +kernel)
theorem dX12_init_94 : decode cX12_init 94 = .ok (.iconst (-1), 1) := dk_2 (by decide +kernel)
theorem dX12_init_95 : decode cX12_init 95 = .ok (.putfield 47, 3) := dk_181 (by decide +kernel)
theorem dX12_init_98 : decode cX12_init 98 = .ok (.aload_n 0, 1) := dk_42 (by decide +kernel)
theorem dX12_init_99 : decode cX12_init 99 = .ok (.bipush 44, 2) := dk_16 (by decide +kernel)
theorem dX12_init_101 : decode cX12_init 101 = .ok (.newarray .int, 2) := by decide +kernel
theorem dX12_init_103 : decode cX12_init 103 = .ok (.putfield 50, 3) := dk_181 (by decide +kernel)
theorem dX12_init_106 : decode cX12_init 106 = .ok (.aload_n 0, 1) := dk_42 (by decide +kernel)
theorem dX12_init_107 : decode cX12_init 107 = .ok (.bipush 44, 2) := dk_16 (by decide +kernel)
theorem dX12_init_109 : decode cX12_init 109 = .ok (.newarray .int, 2) := by decide +kernel
theorem dX12_init_111 : decode cX12_init 111 = .ok (.putfield 53, 3) := dk_181 (by decide +kernel)
theorem dX12_init_114 : decode cX12_init 114 = .ok (.aload_n 0, 1) := dk_42 (by decide +kernel)
theorem dX12_init_115 : decode cX12_init 115 = .ok (.bipush 44, 2) := dk_16 (by decide +kernel)
theorem dX12_init_117 : decode cX12_init 117 = .ok (.newarray .int, 2) := by decide +kernel
theorem dX12_init_119 : decode cX12_init 119 = .ok (.putfield 56, 3) := dk_181 (by decide +kernel)
theorem dX12_init_122 : decode cX12_init 122 = .ok (.aload_n 0, 1) := dk_42 (by decide +kernel)
theorem dX12_init_123 : decode cX12_init 123 = .ok (.bipush 44, 2) := dk_16 (by decide +kernel)
theorem dX12_init_125 : decode cX12_init 125 = .ok (.newarray .int, 2) := by decide +kernel
theorem dX12_init_127 : decode cX12_init 127 = .ok (.putfield 59, 3) := dk_181 (by decide +kernel)
theorem dX12_init_130 : decode cX12_init 130 = .ok (.aload_n 0, 1) := dk_42 (by decide +kernel)
theorem dX12_init_131 : decode cX12_init 131 = .ok (.bipush 60, 2) := dk_16 (by decide +kernel)
theorem dX12_init_133 : decode cX12_init 133 = .ok (.newarray .int, 2) := by decide +kernel
theorem dX12_init_135 : decode cX12_init 135 = .ok (.putfield 62, 3) := dk_181 (by decide +kernel)
theorem dX12_init_138 : decode cX12_init 138 = .ok (.aload_n 0, 1) := dk_42 (by decide +kernel)
theorem dX12_init_139 : decode cX12_init 139 = .ok (.bipush 60, 2) := dk_16 (by decide +kernel)
theorem dX12_init_141 : decode cX12_init 141 = .ok (.newarray .int, 2) := by decide +kernel
theorem dX12_init_143 : decode cX12_init 143 = .ok (.putfield 65, 3) := dk_181 (by decide +kernel)
theorem dX12_init_146 : decode cX12_init 146 = .ok (.aload_n 0, 1) := dk_42 (by decide +kernel)
theorem dX12_init_147 : decode cX12_init 147 = .ok (.iconst (-1), 1) := dk_2 (by decide +kernel)
theorem dX12_init_148 : decode cX12_init 148 = .ok (.putfield 68, 3) := dk_181 (by decide +kernel)
theorem dX12_init_151 : decode cX12_init 151 = .ok (.aload_n 0, 1) := dk_42 (by decide +kernel)
theorem dX12_init_152 : decode cX12_init 152 = .ok (.bipush 44, 2) := dk_16 (by decide +kernel)
theorem dX12_init_154 : decode cX12_init 154 = .ok (.newarray .int, 2) := by decide +kernel
theorem dX12_init_156 : decode cX12_init 156 = .ok (.putfield 71, 3) := dk_181 (by decide +kernel)
theorem dX12_init_159 : decode cX12_init 159 = .ok (.aload_n 0, 1) := dk_42 (by decide +kernel)
theorem dX12_init_160 : decode cX12_init 160 = .ok (.bipush 44, 2) := dk_16 (by decide +kernel)
theorem dX12_init_162 : decode cX12_init 162 = .ok (.newarray .int, 2) := by decide +kernel
theorem dX12_init_164 : decode cX12_init 164 = .ok (.putfield 74, 3) := dk_181 (by decide +kernel)
theorem dX12_init_167 : decode cX12_init 167 = .ok (.aload_n 0, 1) := dk_42 (by decide +kernel)
theorem dX12_init_168 : decode cX12_init 168 = .ok (.bipush 44, 2) := dk_16 (by decide +kernel)
theorem dX12_init_170 : decode cX12_init 170 = .ok (.newarray .int, 2) := by decide +kernel
theorem dX12_init_172 : decode cX12_init 172 = .ok (.putfield 77, 3) := dk_181 (by decide +kernel)
theorem dX12_init_175 : decode cX12_init 175 = .ok (.aload_n 0, 1) := dk_42 (by decide +kernel)
theorem dX12_init_176 : decode cX12_init 176 = .ok (.bipush 44, 2) := dk_16 (by decide +kernel)
theorem dX12_init_178 : decode cX12_init 178 = .ok (.newarray .int, 2) := by decide +kernel
theorem dX12_init_180 : decode cX12_init 180 = .ok (.putfield 80, 3) := dk_181 (by decide +kernel)
theorem dX12_init_183 : decode cX12_init 183 = .ok (.aload_n 0, 1) := dk_42 (by decide +kernel)
theorem dX12_init_184 : decode cX12_init 184 = .ok (.bipush 44, 2) := dk_16 (by decide +kernel)
theorem dX12_init_186 : decode cX12_init 186 = .ok (.newarray .int, 2) := by decide +kernel
theorem dX12_init_188 : decode cX12_init 188 = .ok (.putfield 83, 3) := dk_181 (by decide +kernel)
theorem dX12_init_191 : decode cX12_init 191 = .ok (.aload_n 0, 1) := dk_42 (by decide +kernel)
theorem dX12_init_192 : decode cX12_init 192 = .ok (.bipush 44, 2) := dk_16 (by decide +kernel)
theorem dX12_init_194 : decode cX12_init 194 = .ok (.newarray .int, 2) := by decide +kernel
theorem dX12_init_196 : decode cX12_init 196 = .ok (.putfield 86, 3) := dk_181 (by decide +kernel)
theorem dX12_init_199 : decode cX12_init 199 = .ok (.aload_n 0, 1) := dk_42 (by decide +kernel)
theorem dX12_init_200 : decode cX12_init 200 = .ok (.sipush 6400, 3) := dk_17 (by decide +kernel)
theorem dX12_init_203 : decode cX12_init 203 = .ok (.newarray .int, 2) := by decide +kernel
theorem dX12_init_205 : decode cX12_init 205 = .ok (.putfield 89, 3) := dk_181 (by decide +kernel)
theorem dX12_init_208 : decode cX12_init 208 = .ok (.aload_n 0, 1) := dk_42 (by decide +kernel)
theorem dX12_init_209 : decode cX12_init 209 = .ok (.sipush 6400, 3) := dk_17 (by decide +kernel)
theorem dX12_init_212 : decode cX12_init 212 = .ok (.newarray .int, 2) := by decide +kernel
theorem dX12_init_214 : decode cX12_init 214 = .ok (.putfield 92, 3) := dk_181 (by decide +kernel)
theorem dX12_init_217 : decode cX12_init 217 = .ok (.aload_n 0, 1) := dk_42 (by decide +kernel)
theorem dX12_init_218 : decode cX12_init 218 = .ok (.bipush 44, 2) := dk_16 (by decide +kernel)
theorem dX12_init_220 : decode cX12_init 220 = .ok (.newarray .int, 2) := by decide +kernel
theorem dX12_init_222 : decode cX12_init 222 = .ok (.putfield 95, 3) := dk_181 (by decide +kernel)
theorem dX12_init_225 : decode cX12_init 225 = .ok (.aload_n 0, 1) := dk_42 (by decide +kernel)
theorem dX12_init_226 : decode cX12_init 226 = .ok (.bipush 44, 2) := dk_16 (by decide +kernel)
theorem dX12_init_228 : decode cX12_init 228 = .ok (.newarray .int, 2) := by decide +kernel
theorem dX12_init_230 : decode cX12_init 230 = .ok (.putfield 98, 3) := dk_181 (by decide +kernel)
theorem dX12_init_233 : decode cX12_init 233 = .ok (.aload_n 0, 1) := dk_42 (by decide +kernel)
theorem dX12_init_234 : decode cX12_init 234 = .ok (.bipush 44, 2) := dk_16 (by decide +kernel)
theorem dX12_init_236 : decode cX12_init 236 = .ok (.newarray .int, 2) := by decide +kernel
theorem dX12_init_238 : decode cX12_init 238 = .ok (.putfield 101, 3) := dk_181 (by decide +kernel)
theorem dX12_init_241 : decode cX12_init 241 = .ok (.aload_n 0, 1) := dk_42 (by decide +kernel)
theorem dX12_init_242 : decode cX12_init 242 = .ok (.bipush 44, 2) := dk_16 (by decide +kernel)
theorem dX12_init_244 : decode cX12_init 244 = .ok (.newarray .int, 2) := by decide +kernel
theorem dX12_init_246 : decode cX12_init 246 = .ok (.putfield 104, 3) := dk_181 (by decide +kernel)
theorem dX12_init_249 : decode cX12_init 249 = .ok (.aload_n 0, 1) := dk_42 (by decide +kernel)
theorem dX12_init_250 : decode cX12_init 250 = .ok (.bipush 44, 2) := dk_16 (by decide +kernel)
theorem dX12_init_252 : decode cX12_init 252 = .ok (.newarray .int, 2) := by decide +kernel
theorem dX12_init_254 : decode cX12_init 254 = .ok (.putfield 107, 3) := dk_181 (by decide +kernel)
theorem dX12_init_257 : decode cX12_init 257 = .ok (.aload_n 0, 1) := dk_42 (by decide +kernel)
theorem dX12_init_258 : decode cX12_init 258 = .ok (.sipush 4200, 3) := dk_17 (by decide +kernel)
theorem dX12_init_261 : decode cX12_init 261 = .ok (.newarray .int, 2) := by decide +kernel
theorem dX12_init_263 : decode cX12_init 263 = .ok (.putfield 110, 3) := dk_181 (by decide +kernel)
theorem dX12_init_266 : decode cX12_init 266 = .ok (.aload_n 0, 1) := dk_42 (by decide +kernel)
theorem dX12_init_267 : decode cX12_init 267 = .ok (.sipush 4200, 3) := dk_17 (by decide +kernel)
theorem dX12_init_270 : decode cX12_init 270 = .ok (.newarray .int, 2) := by decide +kernel
theorem dX12_init_272 : decode cX12_init 272 = .ok (.putfield 113, 3) := dk_181 (by decide +kernel)
theorem dX12_init_275 : decode cX12_init 275 = .ok (.aload_n 0, 1) := dk_42 (by decide +kernel)
theorem dX12_init_276 : decode cX12_init 276 = .ok (.sipush 4200, 3) := dk_17 (by decide +kernel)
theorem dX12_init_279 : decode cX12_init 279 = .ok (.newarray .int, 2) := by decide +kernel
theorem dX12_init_281 : decode cX12_init 281 = .ok (.putfield 116, 3) := dk_181 (by decide +kernel)
theorem dX12_init_284 : decode cX12_init 284 = .ok (.aload_n 0, 1) := dk_42 (by decide +kernel)
theorem dX12_init_285 : decode cX12_init 285 = .ok (.sipush 4200, 3) := dk_17 (by decide +kernel)
theorem dX12_init_288 : decode cX12_init 288 = .ok (.newarray .int, 2) := by decide +kernel
theorem dX12_init_290 : decode cX12_init 290 = .ok (.putfield 119, 3) := dk_181 (by decide +kernel)
theorem dX12_init_293 : decode cX12_init 293 = .ok (.aload_n 0, 1) := dk_42 (by decide +kernel)
theorem dX12_init_294 : decode cX12_init 294 = .ok (.sipush 4200, 3) := dk_17 (by decide +kernel)
theorem dX12_init_297 : decode cX12_init 297 = .ok (.newarray .int, 2) := by decide +kernel
theorem dX12_init_299 : decode cX12_init 299 = .ok (.putfield 122, 3) := dk_181 (by decide +kernel)
theorem dX12_init_302 : decode cX12_init 302 = .ok (.aload_n 0, 1) := dk_42 (by decide +kernel)
theorem dX12_init_303 : decode cX12_init 303 = .ok (.sipush 4200, 3) := dk_17 (by decide +kernel)
theorem dX12_init_306 : decode cX12_init 306 = .ok (.newarray .int, 2) := by decide +kernel
theorem dX12_init_308 : decode cX12_init 308 = .ok (.putfield 125, 3) := dk_181 (by decide +kernel)
theorem dX12_init_311 : decode cX12_init 311 = .ok (.aload_n 0, 1) := dk_42 (by decide +kernel)
theorem dX12_init_312 : decode cX12_init 312 = .ok (.sipush 4200, 3) := dk_17 (by decide +kernel)
theorem dX12_init_315 : decode cX12_init 315 = .ok (.newarray .int, 2) := by decide +kernel
theorem dX12_init_317 : decode cX12_init 317 = .ok (.putfield 128, 3) := dk_181 (by decide +kernel)
theorem dX12_init_320 : decode cX12_init 320 = .ok (.aload_n 0, 1) := dk_42 (by decide +kernel)
theorem dX12_init_321 : decode cX12_init 321 = .ok (.sipush 900, 3) := dk_17 (by decide +kernel)
theorem dX12_init_324 : decode cX12_init 324 = .ok (.newarray .int, 2) := by decide +kernel
theorem dX12_init_326 : decode cX12_init 326 = .ok (.putfield 131, 3) := dk_181 (by decide +kernel)
theorem dX12_init_329 : decode cX12_init 329 = .ok (.aload_n 0, 1) := dk_42 (by decide +kernel)
theorem dX12_init_330 : decode cX12_init 330 = .ok (.sipush 900, 3) := dk_17 (by decide +kernel)
theorem dX12_init_333 : decode cX12_init 333 = .ok (.newarray .int, 2) := by decide +kernel
theorem dX12_init_335 : decode cX12_init 335 = .ok (.putfield 134, 3) := dk_181 (by decide +kernel)
theorem dX12_init_338 : decode cX12_init 338 = .ok (.aload_n 0, 1) := dk_42 (by decide +kernel)
theorem dX12_init_339 : decode cX12_init 339 = .ok (.sipush 900, 3) := dk_17 (by decide +kernel)
theorem dX12_init_342 : decode cX12_init 342 = .ok (.newarray .int, 2) := by decide +kernel
theorem dX12_init_344 : decode cX12_init 344 = .ok (.putfield 137, 3) := dk_181 (by decide +kernel)
theorem dX12_init_347 : decode cX12_init 347 = .ok (.aload_n 0, 1) := dk_42 (by decide +kernel)
theorem dX12_init_348 : decode cX12_init 348 = .ok (.bipush 120, 2) := dk_16 (by decide +kernel)
theorem dX12_init_350 : decode cX12_init 350 = .ok (.newarray .int, 2) := by decide +kernel
theorem dX12_init_352 : decode cX12_init 352 = .ok (.putfield 140, 3) := dk_181 (by decide +kernel)
theorem dX12_init_355 : decode cX12_init 355 = .ok (.aload_n 0, 1) := dk_42 (by decide +kernel)
theorem dX12_init_356 : decode cX12_init 356 = .ok (.bipush 120, 2) := dk_16 (by decide +kernel)
theorem dX12_init_358 : decode cX12_init 358 = .ok (.newarray .int, 2) := by decide +kernel
theorem dX12_init_360 : decode cX12_init 360 = .ok (.putfield 143, 3) := dk_181 (by decide +kernel)
theorem dX12_init_363 : decode cX12_init 363 = .ok (.aload_n 0, 1) := dk_42 (by decide +kernel)
theorem dX12_init_364 : decode cX12_init 364 = .ok (.bipush 120, 2) := dk_16 (by decide +kernel)
theorem dX12_init_366 : decode cX12_init 366 = .ok (.newarray .int, 2) := by decide +kernel
theorem dX12_init_368 : decode cX12_init 368 = .ok (.putfield 146, 3) := dk_181 (by decide +kernel)
theorem dX12_init_371 : decode cX12_init 371 = .ok (.aload_n 0, 1) := dk_42 (by decide +kernel)
theorem dX12_init_372 : decode cX12_init 372 = .ok (.bipush 120, 2) := dk_16 (by decide +kernel)
theorem dX12_init_374 : decode cX12_init 374 = .ok (.newarray .int, 2) := by decide +kernel
theorem dX12_init_376 : decode cX12_init 376 = .ok (.putfield 149, 3) := dk_181 (by decide +kernel)
theorem dX12_init_379 : decode cX12_init 379 = .ok (.aload_n 0, 1) := dk_42 (by decide +kernel)
theorem dX12_init_380 : decode cX12_init 380 = .ok (.bipush 120, 2) := dk_16 (by decide +kernel)
theorem dX12_init_382 : decode cX12_init 382 = .ok (.newarray .int, 2) := by decide +kernel
theorem dX12_init_384 : decode cX12_init 384 = .ok (.putfield 152, 3) := dk_181 (by decide +kernel)
theorem dX12_init_387 : decode cX12_init 387 = .ok (.aload_n 0, 1) := dk_42 (by decide +kernel)
theorem dX12_init_388 : decode cX12_init 388 = .ok (.bipush 120, 2) := dk_16 (by decide +kernel)
theorem dX12_init_390 : decode cX12_init 390 = .ok (.newarray .int, 2) := by decide +kernel
theorem dX12_init_392 : decode cX12_init 392 = .ok (.putfield 155, 3) := dk_181 (by decide +kernel)
theorem dX12_init_395 : decode cX12_init 395 = .ok (.aload_n 0, 1) := dk_42 (by decide +kernel)
theorem dX12_init_396 : decode cX12_init 396 = .ok (.bipush 120, 2) := dk_16 (by decide +kernel)
theorem dX12_init_398 : decode cX12_init 398 = .ok (.newarray .int, 2) := by decide +kernel
theorem dX12_init_400 : decode cX12_init 400 = .ok (.putfield 158, 3) := dk_181 (by decide +kernel)
theorem dX12_init_403 : decode cX12_init 403 = .ok (.aload_n 0, 1) := dk_42 (by decide +kernel)
theorem dX12_init_404 : decode cX12_init 404 = .ok (.bipush 120, 2) := dk_16 (by decide +kernel)
theorem dX12_init_406 : decode cX12_init 406 = .ok (.newarray .int, 2) := by decide +kernel
theorem dX12_init_408 : decode cX12_init 408 = .ok (.putfield 161, 3) := dk_181 (by decide +kernel)
theorem dX12_init_411 : decode cX12_init 411 = .ok (.aload_n 0, 1) := dk_42 (by decide +kernel)
theorem dX12_init_412 : decode cX12_init 412 = .ok (.bipush 120, 2) := dk_16 (by decide +kernel)
theorem dX12_init_414 : decode cX12_init 414 = .ok (.newarray .int, 2) := by decide +kernel
theorem dX12_init_416 : decode cX12_init 416 = .ok (.putfield 164, 3) := dk_181 (by decide +kernel)
theorem dX12_init_419 : decode cX12_init 419 = .ok (.aload_n 0, 1) := dk_42 (by decide +kernel)
theorem dX12_init_420 : decode cX12_init 420 = .ok (.bipush 120, 2) := dk_16 (by decide +kernel)
theorem dX12_init_422 : decode cX12_init 422 = .ok (.newarray .int, 2) := by decide +kernel
theorem dX12_init_424 : decode cX12_init 424 = .ok (.putfield 167, 3) := dk_181 (by decide +kernel)
theorem dX12_init_427 : decode cX12_init 427 = .ok (.aload_n 0, 1) := dk_42 (by decide +kernel)
theorem dX12_init_428 : decode cX12_init 428 = .ok (.sipush 900, 3) := dk_17 (by decide +kernel)
theorem dX12_init_431 : decode cX12_init 431 = .ok (.newarray .int, 2) := by decide +kernel
theorem dX12_init_433 : decode cX12_init 433 = .ok (.putfield 170, 3) := dk_181 (by decide +kernel)
theorem dX12_init_436 : decode cX12_init 436 = .ok (.aload_n 0, 1) := dk_42 (by decide +kernel)
theorem dX12_init_437 : decode cX12_init 437 = .ok (.sipush 900, 3) := dk_17 (by decide +kernel)
theorem dX12_init_440 : decode cX12_init 440 = .ok (.newarray .int, 2) := by decide +kernel
theorem dX12_init_442 : decode cX12_init 442 = .ok (.putfield 173, 3) := dk_181 (by decide +kernel)
theorem dX12_init_445 : decode cX12_init 445 = .ok (.aload_n 0, 1) := dk_42 (by decide +kernel)
theorem dX12_init_446 : decode cX12_init 446 = .ok (.bipush 60, 2) := dk_16 (by decide +kernel)
theorem dX12_init_448 : decode cX12_init 448 = .ok (.newarray .int, 2) := by decide +kernel
theorem dX12_init_450 : decode cX12_init 450 = .ok (.putfield 176, 3) := dk_181 (by decide +kernel)
theorem dX12_init_453 : decode cX12_init 453 = .ok (.aload_n 0, 1) := dk_42 (by decide +kernel)
theorem dX12_init_454 : decode cX12_init 454 = .ok (.sipush 4300, 3) := dk_17 (by decide +kernel)
theorem dX12_init_457 : decode cX12_init 457 = .ok (.newarray .int, 2) := by decide +kernel
theorem dX12_init_459 : decode cX12_init 459 = .ok (.putfield 179, 3) := dk_181 (by decide +kernel)
theorem dX12_init_462 : decode cX12_init 462 = .ok (.aload_n 0, 1) := dk_42 (by decide +kernel)
theorem dX12_init_463 : decode cX12_init 463 = .ok (.sipush 4300, 3) := dk_17 (by decide +kernel)
theorem dX12_init_466 : decode cX12_init 466 = .ok (.newarray .int, 2) := by decide +kernel
theorem dX12_init_468 : decode cX12_init 468 = .ok (.putfield 182, 3) := dk_181 (by decide +kernel)
theorem dX12_init_471 : decode cX12_init 471 = .ok (.aload_n 0, 1) := dk_42 (by decide +kernel)
theorem dX12_init_472 : decode cX12_init 472 = .ok (.sipush 4300, 3) := dk_17 (by decide +kernel)
theorem dX12_init_475 : decode cX12_init 475 = .ok (.newarray .int, 2) := by decide +kernel
theorem dX12_init_477 : decode cX12_init 477 = .ok (.putfield 185, 3) := dk_181 (by decide +kernel)
theorem dX12_init_480 : decode cX12_init 480 = .ok (.aload_n 0, 1) := dk_42 (by decide +kernel)
theorem dX12_init_481 : decode cX12_init 481 = .ok (.sipush 4300, 3) := dk_17 (by decide +kernel)
theorem dX12_init_484 : decode cX12_init 484 = .ok (.newarray .int, 2) := by decide +kernel
theorem dX12_init_486 : decode cX12_init 486 = .ok (.putfield 188, 3) := dk_181 (by decide +kernel)
theorem dX12_init_489 : decode cX12_init 489 = .ok (.aload_n 0, 1) := dk_42 (by decide +kernel)
theorem dX12_init_490 : decode cX12_init 490 = .ok (.bipush 9, 2) := dk_16 (by decide +kernel)
theorem dX12_init_492 : decode cX12_init 492 = .ok (.newarray .int, 2) := by decide +kernel
theorem dX12_init_494 : decode cX12_init 494 = .ok (.putfield 191, 3) := dk_181 (by decide +kernel)
theorem dX12_init_497 : decode cX12_init 497 = .ok (.aload_n 0, 1) := dk_42 (by decide +kernel)
theorem dX12_init_498 : decode cX12_init 498 = .ok (.bipush 9, 2) := dk_16 (by decide +kernel)
theorem dX12_init_500 : decode cX12_init 500 = .ok (.newarray .int, 2) := by decide +kernel
theorem dX12_init_502 : decode cX12_init 502 = .ok (.putfield 194, 3) := dk_181 (by decide +kernel)
theorem dX12_init_505 : decode cX12_init 505 = .ok (.aload_n 0, 1) := dk_42 (by decide +kernel)
theorem dX12_init_506 : decode cX12_init 506 = .ok (.bipush 9, 2) := dk_16 (by decide +kernel)
theorem dX12_init_508 : decode cX12_init 508 = .ok (.newarray .int, 2) := by decide +kernel
theorem dX12_init_510 : decode cX12_init 510 = .ok (.putfield 197, 3) := dk_181 (by decide +kernel)
theorem dX12_init_513 : decode cX12_init 513 = .ok (.aload_n 0, 1) := dk_42 (by decide +kernel)
theorem dX12_init_514 : decode cX12_init 514 = .ok (.bipush 13, 2) := dk_16 (by decide +kernel)
theorem dX12_init_516 : decode cX12_init 516 = .ok (.newarray .int, 2) := by decide +kernel
theorem dX12_init_518 : decode cX12_init 518 = .ok (.putfield 200, 3) := dk_181 (by decide +kernel)
theorem dX12_init_521 : decode cX12_init 521 = .ok (.aload_n 0, 1) := dk_42 (by decide +kernel)
theorem dX12_init_522 : decode cX12_init 522 = .ok (.sipush 351, 3) := dk_17 (by decide +kernel)
theorem dX12_init_525 : decode cX12_init 525 = .ok (.newarray .int, 2) := by decide +kernel
theorem dX12_init_527 : decode cX12_init 527 = .ok (.putfield 203, 3) := dk_181 (by decide +kernel)
theorem dX12_init_530 : decode cX12_init 530 = .ok (.aload_n 0, 1) := dk_42 (by decide +kernel)
theorem dX12_init_531 : decode cX12_init 531 = .ok (.bipush 39, 2) := dk_16 (by decide +kernel)
theorem dX12_init_533 : decode cX12_init 533 = .ok (.newarray .int, 2) := by decide +kernel
theorem dX12_init_535 : decode cX12_init 535 = .ok (.putfield 206, 3) := dk_181 (by decide +kernel)
theorem dX12_init_538 : decode cX12_init 538 = .ok (.aload_n 0, 1) := dk_42 (by decide +kernel)
theorem dX12_init_539 : decode cX12_init 539 = .ok (.bipush 9, 2) := dk_16 (by decide +kernel)
theorem dX12_init_541 : decode cX12_init 541 = .ok (.newarray .int, 2) := by decide +kernel
theorem dX12_init_543 : decode cX12_init 543 = .ok (.putfield 209, 3) := dk_181 (by decide +kernel)
theorem dX12_init_546 : decode cX12_init 546 = .ok (.aload_n 0, 1) := dk_42 (by decide +kernel)
theorem dX12_init_547 : decode cX12_init 547 = .ok (.bipush 27, 2) := dk_16 (by decide +kernel)
theorem dX12_init_549 : decode cX12_init 549 = .ok (.newarray .int, 2) := by decide +kernel
theorem dX12_init_551 : decode cX12_init 551 = .ok (.putfield 212, 3) := dk_181 (by decide +kernel)
theorem dX12_init_554 : decode cX12_init 554 = .ok (.aload_n 0, 1) := dk_42 (by decide +kernel)
theorem dX12_init_555 : decode cX12_init 555 = .ok (.bipush 27, 2) := dk_16 (by decide +kernel)
theorem dX12_init_557 : decode cX12_init 557 = .ok (.newarray .int, 2) := by decide +kernel
theorem dX12_init_559 : decode cX12_init 559 = .ok (.putfield 215, 3) := dk_181 (by decide +kernel)
theorem dX12_init_562 : decode cX12_init 562 = .ok (.aload_n 0, 1) := dk_42 (by decide +kernel)
theorem dX12_init_563 : decode cX12_init 563 = .ok (.iconst 3, 1) := dk_6 (by decide +kernel)
theorem dX12_init_564 : decode cX12_init 564 = .ok (.newarray .int, 2) := by decide +kernel
theorem dX12_init_566 : decode cX12_init 566 = .ok (.putfield 218, 3) := dk_181 (by decide +kernel)
theorem dX12_init_569 : decode cX12_init 569 = .ok (.aload_n 0, 1) := dk_42 (by decide +kernel)
theorem dX12_init_570 : decode cX12_init 570 = .ok (.sipush 200, 3) := dk_17 (by decide +kernel)
theorem dX12_init_573 : decode cX12_init 573 = .ok (.newarray .int, 2) := by decide +kernel
theorem dX12_init_575 : decode cX12_init 575 = .ok (.putfield 221, 3) := dk_181 (by decide +kernel)
theorem dX12_init_578 : decode cX12_init 578 = .ok (.aload_n 0, 1) := dk_42 (by decide +kernel)
theorem dX12_init_579 : decode cX12_init 579 = .ok (.sipush 200, 3) := dk_17 (by decide +kernel)
theorem dX12_init_582 : decode cX12_init 582 = .ok (.newarray .int, 2) := by decide +kernel
theorem dX12_init_584 : decode cX12_init 584 = .ok (.putfield 224, 3) := dk_181 (by decide +kernel)
theorem dX12_init_587 : decode cX12_init 587 = .ok (.aload_n 0, 1) := dk_42 (by decide +kernel)
theorem dX12_init_588 : decode cX12_init 588 = .ok (.bipush 8, 2) := dk_16 (by decide +kernel)
theorem dX12_init_590 : decode cX12_init 590 = .ok (.newarray .int, 2) := by decide +kernel
theorem dX12_init_592 : decode cX12_init 592 = .ok (.putfield 227, 3) := dk_181 (by decide +kernel)
theorem dX12_init_595 : decode cX12_init 595 = .ok (.aload_n 0, 1) := dk_42 (by decide +kernel)
theorem dX12_init_596 : decode cX12_init 596 = .ok (.bipush 13, 2) := dk_16 (by decide +kernel)
theorem dX12_init_598 : decode cX12_init 598 = .ok (.newarray .int, 2) := by decide +kernel
theorem dX12_init_600 : decode cX12_init 600 = .ok (.putfield 230, 3) := dk_181 (by decide +kernel)
theorem dX12_init_603 : decode cX12_init 603 = .ok (.aload_n 0, 1) := dk_42 (by decide +kernel)
theorem dX12_init_604 : decode cX12_init 604 = .ok (.bipush 9, 2) := dk_16 (by decide +kernel)
theorem dX12_init_606 : decode cX12_init 606 = .ok (.newarray .int, 2) := by decide +kernel
theorem dX12_init_608 : decode cX12_init 608 = .ok (.putfield 233, 3) := dk_181 (by decide +kernel)
theorem dX12_init_611 : decode cX12_init 611 = .ok (.aload_n 0, 1) := dk_42 (by decide +kernel)
theorem dX12_init_612 : decode cX12_init 612 = .ok (.bipush 28, 2) := dk_16 (by decide +kernel)
theorem dX12_init_614 : decode cX12_init 614 = .ok (.newarray .int, 2) := by decide +kernel
theorem dX12_init_616 : decode cX12_init 616 = .ok (.putfield 236, 3) := dk_181 (by decide +kernel)
theorem dX12_init_619 : decode cX12_init 619 = .ok (.aload_n 0, 1) := dk_42 (by decide +kernel)
theorem dX12_init_620 : decode cX12_init 620 = .ok (.bipush 28, 2) := dk_16 (by decide +kernel)
theorem dX12_init_622 : decode cX12_init 622 = .ok (.newarray .int, 2) := by decide +kernel
theorem dX12_init_624 : decode cX12_init 624 = .ok (.putfield 239, 3) := dk_181 (by decide +kernel)
theorem dX12_init_627 : decode cX12_init 627 = .ok (.aload_n 0, 1) := dk_42 (by decide +kernel)
theorem dX12_init_628 : decode cX12_init 628 = .ok (.bipush 28, 2) := dk_16 (by decide +kernel)
theorem dX12_init_630 : decode cX12_init 630 = .ok (.newarray .int, 2) := by decide +kernel
theorem dX12_init_632 : decode cX12_init 632 = .ok (.putfield 242, 3) := dk_181 (by decide +kernel)
theorem dX12_init_635 : decode cX12_init 635 = .ok (.aload_n 0, 1) := dk_42 (by decide +kernel)
theorem dX12_init_636 : decode cX12_init 636 = .ok (.bipush 28, 2) := dk_16 (by decide +kernel)
theorem dX12_init_638 : decode cX12_init 638 = .ok (.newarray .int, 2) := by decide +kernel
theorem dX12_init_640 : decode cX12_init 640 = .ok (.putfield 245, 3) := dk_181 (by decide +kernel)
theorem dX12_init_643 : decode cX12_init 643 = .ok (.aload_n 0, 1) := dk_42 (by decide +kernel)
theorem dX12_init_644 : decode cX12_init 644 = .ok (.sipush 30000, 3) := dk_17 (by decide +kernel)
theorem dX12_init_647 : decode cX12_init 647 = .ok (.newarray .byte, 2) := by decide +kernel
theorem dX12_init_649 : decode cX12_init 649 = .ok (.putfield 248, 3) := dk_181 (by decide +kernel)
theorem dX12_init_652 : decode cX12_init 652 = .ok (.aload_n 0, 1) := dk_42 (by decide +kernel)
theorem dX12_init_653 : decode cX12_init 653 = .ok (.sipush 250, 3) := dk_17 (by decide +kernel)
theorem dX12_init_656 : decode cX12_init 656 = .ok (.newarray .int, 2) := by decide +kernel
theorem dX12_init_658 : decode cX12_init 658 = .ok (.putfield 251, 3) := dk_181 (by decide +kernel)
theorem dX12_init_661 : decode cX12_init 661 = .ok (.aload_n 0, 1) := dk_42 (by decide +kernel)
theorem dX12_init_662 : decode cX12_init 662 = .ok (.bipush 20, 2) := dk_16 (by decide +kernel)
theorem dX12_init_664 : decode cX12_init 664 = .ok (.newarray .int, 2) := by decide +kernel
theorem dX12_init_666 : decode cX12_init 666 = .ok (.putfield 254, 3) := dk_181 (by decide +kernel)
theorem dX12_init_669 : decode cX12_init 669 = .ok (.aload_n 0, 1) := dk_42 (by decide +kernel)
theorem dX12_init_670 : decode cX12_init 670 = .ok (.bipush 10, 2) := dk_16 (by decide +kernel)
theorem dX12_init_672 : decode cX12_init 672 = .ok (.newarray .int, 2) := by decide +kernel
theorem dX12_init_674 : decode cX12_init 674 = .ok (.putfield 257, 3) := dk_181 (by decide +kernel)
theorem dX12_init_677 : decode cX12_init 677 = .ok (.aload_n 0, 1) := dk_42 (by decide +kernel)
theorem dX12_init_678 : decode cX12_init 678 = .ok (.bipush 10, 2) := dk_16 (by decide +kernel)
theorem dX12_init_680 : decode cX12_init 680 = .ok (.newarray .int, 2) := by decide +kernel
theorem dX12_init_682 : decode cX12_init 682 = .ok (.putfield 260, 3) := dk_181 (by decide +kernel)
theorem dX12_init_685 : decode cX12_init 685 = .ok (.aload_n 0, 1) := dk_42 (by decide +kernel)
theorem dX12_init_686 : decode cX12_init 686 = .ok (.bipush 12, 2) := dk_16 (by decide +kernel)
theorem dX12_init_688 : decode cX12_init 688 = .ok (.newarray .int, 2) := by decide +kernel
theorem dX12_init_690 : decode cX12_init 690 = .ok (.putfield 263, 3) := dk_181 (by decide +kernel)
theorem dX12_init_693 : decode cX12_init 693 = .ok (.aload_n 0, 1) := dk_42 (by decide +kernel)
theorem dX12_init_694 : decode cX12_init 694 = .ok (.bipush 12, 2) := dk_16 (by decide +kernel)
theorem dX12_init_696 : decode cX12_init 696 = .ok (.newarray .int, 2) := by decide +kernel
theorem dX12_init_698 : decode cX12_init 698 = .ok (.putfield 266, 3) := dk_181 (by decide +kernel)
theorem dX12_init_701 : decode cX12_init 701 = .ok (.aload_n 0, 1) := dk_42 (by decide +kernel)
theorem dX12_init_702 : decode cX12_init 702 = .ok (.bipush 12, 2) := dk_16 (by decide +kernel)
theorem dX12_init_704 : decode cX12_init 704 = .ok (.newarray .int, 2) := by decide +kernel
theorem dX12_init_706 : decode cX12_init 706 = .ok (.putfield 269, 3) := dk_181 (by decide +kernel)
theorem dX12_init_709 : decode cX12_init 709 = .ok (.aload_n 0, 1) := dk_42 (by decide +kernel)
theorem dX12_init_710 : decode cX12_init 710 = .ok (.bipush 12, 2) := dk_16 (by decide +kernel)
theorem dX12_init_712 : decode cX12_init 712 = .ok (.newarray .int, 2) := by decide +kernel
theorem dX12_init_714 : decode cX12_init 714 = .ok (.putfield 272, 3) := dk_181 (by decide +kernel)
theorem dX12_init_717 : decode cX12_init 717 = .ok (.aload_n 0, 1) := dk_42 (by decide +kernel)
theorem dX12_init_718 : decode cX12_init 718 = .ok (.sipush 192, 3) := dk_17 (by decide +kernel)
theorem dX12_init_721 : decode cX12_init 721 = .ok (.newarray .int, 2) := by decide +kernel
theorem dX12_init_723 : decode cX12_init 723 = .ok (.putfield 275, 3) := dk_181 (by decide +kernel)
theorem dX12_init_726 : decode cX12_init 726 = .ok (.aload_n 0, 1) := dk_42 (by decide +kernel)
theorem dX12_init_727 : decode cX12_init 727 = .ok (.bipush 16, 2) := dk_16 (by decide +kernel)
theorem dX12_init_729 : decode cX12_init 729 = .ok (.newarray .int, 2) := by decide +kernel
theorem dX12_init_731 : decode cX12_init 731 = .ok (.putfield 278, 3) := dk_181 (by decide +kernel)
theorem dX12_init_734 : decode cX12_init 734 = .ok (.aload_n 0, 1) := dk_42 (by decide +kernel)
theorem dX12_init_735 : decode cX12_init 735 = .ok (.bipush 10, 2) := dk_16 (by decide +kernel)
theorem dX12_init_737 : decode cX12_init 737 = .ok (.newarray .int, 2) := by decide +kernel
theorem dX12_init_739 : decode cX12_init 739 = .ok (.putfield 281, 3) := dk_181 (by decide +kernel)
theorem dX12_init_742 : decode cX12_init 742 = .ok (.aload_n 0, 1) := dk_42 (by decide +kernel)
theorem dX12_init_743 : decode cX12_init 743 = .ok (.bipush 16, 2) := dk_16 (by decide +kernel)
theorem dX12_init_745 : decode cX12_init 745 = .ok (.newarray .int, 2) := by decide +kernel
theorem dX12_init_747 : decode cX12_init 747 = .ok (.putfield 284, 3) := dk_181 (by decide +kernel)
theorem dX12_init_750 : decode cX12_init 750 = .ok (.aload_n 0, 1) := dk_42 (by decide +kernel)
theorem dX12_init_751 : decode cX12_init 751 = .ok (.bipush 16, 2) := dk_16 (by decide +kernel)
theorem dX12_init_753 : decode cX12_init 753 = .ok (.newarray .int, 2) := by decide +kernel
theorem dX12_init_755 : decode cX12_init 755 = .ok (.putfield 287, 3) := dk_181 (by decide +kernel)
theorem dX12_init_758 : decode cX12_init 758 = .ok (.aload_n 0, 1) := dk_42 (by decide +kernel)
theorem dX12_init_759 : decode cX12_init 759 = .ok (.bipush 17, 2) := dk_16 (by decide +kernel)
theorem dX12_init_761 : decode cX12_init 761 = .ok (.newarray .int, 2) := by decide +kernel
theorem dX12_init_763 : decode cX12_init 763 = .ok (.putfield 290, 3) := dk_181 (by decide +kernel)
theorem dX12_init_766 : decode cX12_init 766 = .ok (.aload_n 0, 1) := dk_42 (by decide +kernel)
theorem dX12_init_767 : decode cX12_init 767 = .ok (.bipush 10, 2) := dk_16 (by decide +kernel)
theorem dX12_init_769 : decode cX12_init 769 = .ok (.newarray .int, 2) := by decide +kernel
theorem dX12_init_771 : decode cX12_init 771 = .ok (.putfield 293, 3) := dk_181 (by decide +kernel)
theorem dX12_init_774 : decode cX12_init 774 = .ok (.aload_n 0, 1) := dk_42 (by decide +kernel)
theorem dX12_init_775 : decode cX12_init 775 = .ok (.ldc_w 296, 3) := dk_19 (by decide +kernel)
theorem dX12_init_778 : decode cX12_init 778 = .ok (.newarray .int, 2) := by decide +kernel
theorem dX12_init_780 : decode cX12_init 780 = .ok (.putfield 297, 3) := dk_181 (by decide +kernel)
theorem dX12_init_783 : decode cX12_init 783 = .ok (.aload_n 0, 1) := dk_42 (by decide +kernel)
theorem dX12_init_784 : decode cX12_init 784 = .ok (.iconst (-1), 1) := dk_2 (by decide +kernel)
theorem dX12_init_785 : decode cX12_init 785 = .ok (.putfield 300, 3) := dk_181 (by decide +kernel)
theorem dX12_init_788 : decode cX12_init 788 = .ok (.aload_n 0, 1) := dk_42 (by decide +kernel)
theorem dX12_init_789 : decode cX12_init 789 = .ok (.bipush 24, 2) := dk_16 (by decide +kernel)
theorem dX12_init_791 : decode cX12_init 791 = .ok (.newarray .int, 2) := by decide +kernel
theorem dX12_init_793 : decode cX12_init 793 = .ok (.putfield 303, 3) := dk_181 (by decide +kernel)
theorem dX12_init_796 : decode cX12_init 796 = .ok (.aload_n 0, 1) := dk_42 (by decide +kernel)
theorem dX12_init_797 : decode cX12_init 797 = .ok (.bipush 24, 2) := dk_16 (by decide +kernel)
theorem dX12_init_799 : decode cX12_init 799 = .ok (.newarray .int, 2) := by decide +kernel
theorem dX12_init_801 : decode cX12_init 801 = .ok (.putfield 306, 3) := dk_181 (by decide +kernel)
theorem dX12_init_804 : decode cX12_init 804 = .ok (.aload_n 0, 1) := dk_42 (by decide +kernel)
theorem dX12_init_805 : decode cX12_init 805 = .ok (.bipush 24, 2) := dk_16 (by decide +kernel)
theorem dX12_init_807 : decode cX12_init 807 = .ok (.newarray .int, 2) := by decide +kernel
theorem dX12_init_809 : decode cX12_init 809 = .ok (.putfield 309, 3) := dk_181 (by decide +kernel)
theorem dX12_init_812 : decode cX12_init 812 = .ok (.aload_n 0, 1) := dk_42 (by decide +kernel)
theorem dX12_init_813 : decode cX12_init 813 = .ok (.bipush 40, 2) := dk_16 (by decide +kernel)
theorem dX12_init_815 : decode cX12_init 815 = .ok (.newarray .int, 2) := by decide +kernel
theorem dX12_init_817 : decode cX12_init 817 = .ok (.putfield 312, 3) := dk_181 (by decide +kernel)
theorem dX12_init_820 : decode cX12_init 820 = .ok (.aload_n 0, 1) := dk_42 (by decide +kernel)
theorem dX12_init_821 : decode cX12_init 821 = .ok (.bipush 40, 2) := dk_16 (by decide +kernel)
theorem dX12_init_823 : decode cX12_init 823 = .ok (.newarray .int, 2) := by decide +kernel
theorem dX12_init_825 : decode cX12_init 825 = .ok (.putfield 315, 3) := dk_181 (by decide +kernel)
theorem dX12_init_828 : decode cX12_init 828 = .ok (.aload_n 0, 1) := dk_42 (by decide +kernel)
theorem dX12_init_829 : decode cX12_init 829 = .ok (.bipush 40, 2) := dk_16 (by decide +kernel)
theorem dX12_init_831 : decode cX12_init 831 = .ok (.newarray .int, 2) := by decide +kernel
theorem dX12_init_833 : decode cX12_init 833 = .ok (.putfield 318, 3) := dk_181 (by decide +kernel)
theorem dX12_init_836 : decode cX12_init 836 = .ok (.aload_n 0, 1) := dk_42 (by decide +kernel)
theorem dX12_init_837 : decode cX12_init 837 = .ok (.bipush 40, 2) := dk_16 (by decide +kernel)
theorem dX12_init_839 : decode cX12_init 839 = .ok (.newarray .int, 2) := by decide +kernel
theorem dX12_init_841 : decode cX12_init 841 = .ok (.putfield 321, 3) := dk_181 (by decide +kernel)
theorem dX12_init_844 : decode cX12_init 844 = .ok (.aload_n 0, 1) := dk_42 (by decide +kernel)
theorem dX12_init_845 : decode cX12_init 845 = .ok (.bipush 40, 2) := dk_16 (by decide +kernel)
theorem dX12_init_847 : decode cX12_init 847 = .ok (.newarray .int, 2) := by decide +kernel
theorem dX12_init_849 : decode cX12_init 849 = .ok (.putfield 324, 3) := dk_181 (by decide +kernel)
theorem dX12_init_852 : decode cX12_init 852 = .ok (.aload_n 0, 1) := dk_42 (by decide +kernel)
theorem dX12_init_853 : decode cX12_init 853 = .ok (.bipush 12, 2) := dk_16 (by decide +kernel)
theorem dX12_init_855 : decode cX12_init 855 = .ok (.newarray .int, 2) := by decide +kernel
theorem dX12_init_857 : decode cX12_init 857 = .ok (.putfield 327, 3) := dk_181 (by decide +kernel)
theorem dX12_init_860 : decode cX12_init 860 = .ok (.aload_n 0, 1) := dk_42 (by decide +kernel)
theorem dX12_init_861 : decode cX12_init 861 = .ok (.bipush 12, 2) := dk_16 (by decide +kernel)
theorem dX12_init_863 : decode cX12_init 863 = .ok (.newarray .int, 2) := by decide +kernel
theorem dX12_init_865 : decode cX12_init 865 = .ok (.putfield 330, 3) := dk_181 (by decide +kernel)
theorem dX12_init_868 : decode cX12_init 868 = .ok (.aload_n 0, 1) := dk_42 (by decide +kernel)
theorem dX12_init_869 : decode cX12_init 869 = .ok (.bipush 12, 2) := dk_16 (by decide +kernel)
theorem dX12_init_871 : decode cX12_init 871 = .ok (.newarray .int, 2) := by decide +kernel
theorem dX12_init_873 : decode cX12_init 873 = .ok (.putfield 333, 3) := dk_181 (by decide +kernel)
theorem dX12_init_876 : decode cX12_init 876 = .ok (.aload_n 0, 1) := dk_42 (by decide +kernel)
theorem dX12_init_877 : decode cX12_init 877 = .ok (.bipush 12, 2) := dk_16 (by decide +kernel)
theorem dX12_init_879 : decode cX12_init 879 = .ok (.newarray .int, 2) := by decide +kernel
theorem dX12_init_881 : decode cX12_init 881 = .ok (.putfield 336, 3) := dk_181 (by decide +kernel)
theorem dX12_init_884 : decode cX12_init 884 = .ok (.aload_n 0, 1) := dk_42 (by decide +kernel)
theorem dX12_init_885 : decode cX12_init 885 = .ok (.bipush 8, 2) := dk_16 (by decide +kernel)
theorem dX12_init_887 : decode cX12_init 887 = .ok (.newarray .int, 2) := by decide +kernel
theorem dX12_init_889 : decode cX12_init 889 = .ok (.putfield 339, 3) := dk_181 (by decide +kernel)
theorem dX12_init_892 : decode cX12_init 892 = .ok (.aload_n 0, 1) := dk_42 (by decide +kernel)
theorem dX12_init_893 : decode cX12_init 893 = .ok (.bipush 8, 2) := dk_16 (by decide +kernel)
theorem dX12_init_895 : decode cX12_init 895 = .ok (.newarray .int, 2) := by decide +kernel
theorem dX12_init_897 : decode cX12_init 897 = .ok (.putfield 342, 3) := dk_181 (by decide +kernel)
theorem dX12_init_900 : decode cX12_init 900 = .ok (.aload_n 0, 1) := dk_42 (by decide +kernel)
theorem dX12_init_901 : decode cX12_init 901 = .ok (.bipush 8, 2) := dk_16 (by decide +kernel)
theorem dX12_init_903 : decode cX12_init 903 = .ok (.newarray .int, 2) := by decide +kernel
theorem dX12_init_905 : decode cX12_init 905 = .ok (.putfield 345, 3) := dk_181 (by decide +kernel)
theorem dX12_init_908 : decode cX12_init 908 = .ok (.return_, 1) := dk_177 (by decide +kernel)
theorem iX12_init_in12 : ∀ w ∈ wsX120, w ∈ wsX12_init := fun _ h => List.mem_cons_of_mem _ (List.mem_append_right _ h)
section
variable {p : Program} {l : Launch} {e : Env} {R : Room} {s : State} {m : MethodId} {args : Array Value} {below : List Frame} {meth : Method} {c : Code} {H : Heap} {locs : List Loc} {cells slots : Nat} {Q : State → Prop} {dC : Nat → ClassId} {dI : Nat → Nat → Nat} {A : Nat → Prop} {h0 : Nat} {v : Nat → Value} {X : va_W} {ts : List (ClassId × FieldType)} {a : Nat → Nat} {ka : Nat → ClassId} {Ts : List Cond} {ls : Array Slot} {H0 : Heap}
/-- a group of the constructor: a new row, kept in the field k -/
theorem newRowM {pc pc2 : Nat} (t : Nat) {atype : ArrayType} {ty : FieldType} {n : Int32} {N' : Nat} {k index : Nat}
    (hx : p.tables.exec = Jvm.exec) (hb : c.code = cX12_init) (hts : ∀ w ∈ Ts, w.before args s = true) (hin : ∀ w ∈ wsX120, w ∈ Ts) (hown : s.vm.findClass RX12 = some m.cls) (hnm : meth.name = "<init>")
    (hK : va_K (dC, dI) vwCl ((List.range t).map (tyM ka)) s) (hP : va_P (dC, dI) vwCl ((h0, .inr (12, fM v)) :: (List.range t).map (cellM a ka)) H) (hD : va_D A ((h0, .inr (12, fM v)) :: (List.range t).map (cellM a ka))) (hS : va_S A H0 H locs) (hA : ∀ q, H0.size ≤ q → A q) (hl : lv_has ls 1 [(0, .ref h0)])
    (d0 : decode cX12_init pc = .ok (.aload_n 0, 1))
    (push : W p l e R s m args below meth c H locs cells slots Q (F0 m pc2 ls [.int n, .ref h0]) → W p l e R s m args below meth c H locs cells slots Q (F0 m (pc + 1) ls [.ref h0]))
    (harr : (Cond.arrayClass (newarray.typeOf atype)).before args s = true) (hty : newarray.typeOf atype = ty) (hat : arT t = ty) (ha : ∀ cA : ClassId, vp_cell cA (arrM t) = arrV cA N' (fun _ => defaultValue ty)) (hn : ¬ n < 0) (hN : n.toNatClampNeg = N') (hbytes : N' * componentBytes ty ≤ 536870912) (hcells : cells + 1 ≤ R.cells) (hslots : slots + N' ≤ R.slots)
    (d2 : decode cX12_init pc2 = .ok (.newarray atype, 2))
    (hk : k < 163) (hlink : (Cond.fieldLink RX12 index RX12 (TX12 k).2.1 (TX12 k).2.2.1).before args s = true) (hfin : (TX12 k).2.2.2 = true) (hdecl : (TX12 k).1 = RX12) (hd : parseFieldDescriptor (TX12 k).2.2.1 = some (.array ty))
    (d3 : decode cX12_init (pc2 + 2) = .ok (.putfield index, 3))
    (kk : ∀ (q : Nat) (cA : ClassId) (H1 : Heap) (locs1 : List Loc), va_K (dC, dI) vwCl ((List.range (t + 1)).map (tyM (upF ka t cA))) s → va_P (dC, dI) vwCl ((h0, .inr (12, fM (mUp v k (.ref q)))) :: (List.range (t + 1)).map (cellM (upF a t q) (upF ka t cA))) H1 → va_D A ((h0, .inr (12, fM (mUp v k (.ref q)))) :: (List.range (t + 1)).map (cellM (upF a t q) (upF ka t cA))) → va_S A H0 H1 locs1 →
      W p l e R s m args below meth c H1 locs1 (cells + 1) (slots + N') Q (F0 m (pc2 + 2 + 3) ls [])) :
    W p l e R s m args below meth c H locs cells slots Q (F0 m pc ls []) := by
  refine lv_aload_n hx hb d0 rfl (lv_at hl 0 rfl) ?_
  refine push ?_
  refine va_newa (atype := atype) (ty := ty) (N' := N') (a0 := arrM t) hx hb harr hty hK hP hD hS hA ha hn hN hbytes hcells hslots d2 (fun q cA H1 hK hP hD hS => ?_)
  refine va_putF (D := (dC, dI)) (ci := 12) (v := .ref q) (ty := .array ty) (C := RX12) (T := TX12) (N := 163) hx hb hts hin tyX12 tyX12_ok nmX12 hown hK hP hD hS 0 rfl rfl k hk hlink (fun x h9 => by rw [hdecl] at h9; exact h9) hfin hnm hdecl hd rfl rfl (by rw [fM_len]; exact hk) d3 (fun H locs hP hD hS => ?_)
  refine kk q cA H locs ?_ ?_ ?_ hS
  · rw [growT, hat]; exact hK
  · rw [growX, ← mSet]; exact hP
  · rw [growX, ← mSet]; exact hD
/-- a group of the constructor: a number, kept in the field k -/
theorem newIntM {pc pc2 : Nat} {n : Int32} {k index : Nat}
    (hx : p.tables.exec = Jvm.exec) (hb : c.code = cX12_init) (hts : ∀ w ∈ Ts, w.before args s = true) (hin : ∀ w ∈ wsX120, w ∈ Ts) (hown : s.vm.findClass RX12 = some m.cls)
    (hK : va_K (dC, dI) vwCl ts s) (hP : va_P (dC, dI) vwCl ((h0, .inr (12, fM v)) :: X) H) (hD : va_D A ((h0, .inr (12, fM v)) :: X)) (hS : va_S A H0 H locs) (hl : lv_has ls 1 [(0, .ref h0)])
    (d0 : decode cX12_init pc = .ok (.aload_n 0, 1))
    (push : W p l e R s m args below meth c H locs cells slots Q (F0 m pc2 ls [.int n, .ref h0]) → W p l e R s m args below meth c H locs cells slots Q (F0 m (pc + 1) ls [.ref h0]))
    (hk : k < 163) (hlink : (Cond.fieldLink RX12 index RX12 (TX12 k).2.1 (TX12 k).2.2.1).before args s = true) (hfin : (TX12 k).2.2.2 = false) (hdecl : (TX12 k).1 = RX12) (hd : parseFieldDescriptor (TX12 k).2.2.1 = some .int)
    (d3 : decode cX12_init pc2 = .ok (.putfield index, 3))
    (kk : ∀ (H1 : Heap) (locs1 : List Loc), va_P (dC, dI) vwCl ((h0, .inr (12, fM (mUp v k (.int n)))) :: X) H1 → va_D A ((h0, .inr (12, fM (mUp v k (.int n)))) :: X) → va_S A H0 H1 locs1 →
      W p l e R s m args below meth c H1 locs1 cells slots Q (F0 m (pc2 + 3) ls [])) :
    W p l e R s m args below meth c H locs cells slots Q (F0 m pc ls []) := by
  refine lv_aload_n hx hb d0 rfl (lv_at hl 0 rfl) ?_
  refine push ?_
  refine va_put (D := (dC, dI)) (ci := 12) (v := .int n) (ty := .int) (C := RX12) (T := TX12) (N := 163) hx hb hts hin tyX12 tyX12_ok nmX12 hown hK hP hD hS 0 rfl rfl k hk hlink (fun x h9 => by rw [hdecl] at h9; exact h9) hfin hd rfl rfl (by rw [fM_len]; exact hk) d3 (fun H locs hP hD hS => ?_)
  refine kk H locs ?_ ?_ hS
  · rw [← mSet]; exact hP
  · rw [← mSet]; exact hD
end
set_option maxHeartbeats 4000000 in
set_option maxRecDepth 100000 in
/-- OptimaWorksModel(): all its rows -/
theorem c_X12_init (l : Launch) (dC : Nat → ClassId) (dI : Nat → Nat → Nat) (h0 : Nat) (sz : Nat) : Met l yX12_init wsX12_init ({ frames := 1, cells := 107, slots := 180627, locals := 12 }) (va_Pc [.ref h0] (fun U => U.heap.size = sz ∧ va_P (dC, dI) vwCl [(h0, .inr (12, fM v0M))] U.heap ∧ va_K (dC, dI) vwCl [] U ∧ va_D (fun _ => True) [(h0, .inr (12, fM v0M))])) (va_Qv (fun _ : (Nat → Nat) × (Nat → ClassId) => True) (fun u t => va_P (dC, dI) vwCl (wX12 u.1 u.2 h0) t.heap ∧ va_K (dC, dI) vwCl (tX12 u.2) t ∧ va_D (va_A [(h0, .inr (12, fM v0M))] sz) (wX12 u.1 u.2 h0)) (va_A [(h0, .inr (12, fM v0M))] sz)) 107 180627 (va_A [(h0, .inr (12, fM v0M))] sz) := by
  refine Met.ofW (cc := cX12_init) (maxL := 1) (ret := none) (by decide) rfl ?_
  intro p e s m args below meth c s₁ B hml hv
  obtain ⟨rfl, hsz, hP, hK, hD0⟩ := hv
  have hx := B.exec
  have hb := B.bytes
  have hr := B.returns
  have hts := atoms_spec (ws := wsX12_init) B.pre
  have hown : s.vm.findClass RX12 = some m.cls := findClass_of_methodNamed B.named
  have hlocks := B.notSynchronized
  have hin : meth.name = "<init>" := (name_of_methodNamed B.named B.method).1
  subst hsz
  have hD := hD0.self (sz := s.heap.size)
  generalize hAe : va_A [(h0, .inr (12, fM v0M))] s.heap.size = A at hD ⊢
  have hA : ∀ q : Nat, s.heap.size ≤ q → A q := fun q h => by rw [← hAe]; exact Or.inr h
  have hS : va_S A s.heap s.heap [] := va_S.rf
  have hP : va_P (dC, dI) vwCl ((h0, .inr (12, fM v0M)) :: (List.range 0).map (cellM a0M k0M)) s.heap := hP
  have hD : va_D A ((h0, .inr (12, fM v0M)) :: (List.range 0).map (cellM a0M k0M)) := hD
  have hK : va_K (dC, dI) vwCl ((List.range 0).map (tyM k0M)) s := hK
  have hl := lv_entry ([.ref h0]) (n := 1) (Nat.le_of_ble_eq_true rfl)
  rw [lg_entry_eq]
  generalize (lg_sl ([.ref h0]) ++ List.replicate (1 - (lg_sl ([.ref h0])).length) Slot.unset).toArray = ls at hl ⊢
  have hl : lv_has ls 1 [(0, .ref h0)] := hl
  refine lv_aload_n hx hb dX12_init_0 rfl (lv_at hl 0 rfl) ?_
  refine W.objInit hx hb hown (hts (.methodLink RX12 1 objectInit) (by decide +kernel)) (hts (.instanceMethod objectInit) (by decide +kernel)) (hts (.code objectInit ⟨#[0xb1]⟩ 1 none) (by decide +kernel)) rfl (by rw [hml]; exact hl.1) rfl dX12_init_1 (by decide +kernel) (Nat.le_of_ble_eq_true rfl) ?_
  refine W.eq (g2 := F0 m 4 ls []) rfl ?_
  refine newRowM 0 (n := 26400) (N' := 26400) (k := 1) (index := 7) (atype := .int) (ty := .int) hx hb hts iX12_init_in12 hown hin hK hP hD hS hA hl dX12_init_4 (fun h => lv_sipush (v := 26400) hx hb dX12_init_5 (by decide) h) (hts (.arrayClass .int) (by decide +kernel)) rfl rfl (fun _ => rfl) (by decide +kernel) (by decide +kernel) (by decide +kernel) (by decide +kernel) (by decide +kernel) dX12_init_8 (by decide) (hts (.fieldLink RX12 7 "OptimaWorksModel" "big" "[I") (by decide +kernel)) rfl rfl (by decide +kernel) dX12_init_10 (fun q8 k8 H locs hK hP hD hS => ?_)
  obtain ⟨v8, ev8⟩ : ∃ w, w = mUp v0M 1 (.ref q8) := ⟨_, rfl⟩
  obtain ⟨a8, ea8⟩ : ∃ w, w = upF a0M 0 q8 := ⟨_, rfl⟩
  obtain ⟨f8, ef8⟩ : ∃ w, w = upF k0M 0 k8 := ⟨_, rfl⟩
  rw [← ev8, ← ea8, ← ef8] at hP hD
  rw [← ef8] at hK
  refine W.widen (k := 1) (n := 26400) (by decide +kernel) (by decide +kernel) ?_
  refine newRowM 1 (n := 48) (N' := 48) (k := 2) (index := 13) (atype := .long) (ty := .long) hx hb hts iX12_init_in12 hown hin hK hP hD hS hA hl dX12_init_13 (fun h => lv_bipush (v := 48) hx hb dX12_init_14 (by decide) h) (hts (.arrayClass .long) (by decide +kernel)) rfl rfl (fun _ => rfl) (by decide +kernel) (by decide +kernel) (by decide +kernel) (by decide +kernel) (by decide +kernel) dX12_init_16 (by decide) (hts (.fieldLink RX12 13 "OptimaWorksModel" "sum" "[J") (by decide +kernel)) rfl rfl (by decide +kernel) dX12_init_18 (fun q16 k16 H locs hK hP hD hS => ?_)
  obtain ⟨v16, ev16⟩ : ∃ w, w = mUp v8 2 (.ref q16) := ⟨_, rfl⟩
  obtain ⟨a16, ea16⟩ : ∃ w, w = upF a8 1 q16 := ⟨_, rfl⟩
  obtain ⟨f16, ef16⟩ : ∃ w, w = upF f8 1 k16 := ⟨_, rfl⟩
  rw [← ev16, ← ea16, ← ef16] at hP hD
  rw [← ef16] at hK
  refine W.widen (k := 2) (n := 26448) (by decide +kernel) (by decide +kernel) ?_
  refine newRowM 2 (n := 60) (N' := 60) (k := 3) (index := 17) (atype := .int) (ty := .int) hx hb hts iX12_init_in12 hown hin hK hP hD hS hA hl dX12_init_21 (fun h => lv_bipush (v := 60) hx hb dX12_init_22 (by decide) h) (hts (.arrayClass .int) (by decide +kernel)) rfl rfl (fun _ => rfl) (by decide +kernel) (by decide +kernel) (by decide +kernel) (by decide +kernel) (by decide +kernel) dX12_init_24 (by decide) (hts (.fieldLink RX12 17 "OptimaWorksModel" "rest" "[I") (by decide +kernel)) rfl rfl (by decide +kernel) dX12_init_26 (fun q24 k24 H locs hK hP hD hS => ?_)
  obtain ⟨v24, ev24⟩ : ∃ w, w = mUp v16 3 (.ref q24) := ⟨_, rfl⟩
  obtain ⟨a24, ea24⟩ : ∃ w, w = upF a16 2 q24 := ⟨_, rfl⟩
  obtain ⟨f24, ef24⟩ : ∃ w, w = upF f16 2 k24 := ⟨_, rfl⟩
  rw [← ev24, ← ea24, ← ef24] at hP hD
  rw [← ef24] at hK
  refine W.widen (k := 3) (n := 26508) (by decide +kernel) (by decide +kernel) ?_
  refine newRowM 3 (n := 30) (N' := 30) (k := 4) (index := 20) (atype := .int) (ty := .int) hx hb hts iX12_init_in12 hown hin hK hP hD hS hA hl dX12_init_29 (fun h => lv_bipush (v := 30) hx hb dX12_init_30 (by decide) h) (hts (.arrayClass .int) (by decide +kernel)) rfl rfl (fun _ => rfl) (by decide +kernel) (by decide +kernel) (by decide +kernel) (by decide +kernel) (by decide +kernel) dX12_init_32 (by decide) (hts (.fieldLink RX12 20 "OptimaWorksModel" "less" "[I") (by decide +kernel)) rfl rfl (by decide +kernel) dX12_init_34 (fun q32 k32 H locs hK hP hD hS => ?_)
  obtain ⟨v32, ev32⟩ : ∃ w, w = mUp v24 4 (.ref q32) := ⟨_, rfl⟩
  obtain ⟨a32, ea32⟩ : ∃ w, w = upF a24 3 q32 := ⟨_, rfl⟩
  obtain ⟨f32, ef32⟩ : ∃ w, w = upF f24 3 k32 := ⟨_, rfl⟩
  rw [← ev32, ← ea32, ← ef32] at hP hD
  rw [← ef32] at hK
  refine W.widen (k := 4) (n := 26538) (by decide +kernel) (by decide +kernel) ?_
  refine newRowM 4 (n := 46) (N' := 46) (k := 8) (index := 23) (atype := .int) (ty := .int) hx hb hts iX12_init_in12 hown hin hK hP hD hS hA hl dX12_init_37 (fun h => lv_bipush (v := 46) hx hb dX12_init_38 (by decide) h) (hts (.arrayClass .int) (by decide +kernel)) rfl rfl (fun _ => rfl) (by decide +kernel) (by decide +kernel) (by decide +kernel) (by decide +kernel) (by decide +kernel) dX12_init_40 (by decide) (hts (.fieldLink RX12 23 "OptimaWorksModel" "columnOf" "[I") (by decide +kernel)) rfl rfl (by decide +kernel) dX12_init_42 (fun q40 k40 H locs hK hP hD hS => ?_)
  obtain ⟨v40, ev40⟩ : ∃ w, w = mUp v32 8 (.ref q40) := ⟨_, rfl⟩
  obtain ⟨a40, ea40⟩ : ∃ w, w = upF a32 4 q40 := ⟨_, rfl⟩
  obtain ⟨f40, ef40⟩ : ∃ w, w = upF f32 4 k40 := ⟨_, rfl⟩
  rw [← ev40, ← ea40, ← ef40] at hP hD
  rw [← ef40] at hK
  refine W.widen (k := 5) (n := 26584) (by decide +kernel) (by decide +kernel) ?_
  refine newRowM 5 (n := 60) (N' := 60) (k := 9) (index := 26) (atype := .int) (ty := .int) hx hb hts iX12_init_in12 hown hin hK hP hD hS hA hl dX12_init_45 (fun h => lv_bipush (v := 60) hx hb dX12_init_46 (by decide) h) (hts (.arrayClass .int) (by decide +kernel)) rfl rfl (fun _ => rfl) (by decide +kernel) (by decide +kernel) (by decide +kernel) (by decide +kernel) (by decide +kernel) dX12_init_48 (by decide) (hts (.fieldLink RX12 26 "OptimaWorksModel" "rowOf" "[I") (by decide +kernel)) rfl rfl (by decide +kernel) dX12_init_50 (fun q48 k48 H locs hK hP hD hS => ?_)
  obtain ⟨v48, ev48⟩ : ∃ w, w = mUp v40 9 (.ref q48) := ⟨_, rfl⟩
  obtain ⟨a48, ea48⟩ : ∃ w, w = upF a40 5 q48 := ⟨_, rfl⟩
  obtain ⟨f48, ef48⟩ : ∃ w, w = upF f40 5 k48 := ⟨_, rfl⟩
  rw [← ev48, ← ea48, ← ef48] at hP hD
  rw [← ef48] at hK
  refine W.widen (k := 6) (n := 26644) (by decide +kernel) (by decide +kernel) ?_
  refine newRowM 6 (n := 46) (N' := 46) (k := 10) (index := 29) (atype := .boolean) (ty := .boolean) hx hb hts iX12_init_in12 hown hin hK hP hD hS hA hl dX12_init_53 (fun h => lv_bipush (v := 46) hx hb dX12_init_54 (by decide) h) (hts (.arrayClass .boolean) (by decide +kernel)) rfl rfl (fun _ => rfl) (by decide +kernel) (by decide +kernel) (by decide +kernel) (by decide +kernel) (by decide +kernel) dX12_init_56 (by decide) (hts (.fieldLink RX12 29 "OptimaWorksModel" "still" "[Z") (by decide +kernel)) rfl rfl (by decide +kernel) dX12_init_58 (fun q56 k56 H locs hK hP hD hS => ?_)
  obtain ⟨v56, ev56⟩ : ∃ w, w = mUp v48 10 (.ref q56) := ⟨_, rfl⟩
  obtain ⟨a56, ea56⟩ : ∃ w, w = upF a48 6 q56 := ⟨_, rfl⟩
  obtain ⟨f56, ef56⟩ : ∃ w, w = upF f48 6 k56 := ⟨_, rfl⟩
  rw [← ev56, ← ea56, ← ef56] at hP hD
  rw [← ef56] at hK
  refine W.widen (k := 7) (n := 26690) (by decide +kernel) (by decide +kernel) ?_
  refine newRowM 7 (n := 1000) (N' := 1000) (k := 13) (index := 33) (atype := .long) (ty := .long) hx hb hts iX12_init_in12 hown hin hK hP hD hS hA hl dX12_init_61 (fun h => lv_sipush (v := 1000) hx hb dX12_init_62 (by decide) h) (hts (.arrayClass .long) (by decide +kernel)) rfl rfl (fun _ => rfl) (by decide +kernel) (by decide +kernel) (by decide +kernel) (by decide +kernel) (by decide +kernel) dX12_init_65 (by decide) (hts (.fieldLink RX12 33 "OptimaWorksModel" "fast" "[J") (by decide +kernel)) rfl rfl (by decide +kernel) dX12_init_67 (fun q65 k65 H locs hK hP hD hS => ?_)
  obtain ⟨v65, ev65⟩ : ∃ w, w = mUp v56 13 (.ref q65) := ⟨_, rfl⟩
  obtain ⟨a65, ea65⟩ : ∃ w, w = upF a56 7 q65 := ⟨_, rfl⟩
  obtain ⟨f65, ef65⟩ : ∃ w, w = upF f56 7 k65 := ⟨_, rfl⟩
  rw [← ev65, ← ea65, ← ef65] at hP hD
  rw [← ef65] at hK
  refine W.widen (k := 8) (n := 27690) (by decide +kernel) (by decide +kernel) ?_
  refine newRowM 8 (n := 1000) (N' := 1000) (k := 14) (index := 36) (atype := .long) (ty := .long) hx hb hts iX12_init_in12 hown hin hK hP hD hS hA hl dX12_init_70 (fun h => lv_sipush (v := 1000) hx hb dX12_init_71 (by decide) h) (hts (.arrayClass .long) (by decide +kernel)) rfl rfl (fun _ => rfl) (by decide +kernel) (by decide +kernel) (by decide +kernel) (by decide +kernel) (by decide +kernel) dX12_init_74 (by decide) (hts (.fieldLink RX12 36 "OptimaWorksModel" "later" "[J") (by decide +kernel)) rfl rfl (by decide +kernel) dX12_init_76 (fun q74 k74 H locs hK hP hD hS => ?_)
  obtain ⟨v74, ev74⟩ : ∃ w, w = mUp v65 14 (.ref q74) := ⟨_, rfl⟩
  obtain ⟨a74, ea74⟩ : ∃ w, w = upF a65 8 q74 := ⟨_, rfl⟩
  obtain ⟨f74, ef74⟩ : ∃ w, w = upF f65 8 k74 := ⟨_, rfl⟩
  rw [← ev74, ← ea74, ← ef74] at hP hD
  rw [← ef74] at hK
  refine W.widen (k := 9) (n := 28690) (by decide +kernel) (by decide +kernel) ?_
  refine newRowM 9 (n := 4000) (N' := 4000) (k := 15) (index := 39) (atype := .byte) (ty := .byte) hx hb hts iX12_init_in12 hown hin hK hP hD hS hA hl dX12_init_79 (fun h => lv_sipush (v := 4000) hx hb dX12_init_80 (by decide) h) (hts (.arrayClass .byte) (by decide +kernel)) rfl rfl (fun _ => rfl) (by decide +kernel) (by decide +kernel) (by decide +kernel) (by decide +kernel) (by decide +kernel) dX12_init_83 (by decide) (hts (.fieldLink RX12 39 "OptimaWorksModel" "tape" "[B") (by decide +kernel)) rfl rfl (by decide +kernel) dX12_init_85 (fun q83 k83 H locs hK hP hD hS => ?_)
  obtain ⟨v83, ev83⟩ : ∃ w, w = mUp v74 15 (.ref q83) := ⟨_, rfl⟩
  obtain ⟨a83, ea83⟩ : ∃ w, w = upF a74 9 q83 := ⟨_, rfl⟩
  obtain ⟨f83, ef83⟩ : ∃ w, w = upF f74 9 k83 := ⟨_, rfl⟩
  rw [← ev83, ← ea83, ← ef83] at hP hD
  rw [← ef83] at hK
  refine W.widen (k := 10) (n := 32690) (by decide +kernel) (by decide +kernel) ?_
  refine newIntM (n := (-1)) (k := 22) (index := 43) hx hb hts iX12_init_in12 hown hK hP hD hS hl dX12_init_88 (fun h => lv_iconst (v := (-1)) hx hb dX12_init_89 (by decide) h) (by decide) (hts (.fieldLink RX12 43 "OptimaWorksModel" "place" "I") (by decide +kernel)) rfl rfl (by decide +kernel) dX12_init_90 (fun H locs hP hD hS => ?_)
  obtain ⟨v90, ev90⟩ : ∃ w, w = mUp v83 22 (.int (-1)) := ⟨_, rfl⟩
  rw [← ev90] at hP hD
  refine newIntM (n := (-1)) (k := 24) (index := 47) hx hb hts iX12_init_in12 hown hK hP hD hS hl dX12_init_93 (fun h => lv_iconst (v := (-1)) hx hb dX12_init_94 (by decide) h) (by decide) (hts (.fieldLink RX12 47 "OptimaWorksModel" "latestPlace" "I") (by decide +kernel)) rfl rfl (by decide +kernel) dX12_init_95 (fun H locs hP hD hS => ?_)
  obtain ⟨v95, ev95⟩ : ∃ w, w = mUp v90 24 (.int (-1)) := ⟨_, rfl⟩
  rw [← ev95] at hP hD
  refine newRowM 10 (n := 44) (N' := 44) (k := 26) (index := 50) (atype := .int) (ty := .int) hx hb hts iX12_init_in12 hown hin hK hP hD hS hA hl dX12_init_98 (fun h => lv_bipush (v := 44) hx hb dX12_init_99 (by decide) h) (hts (.arrayClass .int) (by decide +kernel)) rfl rfl (fun _ => rfl) (by decide +kernel) (by decide +kernel) (by decide +kernel) (by decide +kernel) (by decide +kernel) dX12_init_101 (by decide) (hts (.fieldLink RX12 50 "OptimaWorksModel" "nameKind" "[I") (by decide +kernel)) rfl rfl (by decide +kernel) dX12_init_103 (fun q101 k101 H locs hK hP hD hS => ?_)
  obtain ⟨v101, ev101⟩ : ∃ w, w = mUp v95 26 (.ref q101) := ⟨_, rfl⟩
  obtain ⟨a101, ea101⟩ : ∃ w, w = upF a83 10 q101 := ⟨_, rfl⟩
  obtain ⟨f101, ef101⟩ : ∃ w, w = upF f83 10 k101 := ⟨_, rfl⟩
  rw [← ev101, ← ea101, ← ef101] at hP hD
  rw [← ef101] at hK
  refine W.widen (k := 11) (n := 32734) (by decide +kernel) (by decide +kernel) ?_
  refine newRowM 11 (n := 44) (N' := 44) (k := 27) (index := 53) (atype := .int) (ty := .int) hx hb hts iX12_init_in12 hown hin hK hP hD hS hA hl dX12_init_106 (fun h => lv_bipush (v := 44) hx hb dX12_init_107 (by decide) h) (hts (.arrayClass .int) (by decide +kernel)) rfl rfl (fun _ => rfl) (by decide +kernel) (by decide +kernel) (by decide +kernel) (by decide +kernel) (by decide +kernel) dX12_init_109 (by decide) (hts (.fieldLink RX12 53 "OptimaWorksModel" "nameFrom" "[I") (by decide +kernel)) rfl rfl (by decide +kernel) dX12_init_111 (fun q109 k109 H locs hK hP hD hS => ?_)
  obtain ⟨v109, ev109⟩ : ∃ w, w = mUp v101 27 (.ref q109) := ⟨_, rfl⟩
  obtain ⟨a109, ea109⟩ : ∃ w, w = upF a101 11 q109 := ⟨_, rfl⟩
  obtain ⟨f109, ef109⟩ : ∃ w, w = upF f101 11 k109 := ⟨_, rfl⟩
  rw [← ev109, ← ea109, ← ef109] at hP hD
  rw [← ef109] at hK
  refine W.widen (k := 12) (n := 32778) (by decide +kernel) (by decide +kernel) ?_
  refine newRowM 12 (n := 44) (N' := 44) (k := 28) (index := 56) (atype := .int) (ty := .int) hx hb hts iX12_init_in12 hown hin hK hP hD hS hA hl dX12_init_114 (fun h => lv_bipush (v := 44) hx hb dX12_init_115 (by decide) h) (hts (.arrayClass .int) (by decide +kernel)) rfl rfl (fun _ => rfl) (by decide +kernel) (by decide +kernel) (by decide +kernel) (by decide +kernel) (by decide +kernel) dX12_init_117 (by decide) (hts (.fieldLink RX12 56 "OptimaWorksModel" "nameLong" "[I") (by decide +kernel)) rfl rfl (by decide +kernel) dX12_init_119 (fun q117 k117 H locs hK hP hD hS => ?_)
  obtain ⟨v117, ev117⟩ : ∃ w, w = mUp v109 28 (.ref q117) := ⟨_, rfl⟩
  obtain ⟨a117, ea117⟩ : ∃ w, w = upF a109 12 q117 := ⟨_, rfl⟩
  obtain ⟨f117, ef117⟩ : ∃ w, w = upF f109 12 k117 := ⟨_, rfl⟩
  rw [← ev117, ← ea117, ← ef117] at hP hD
  rw [← ef117] at hK
  refine W.widen (k := 13) (n := 32822) (by decide +kernel) (by decide +kernel) ?_
  refine newRowM 13 (n := 44) (N' := 44) (k := 29) (index := 59) (atype := .int) (ty := .int) hx hb hts iX12_init_in12 hown hin hK hP hD hS hA hl dX12_init_122 (fun h => lv_bipush (v := 44) hx hb dX12_init_123 (by decide) h) (hts (.arrayClass .int) (by decide +kernel)) rfl rfl (fun _ => rfl) (by decide +kernel) (by decide +kernel) (by decide +kernel) (by decide +kernel) (by decide +kernel) dX12_init_125 (by decide) (hts (.fieldLink RX12 59 "OptimaWorksModel" "nameOf" "[I") (by decide +kernel)) rfl rfl (by decide +kernel) dX12_init_127 (fun q125 k125 H locs hK hP hD hS => ?_)
  obtain ⟨v125, ev125⟩ : ∃ w, w = mUp v117 29 (.ref q125) := ⟨_, rfl⟩
  obtain ⟨a125, ea125⟩ : ∃ w, w = upF a117 13 q125 := ⟨_, rfl⟩
  obtain ⟨f125, ef125⟩ : ∃ w, w = upF f117 13 k125 := ⟨_, rfl⟩
  rw [← ev125, ← ea125, ← ef125] at hP hD
  rw [← ef125] at hK
  refine W.widen (k := 14) (n := 32866) (by decide +kernel) (by decide +kernel) ?_
  refine newRowM 14 (n := 60) (N' := 60) (k := 31) (index := 62) (atype := .int) (ty := .int) hx hb hts iX12_init_in12 hown hin hK hP hD hS hA hl dX12_init_130 (fun h => lv_bipush (v := 60) hx hb dX12_init_131 (by decide) h) (hts (.arrayClass .int) (by decide +kernel)) rfl rfl (fun _ => rfl) (by decide +kernel) (by decide +kernel) (by decide +kernel) (by decide +kernel) (by decide +kernel) dX12_init_133 (by decide) (hts (.fieldLink RX12 62 "OptimaWorksModel" "binderFrom" "[I") (by decide +kernel)) rfl rfl (by decide +kernel) dX12_init_135 (fun q133 k133 H locs hK hP hD hS => ?_)
  obtain ⟨v133, ev133⟩ : ∃ w, w = mUp v125 31 (.ref q133) := ⟨_, rfl⟩
  obtain ⟨a133, ea133⟩ : ∃ w, w = upF a125 14 q133 := ⟨_, rfl⟩
  obtain ⟨f133, ef133⟩ : ∃ w, w = upF f125 14 k133 := ⟨_, rfl⟩
  rw [← ev133, ← ea133, ← ef133] at hP hD
  rw [← ef133] at hK
  refine W.widen (k := 15) (n := 32926) (by decide +kernel) (by decide +kernel) ?_
  refine newRowM 15 (n := 60) (N' := 60) (k := 32) (index := 65) (atype := .int) (ty := .int) hx hb hts iX12_init_in12 hown hin hK hP hD hS hA hl dX12_init_138 (fun h => lv_bipush (v := 60) hx hb dX12_init_139 (by decide) h) (hts (.arrayClass .int) (by decide +kernel)) rfl rfl (fun _ => rfl) (by decide +kernel) (by decide +kernel) (by decide +kernel) (by decide +kernel) (by decide +kernel) dX12_init_141 (by decide) (hts (.fieldLink RX12 65 "OptimaWorksModel" "binderLong" "[I") (by decide +kernel)) rfl rfl (by decide +kernel) dX12_init_143 (fun q141 k141 H locs hK hP hD hS => ?_)
  obtain ⟨v141, ev141⟩ : ∃ w, w = mUp v133 32 (.ref q141) := ⟨_, rfl⟩
  obtain ⟨a141, ea141⟩ : ∃ w, w = upF a133 15 q141 := ⟨_, rfl⟩
  obtain ⟨f141, ef141⟩ : ∃ w, w = upF f133 15 k141 := ⟨_, rfl⟩
  rw [← ev141, ← ea141, ← ef141] at hP hD
  rw [← ef141] at hK
  refine W.widen (k := 16) (n := 32986) (by decide +kernel) (by decide +kernel) ?_
  refine newIntM (n := (-1)) (k := 33) (index := 68) hx hb hts iX12_init_in12 hown hK hP hD hS hl dX12_init_146 (fun h => lv_iconst (v := (-1)) hx hb dX12_init_147 (by decide) h) (by decide) (hts (.fieldLink RX12 68 "OptimaWorksModel" "ownFrom" "I") (by decide +kernel)) rfl rfl (by decide +kernel) dX12_init_148 (fun H locs hP hD hS => ?_)
  obtain ⟨v148, ev148⟩ : ∃ w, w = mUp v141 33 (.int (-1)) := ⟨_, rfl⟩
  rw [← ev148] at hP hD
  refine newRowM 16 (n := 44) (N' := 44) (k := 39) (index := 71) (atype := .int) (ty := .int) hx hb hts iX12_init_in12 hown hin hK hP hD hS hA hl dX12_init_151 (fun h => lv_bipush (v := 44) hx hb dX12_init_152 (by decide) h) (hts (.arrayClass .int) (by decide +kernel)) rfl rfl (fun _ => rfl) (by decide +kernel) (by decide +kernel) (by decide +kernel) (by decide +kernel) (by decide +kernel) dX12_init_154 (by decide) (hts (.fieldLink RX12 71 "OptimaWorksModel" "setLow" "[I") (by decide +kernel)) rfl rfl (by decide +kernel) dX12_init_156 (fun q154 k154 H locs hK hP hD hS => ?_)
  obtain ⟨v154, ev154⟩ : ∃ w, w = mUp v148 39 (.ref q154) := ⟨_, rfl⟩
  obtain ⟨a154, ea154⟩ : ∃ w, w = upF a141 16 q154 := ⟨_, rfl⟩
  obtain ⟨f154, ef154⟩ : ∃ w, w = upF f141 16 k154 := ⟨_, rfl⟩
  rw [← ev154, ← ea154, ← ef154] at hP hD
  rw [← ef154] at hK
  refine W.widen (k := 17) (n := 33030) (by decide +kernel) (by decide +kernel) ?_
  refine newRowM 17 (n := 44) (N' := 44) (k := 40) (index := 74) (atype := .int) (ty := .int) hx hb hts iX12_init_in12 hown hin hK hP hD hS hA hl dX12_init_159 (fun h => lv_bipush (v := 44) hx hb dX12_init_160 (by decide) h) (hts (.arrayClass .int) (by decide +kernel)) rfl rfl (fun _ => rfl) (by decide +kernel) (by decide +kernel) (by decide +kernel) (by decide +kernel) (by decide +kernel) dX12_init_162 (by decide) (hts (.fieldLink RX12 74 "OptimaWorksModel" "setMany" "[I") (by decide +kernel)) rfl rfl (by decide +kernel) dX12_init_164 (fun q162 k162 H locs hK hP hD hS => ?_)
  obtain ⟨v162, ev162⟩ : ∃ w, w = mUp v154 40 (.ref q162) := ⟨_, rfl⟩
  obtain ⟨a162, ea162⟩ : ∃ w, w = upF a154 17 q162 := ⟨_, rfl⟩
  obtain ⟨f162, ef162⟩ : ∃ w, w = upF f154 17 k162 := ⟨_, rfl⟩
  rw [← ev162, ← ea162, ← ef162] at hP hD
  rw [← ef162] at hK
  refine W.widen (k := 18) (n := 33074) (by decide +kernel) (by decide +kernel) ?_
  refine newRowM 18 (n := 44) (N' := 44) (k := 41) (index := 77) (atype := .int) (ty := .int) hx hb hts iX12_init_in12 hown hin hK hP hD hS hA hl dX12_init_167 (fun h => lv_bipush (v := 44) hx hb dX12_init_168 (by decide) h) (hts (.arrayClass .int) (by decide +kernel)) rfl rfl (fun _ => rfl) (by decide +kernel) (by decide +kernel) (by decide +kernel) (by decide +kernel) (by decide +kernel) dX12_init_170 (by decide) (hts (.fieldLink RX12 77 "OptimaWorksModel" "paramPlaces" "[I") (by decide +kernel)) rfl rfl (by decide +kernel) dX12_init_172 (fun q170 k170 H locs hK hP hD hS => ?_)
  obtain ⟨v170, ev170⟩ : ∃ w, w = mUp v162 41 (.ref q170) := ⟨_, rfl⟩
  obtain ⟨a170, ea170⟩ : ∃ w, w = upF a162 18 q170 := ⟨_, rfl⟩
  obtain ⟨f170, ef170⟩ : ∃ w, w = upF f162 18 k170 := ⟨_, rfl⟩
  rw [← ev170, ← ea170, ← ef170] at hP hD
  rw [← ef170] at hK
  refine W.widen (k := 19) (n := 33118) (by decide +kernel) (by decide +kernel) ?_
  refine newRowM 19 (n := 44) (N' := 44) (k := 42) (index := 80) (atype := .int) (ty := .int) hx hb hts iX12_init_in12 hown hin hK hP hD hS hA hl dX12_init_175 (fun h => lv_bipush (v := 44) hx hb dX12_init_176 (by decide) h) (hts (.arrayClass .int) (by decide +kernel)) rfl rfl (fun _ => rfl) (by decide +kernel) (by decide +kernel) (by decide +kernel) (by decide +kernel) (by decide +kernel) dX12_init_178 (by decide) (hts (.fieldLink RX12 80 "OptimaWorksModel" "paramOne" "[I") (by decide +kernel)) rfl rfl (by decide +kernel) dX12_init_180 (fun q178 k178 H locs hK hP hD hS => ?_)
  obtain ⟨v178, ev178⟩ : ∃ w, w = mUp v170 42 (.ref q178) := ⟨_, rfl⟩
  obtain ⟨a178, ea178⟩ : ∃ w, w = upF a170 19 q178 := ⟨_, rfl⟩
  obtain ⟨f178, ef178⟩ : ∃ w, w = upF f170 19 k178 := ⟨_, rfl⟩
  rw [← ev178, ← ea178, ← ef178] at hP hD
  rw [← ef178] at hK
  refine W.widen (k := 20) (n := 33162) (by decide +kernel) (by decide +kernel) ?_
  refine newRowM 20 (n := 44) (N' := 44) (k := 43) (index := 83) (atype := .int) (ty := .int) hx hb hts iX12_init_in12 hown hin hK hP hD hS hA hl dX12_init_183 (fun h => lv_bipush (v := 44) hx hb dX12_init_184 (by decide) h) (hts (.arrayClass .int) (by decide +kernel)) rfl rfl (fun _ => rfl) (by decide +kernel) (by decide +kernel) (by decide +kernel) (by decide +kernel) (by decide +kernel) dX12_init_186 (by decide) (hts (.fieldLink RX12 83 "OptimaWorksModel" "paramTwo" "[I") (by decide +kernel)) rfl rfl (by decide +kernel) dX12_init_188 (fun q186 k186 H locs hK hP hD hS => ?_)
  obtain ⟨v186, ev186⟩ : ∃ w, w = mUp v178 43 (.ref q186) := ⟨_, rfl⟩
  obtain ⟨a186, ea186⟩ : ∃ w, w = upF a178 20 q186 := ⟨_, rfl⟩
  obtain ⟨f186, ef186⟩ : ∃ w, w = upF f178 20 k186 := ⟨_, rfl⟩
  rw [← ev186, ← ea186, ← ef186] at hP hD
  rw [← ef186] at hK
  refine W.widen (k := 21) (n := 33206) (by decide +kernel) (by decide +kernel) ?_
  refine newRowM 21 (n := 44) (N' := 44) (k := 44) (index := 86) (atype := .int) (ty := .int) hx hb hts iX12_init_in12 hown hin hK hP hD hS hA hl dX12_init_191 (fun h => lv_bipush (v := 44) hx hb dX12_init_192 (by decide) h) (hts (.arrayClass .int) (by decide +kernel)) rfl rfl (fun _ => rfl) (by decide +kernel) (by decide +kernel) (by decide +kernel) (by decide +kernel) (by decide +kernel) dX12_init_194 (by decide) (hts (.fieldLink RX12 86 "OptimaWorksModel" "paramAt" "[I") (by decide +kernel)) rfl rfl (by decide +kernel) dX12_init_196 (fun q194 k194 H locs hK hP hD hS => ?_)
  obtain ⟨v194, ev194⟩ : ∃ w, w = mUp v186 44 (.ref q194) := ⟨_, rfl⟩
  obtain ⟨a194, ea194⟩ : ∃ w, w = upF a186 21 q194 := ⟨_, rfl⟩
  obtain ⟨f194, ef194⟩ : ∃ w, w = upF f186 21 k194 := ⟨_, rfl⟩
  rw [← ev194, ← ea194, ← ef194] at hP hD
  rw [← ef194] at hK
  refine W.widen (k := 22) (n := 33250) (by decide +kernel) (by decide +kernel) ?_
  refine newRowM 22 (n := 6400) (N' := 6400) (k := 45) (index := 89) (atype := .int) (ty := .int) hx hb hts iX12_init_in12 hown hin hK hP hD hS hA hl dX12_init_199 (fun h => lv_sipush (v := 6400) hx hb dX12_init_200 (by decide) h) (hts (.arrayClass .int) (by decide +kernel)) rfl rfl (fun _ => rfl) (by decide +kernel) (by decide +kernel) (by decide +kernel) (by decide +kernel) (by decide +kernel) dX12_init_203 (by decide) (hts (.fieldLink RX12 89 "OptimaWorksModel" "paramTop" "[I") (by decide +kernel)) rfl rfl (by decide +kernel) dX12_init_205 (fun q203 k203 H locs hK hP hD hS => ?_)
  obtain ⟨v203, ev203⟩ : ∃ w, w = mUp v194 45 (.ref q203) := ⟨_, rfl⟩
  obtain ⟨a203, ea203⟩ : ∃ w, w = upF a194 22 q203 := ⟨_, rfl⟩
  obtain ⟨f203, ef203⟩ : ∃ w, w = upF f194 22 k203 := ⟨_, rfl⟩
  rw [← ev203, ← ea203, ← ef203] at hP hD
  rw [← ef203] at hK
  refine W.widen (k := 23) (n := 39650) (by decide +kernel) (by decide +kernel) ?_
  refine newRowM 23 (n := 6400) (N' := 6400) (k := 46) (index := 92) (atype := .int) (ty := .int) hx hb hts iX12_init_in12 hown hin hK hP hD hS hA hl dX12_init_208 (fun h => lv_sipush (v := 6400) hx hb dX12_init_209 (by decide) h) (hts (.arrayClass .int) (by decide +kernel)) rfl rfl (fun _ => rfl) (by decide +kernel) (by decide +kernel) (by decide +kernel) (by decide +kernel) (by decide +kernel) dX12_init_212 (by decide) (hts (.fieldLink RX12 92 "OptimaWorksModel" "paramUnder" "[I") (by decide +kernel)) rfl rfl (by decide +kernel) dX12_init_214 (fun q212 k212 H locs hK hP hD hS => ?_)
  obtain ⟨v212, ev212⟩ : ∃ w, w = mUp v203 46 (.ref q212) := ⟨_, rfl⟩
  obtain ⟨a212, ea212⟩ : ∃ w, w = upF a203 23 q212 := ⟨_, rfl⟩
  obtain ⟨f212, ef212⟩ : ∃ w, w = upF f203 23 k212 := ⟨_, rfl⟩
  rw [← ev212, ← ea212, ← ef212] at hP hD
  rw [← ef212] at hK
  refine W.widen (k := 24) (n := 46050) (by decide +kernel) (by decide +kernel) ?_
  refine newRowM 24 (n := 44) (N' := 44) (k := 47) (index := 95) (atype := .int) (ty := .int) hx hb hts iX12_init_in12 hown hin hK hP hD hS hA hl dX12_init_217 (fun h => lv_bipush (v := 44) hx hb dX12_init_218 (by decide) h) (hts (.arrayClass .int) (by decide +kernel)) rfl rfl (fun _ => rfl) (by decide +kernel) (by decide +kernel) (by decide +kernel) (by decide +kernel) (by decide +kernel) dX12_init_220 (by decide) (hts (.fieldLink RX12 95 "OptimaWorksModel" "varPlaces" "[I") (by decide +kernel)) rfl rfl (by decide +kernel) dX12_init_222 (fun q220 k220 H locs hK hP hD hS => ?_)
  obtain ⟨v220, ev220⟩ : ∃ w, w = mUp v212 47 (.ref q220) := ⟨_, rfl⟩
  obtain ⟨a220, ea220⟩ : ∃ w, w = upF a212 24 q220 := ⟨_, rfl⟩
  obtain ⟨f220, ef220⟩ : ∃ w, w = upF f212 24 k220 := ⟨_, rfl⟩
  rw [← ev220, ← ea220, ← ef220] at hP hD
  rw [← ef220] at hK
  refine W.widen (k := 25) (n := 46094) (by decide +kernel) (by decide +kernel) ?_
  refine newRowM 25 (n := 44) (N' := 44) (k := 48) (index := 98) (atype := .int) (ty := .int) hx hb hts iX12_init_in12 hown hin hK hP hD hS hA hl dX12_init_225 (fun h => lv_bipush (v := 44) hx hb dX12_init_226 (by decide) h) (hts (.arrayClass .int) (by decide +kernel)) rfl rfl (fun _ => rfl) (by decide +kernel) (by decide +kernel) (by decide +kernel) (by decide +kernel) (by decide +kernel) dX12_init_228 (by decide) (hts (.fieldLink RX12 98 "OptimaWorksModel" "varOne" "[I") (by decide +kernel)) rfl rfl (by decide +kernel) dX12_init_230 (fun q228 k228 H locs hK hP hD hS => ?_)
  obtain ⟨v228, ev228⟩ : ∃ w, w = mUp v220 48 (.ref q228) := ⟨_, rfl⟩
  obtain ⟨a228, ea228⟩ : ∃ w, w = upF a220 25 q228 := ⟨_, rfl⟩
  obtain ⟨f228, ef228⟩ : ∃ w, w = upF f220 25 k228 := ⟨_, rfl⟩
  rw [← ev228, ← ea228, ← ef228] at hP hD
  rw [← ef228] at hK
  refine W.widen (k := 26) (n := 46138) (by decide +kernel) (by decide +kernel) ?_
  refine newRowM 26 (n := 44) (N' := 44) (k := 49) (index := 101) (atype := .int) (ty := .int) hx hb hts iX12_init_in12 hown hin hK hP hD hS hA hl dX12_init_233 (fun h => lv_bipush (v := 44) hx hb dX12_init_234 (by decide) h) (hts (.arrayClass .int) (by decide +kernel)) rfl rfl (fun _ => rfl) (by decide +kernel) (by decide +kernel) (by decide +kernel) (by decide +kernel) (by decide +kernel) dX12_init_236 (by decide) (hts (.fieldLink RX12 101 "OptimaWorksModel" "varTwo" "[I") (by decide +kernel)) rfl rfl (by decide +kernel) dX12_init_238 (fun q236 k236 H locs hK hP hD hS => ?_)
  obtain ⟨v236, ev236⟩ : ∃ w, w = mUp v228 49 (.ref q236) := ⟨_, rfl⟩
  obtain ⟨a236, ea236⟩ : ∃ w, w = upF a228 26 q236 := ⟨_, rfl⟩
  obtain ⟨f236, ef236⟩ : ∃ w, w = upF f228 26 k236 := ⟨_, rfl⟩
  rw [← ev236, ← ea236, ← ef236] at hP hD
  rw [← ef236] at hK
  refine W.widen (k := 27) (n := 46182) (by decide +kernel) (by decide +kernel) ?_
  refine newRowM 27 (n := 44) (N' := 44) (k := 50) (index := 104) (atype := .int) (ty := .int) hx hb hts iX12_init_in12 hown hin hK hP hD hS hA hl dX12_init_241 (fun h => lv_bipush (v := 44) hx hb dX12_init_242 (by decide) h) (hts (.arrayClass .int) (by decide +kernel)) rfl rfl (fun _ => rfl) (by decide +kernel) (by decide +kernel) (by decide +kernel) (by decide +kernel) (by decide +kernel) dX12_init_244 (by decide) (hts (.fieldLink RX12 104 "OptimaWorksModel" "varAt" "[I") (by decide +kernel)) rfl rfl (by decide +kernel) dX12_init_246 (fun q244 k244 H locs hK hP hD hS => ?_)
  obtain ⟨v244, ev244⟩ : ∃ w, w = mUp v236 50 (.ref q244) := ⟨_, rfl⟩
  obtain ⟨a244, ea244⟩ : ∃ w, w = upF a236 27 q244 := ⟨_, rfl⟩
  obtain ⟨f244, ef244⟩ : ∃ w, w = upF f236 27 k244 := ⟨_, rfl⟩
  rw [← ev244, ← ea244, ← ef244] at hP hD
  rw [← ef244] at hK
  refine W.widen (k := 28) (n := 46226) (by decide +kernel) (by decide +kernel) ?_
  refine newRowM 28 (n := 44) (N' := 44) (k := 51) (index := 107) (atype := .int) (ty := .int) hx hb hts iX12_init_in12 hown hin hK hP hD hS hA hl dX12_init_249 (fun h => lv_bipush (v := 44) hx hb dX12_init_250 (by decide) h) (hts (.arrayClass .int) (by decide +kernel)) rfl rfl (fun _ => rfl) (by decide +kernel) (by decide +kernel) (by decide +kernel) (by decide +kernel) (by decide +kernel) dX12_init_252 (by decide) (hts (.fieldLink RX12 107 "OptimaWorksModel" "varWhole" "[I") (by decide +kernel)) rfl rfl (by decide +kernel) dX12_init_254 (fun q252 k252 H locs hK hP hD hS => ?_)
  obtain ⟨v252, ev252⟩ : ∃ w, w = mUp v244 51 (.ref q252) := ⟨_, rfl⟩
  obtain ⟨a252, ea252⟩ : ∃ w, w = upF a244 28 q252 := ⟨_, rfl⟩
  obtain ⟨f252, ef252⟩ : ∃ w, w = upF f244 28 k252 := ⟨_, rfl⟩
  rw [← ev252, ← ea252, ← ef252] at hP hD
  rw [← ef252] at hK
  refine W.widen (k := 29) (n := 46270) (by decide +kernel) (by decide +kernel) ?_
  refine newRowM 29 (n := 4200) (N' := 4200) (k := 53) (index := 110) (atype := .int) (ty := .int) hx hb hts iX12_init_in12 hown hin hK hP hD hS hA hl dX12_init_257 (fun h => lv_sipush (v := 4200) hx hb dX12_init_258 (by decide) h) (hts (.arrayClass .int) (by decide +kernel)) rfl rfl (fun _ => rfl) (by decide +kernel) (by decide +kernel) (by decide +kernel) (by decide +kernel) (by decide +kernel) dX12_init_261 (by decide) (hts (.fieldLink RX12 110 "OptimaWorksModel" "kind" "[I") (by decide +kernel)) rfl rfl (by decide +kernel) dX12_init_263 (fun q261 k261 H locs hK hP hD hS => ?_)
  obtain ⟨v261, ev261⟩ : ∃ w, w = mUp v252 53 (.ref q261) := ⟨_, rfl⟩
  obtain ⟨a261, ea261⟩ : ∃ w, w = upF a252 29 q261 := ⟨_, rfl⟩
  obtain ⟨f261, ef261⟩ : ∃ w, w = upF f252 29 k261 := ⟨_, rfl⟩
  rw [← ev261, ← ea261, ← ef261] at hP hD
  rw [← ef261] at hK
  refine W.widen (k := 30) (n := 50470) (by decide +kernel) (by decide +kernel) ?_
  refine newRowM 30 (n := 4200) (N' := 4200) (k := 54) (index := 113) (atype := .int) (ty := .int) hx hb hts iX12_init_in12 hown hin hK hP hD hS hA hl dX12_init_266 (fun h => lv_sipush (v := 4200) hx hb dX12_init_267 (by decide) h) (hts (.arrayClass .int) (by decide +kernel)) rfl rfl (fun _ => rfl) (by decide +kernel) (by decide +kernel) (by decide +kernel) (by decide +kernel) (by decide +kernel) dX12_init_270 (by decide) (hts (.fieldLink RX12 113 "OptimaWorksModel" "partA" "[I") (by decide +kernel)) rfl rfl (by decide +kernel) dX12_init_272 (fun q270 k270 H locs hK hP hD hS => ?_)
  obtain ⟨v270, ev270⟩ : ∃ w, w = mUp v261 54 (.ref q270) := ⟨_, rfl⟩
  obtain ⟨a270, ea270⟩ : ∃ w, w = upF a261 30 q270 := ⟨_, rfl⟩
  obtain ⟨f270, ef270⟩ : ∃ w, w = upF f261 30 k270 := ⟨_, rfl⟩
  rw [← ev270, ← ea270, ← ef270] at hP hD
  rw [← ef270] at hK
  refine W.widen (k := 31) (n := 54670) (by decide +kernel) (by decide +kernel) ?_
  refine newRowM 31 (n := 4200) (N' := 4200) (k := 55) (index := 116) (atype := .int) (ty := .int) hx hb hts iX12_init_in12 hown hin hK hP hD hS hA hl dX12_init_275 (fun h => lv_sipush (v := 4200) hx hb dX12_init_276 (by decide) h) (hts (.arrayClass .int) (by decide +kernel)) rfl rfl (fun _ => rfl) (by decide +kernel) (by decide +kernel) (by decide +kernel) (by decide +kernel) (by decide +kernel) dX12_init_279 (by decide) (hts (.fieldLink RX12 116 "OptimaWorksModel" "partB" "[I") (by decide +kernel)) rfl rfl (by decide +kernel) dX12_init_281 (fun q279 k279 H locs hK hP hD hS => ?_)
  obtain ⟨v279, ev279⟩ : ∃ w, w = mUp v270 55 (.ref q279) := ⟨_, rfl⟩
  obtain ⟨a279, ea279⟩ : ∃ w, w = upF a270 31 q279 := ⟨_, rfl⟩
  obtain ⟨f279, ef279⟩ : ∃ w, w = upF f270 31 k279 := ⟨_, rfl⟩
  rw [← ev279, ← ea279, ← ef279] at hP hD
  rw [← ef279] at hK
  refine W.widen (k := 32) (n := 58870) (by decide +kernel) (by decide +kernel) ?_
  refine newRowM 32 (n := 4200) (N' := 4200) (k := 56) (index := 119) (atype := .int) (ty := .int) hx hb hts iX12_init_in12 hown hin hK hP hD hS hA hl dX12_init_284 (fun h => lv_sipush (v := 4200) hx hb dX12_init_285 (by decide) h) (hts (.arrayClass .int) (by decide +kernel)) rfl rfl (fun _ => rfl) (by decide +kernel) (by decide +kernel) (by decide +kernel) (by decide +kernel) (by decide +kernel) dX12_init_288 (by decide) (hts (.fieldLink RX12 119 "OptimaWorksModel" "partC" "[I") (by decide +kernel)) rfl rfl (by decide +kernel) dX12_init_290 (fun q288 k288 H locs hK hP hD hS => ?_)
  obtain ⟨v288, ev288⟩ : ∃ w, w = mUp v279 56 (.ref q288) := ⟨_, rfl⟩
  obtain ⟨a288, ea288⟩ : ∃ w, w = upF a279 32 q288 := ⟨_, rfl⟩
  obtain ⟨f288, ef288⟩ : ∃ w, w = upF f279 32 k288 := ⟨_, rfl⟩
  rw [← ev288, ← ea288, ← ef288] at hP hD
  rw [← ef288] at hK
  refine W.widen (k := 33) (n := 63070) (by decide +kernel) (by decide +kernel) ?_
  refine newRowM 33 (n := 4200) (N' := 4200) (k := 57) (index := 122) (atype := .int) (ty := .int) hx hb hts iX12_init_in12 hown hin hK hP hD hS hA hl dX12_init_293 (fun h => lv_sipush (v := 4200) hx hb dX12_init_294 (by decide) h) (hts (.arrayClass .int) (by decide +kernel)) rfl rfl (fun _ => rfl) (by decide +kernel) (by decide +kernel) (by decide +kernel) (by decide +kernel) (by decide +kernel) dX12_init_297 (by decide) (hts (.fieldLink RX12 122 "OptimaWorksModel" "where" "[I") (by decide +kernel)) rfl rfl (by decide +kernel) dX12_init_299 (fun q297 k297 H locs hK hP hD hS => ?_)
  obtain ⟨v297, ev297⟩ : ∃ w, w = mUp v288 57 (.ref q297) := ⟨_, rfl⟩
  obtain ⟨a297, ea297⟩ : ∃ w, w = upF a288 33 q297 := ⟨_, rfl⟩
  obtain ⟨f297, ef297⟩ : ∃ w, w = upF f288 33 k297 := ⟨_, rfl⟩
  rw [← ev297, ← ea297, ← ef297] at hP hD
  rw [← ef297] at hK
  refine W.widen (k := 34) (n := 67270) (by decide +kernel) (by decide +kernel) ?_
  refine newRowM 34 (n := 4200) (N' := 4200) (k := 58) (index := 125) (atype := .int) (ty := .int) hx hb hts iX12_init_in12 hown hin hK hP hD hS hA hl dX12_init_302 (fun h => lv_sipush (v := 4200) hx hb dX12_init_303 (by decide) h) (hts (.arrayClass .int) (by decide +kernel)) rfl rfl (fun _ => rfl) (by decide +kernel) (by decide +kernel) (by decide +kernel) (by decide +kernel) (by decide +kernel) dX12_init_306 (by decide) (hts (.fieldLink RX12 125 "OptimaWorksModel" "firstA" "[I") (by decide +kernel)) rfl rfl (by decide +kernel) dX12_init_308 (fun q306 k306 H locs hK hP hD hS => ?_)
  obtain ⟨v306, ev306⟩ : ∃ w, w = mUp v297 58 (.ref q306) := ⟨_, rfl⟩
  obtain ⟨a306, ea306⟩ : ∃ w, w = upF a297 34 q306 := ⟨_, rfl⟩
  obtain ⟨f306, ef306⟩ : ∃ w, w = upF f297 34 k306 := ⟨_, rfl⟩
  rw [← ev306, ← ea306, ← ef306] at hP hD
  rw [← ef306] at hK
  refine W.widen (k := 35) (n := 71470) (by decide +kernel) (by decide +kernel) ?_
  refine newRowM 35 (n := 4200) (N' := 4200) (k := 59) (index := 128) (atype := .int) (ty := .int) hx hb hts iX12_init_in12 hown hin hK hP hD hS hA hl dX12_init_311 (fun h => lv_sipush (v := 4200) hx hb dX12_init_312 (by decide) h) (hts (.arrayClass .int) (by decide +kernel)) rfl rfl (fun _ => rfl) (by decide +kernel) (by decide +kernel) (by decide +kernel) (by decide +kernel) (by decide +kernel) dX12_init_315 (by decide) (hts (.fieldLink RX12 128 "OptimaWorksModel" "firstB" "[I") (by decide +kernel)) rfl rfl (by decide +kernel) dX12_init_317 (fun q315 k315 H locs hK hP hD hS => ?_)
  obtain ⟨v315, ev315⟩ : ∃ w, w = mUp v306 59 (.ref q315) := ⟨_, rfl⟩
  obtain ⟨a315, ea315⟩ : ∃ w, w = upF a306 35 q315 := ⟨_, rfl⟩
  obtain ⟨f315, ef315⟩ : ∃ w, w = upF f306 35 k315 := ⟨_, rfl⟩
  rw [← ev315, ← ea315, ← ef315] at hP hD
  rw [← ef315] at hK
  refine W.widen (k := 36) (n := 75670) (by decide +kernel) (by decide +kernel) ?_
  refine newRowM 36 (n := 900) (N' := 900) (k := 61) (index := 131) (atype := .int) (ty := .int) hx hb hts iX12_init_in12 hown hin hK hP hD hS hA hl dX12_init_320 (fun h => lv_sipush (v := 900) hx hb dX12_init_321 (by decide) h) (hts (.arrayClass .int) (by decide +kernel)) rfl rfl (fun _ => rfl) (by decide +kernel) (by decide +kernel) (by decide +kernel) (by decide +kernel) (by decide +kernel) dX12_init_324 (by decide) (hts (.fieldLink RX12 131 "OptimaWorksModel" "bindOne" "[I") (by decide +kernel)) rfl rfl (by decide +kernel) dX12_init_326 (fun q324 k324 H locs hK hP hD hS => ?_)
  obtain ⟨v324, ev324⟩ : ∃ w, w = mUp v315 61 (.ref q324) := ⟨_, rfl⟩
  obtain ⟨a324, ea324⟩ : ∃ w, w = upF a315 36 q324 := ⟨_, rfl⟩
  obtain ⟨f324, ef324⟩ : ∃ w, w = upF f315 36 k324 := ⟨_, rfl⟩
  rw [← ev324, ← ea324, ← ef324] at hP hD
  rw [← ef324] at hK
  refine W.widen (k := 37) (n := 76570) (by decide +kernel) (by decide +kernel) ?_
  refine newRowM 37 (n := 900) (N' := 900) (k := 62) (index := 134) (atype := .int) (ty := .int) hx hb hts iX12_init_in12 hown hin hK hP hD hS hA hl dX12_init_329 (fun h => lv_sipush (v := 900) hx hb dX12_init_330 (by decide) h) (hts (.arrayClass .int) (by decide +kernel)) rfl rfl (fun _ => rfl) (by decide +kernel) (by decide +kernel) (by decide +kernel) (by decide +kernel) (by decide +kernel) dX12_init_333 (by decide) (hts (.fieldLink RX12 134 "OptimaWorksModel" "bindTwo" "[I") (by decide +kernel)) rfl rfl (by decide +kernel) dX12_init_335 (fun q333 k333 H locs hK hP hD hS => ?_)
  obtain ⟨v333, ev333⟩ : ∃ w, w = mUp v324 62 (.ref q333) := ⟨_, rfl⟩
  obtain ⟨a333, ea333⟩ : ∃ w, w = upF a324 37 q333 := ⟨_, rfl⟩
  obtain ⟨f333, ef333⟩ : ∃ w, w = upF f324 37 k333 := ⟨_, rfl⟩
  rw [← ev333, ← ea333, ← ef333] at hP hD
  rw [← ef333] at hK
  refine W.widen (k := 38) (n := 77470) (by decide +kernel) (by decide +kernel) ?_
  refine newRowM 38 (n := 900) (N' := 900) (k := 63) (index := 137) (atype := .int) (ty := .int) hx hb hts iX12_init_in12 hown hin hK hP hD hS hA hl dX12_init_338 (fun h => lv_sipush (v := 900) hx hb dX12_init_339 (by decide) h) (hts (.arrayClass .int) (by decide +kernel)) rfl rfl (fun _ => rfl) (by decide +kernel) (by decide +kernel) (by decide +kernel) (by decide +kernel) (by decide +kernel) dX12_init_342 (by decide) (hts (.fieldLink RX12 137 "OptimaWorksModel" "bindAt" "[I") (by decide +kernel)) rfl rfl (by decide +kernel) dX12_init_344 (fun q342 k342 H locs hK hP hD hS => ?_)
  obtain ⟨v342, ev342⟩ : ∃ w, w = mUp v333 63 (.ref q342) := ⟨_, rfl⟩
  obtain ⟨a342, ea342⟩ : ∃ w, w = upF a333 38 q342 := ⟨_, rfl⟩
  obtain ⟨f342, ef342⟩ : ∃ w, w = upF f333 38 k342 := ⟨_, rfl⟩
  rw [← ev342, ← ea342, ← ef342] at hP hD
  rw [← ef342] at hK
  refine W.widen (k := 39) (n := 78370) (by decide +kernel) (by decide +kernel) ?_
  refine newRowM 39 (n := 120) (N' := 120) (k := 64) (index := 140) (atype := .int) (ty := .int) hx hb hts iX12_init_in12 hown hin hK hP hD hS hA hl dX12_init_347 (fun h => lv_bipush (v := 120) hx hb dX12_init_348 (by decide) h) (hts (.arrayClass .int) (by decide +kernel)) rfl rfl (fun _ => rfl) (by decide +kernel) (by decide +kernel) (by decide +kernel) (by decide +kernel) (by decide +kernel) dX12_init_350 (by decide) (hts (.fieldLink RX12 140 "OptimaWorksModel" "what" "[I") (by decide +kernel)) rfl rfl (by decide +kernel) dX12_init_352 (fun q350 k350 H locs hK hP hD hS => ?_)
  obtain ⟨v350, ev350⟩ : ∃ w, w = mUp v342 64 (.ref q350) := ⟨_, rfl⟩
  obtain ⟨a350, ea350⟩ : ∃ w, w = upF a342 39 q350 := ⟨_, rfl⟩
  obtain ⟨f350, ef350⟩ : ∃ w, w = upF f342 39 k350 := ⟨_, rfl⟩
  rw [← ev350, ← ea350, ← ef350] at hP hD
  rw [← ef350] at hK
  refine W.widen (k := 40) (n := 78490) (by decide +kernel) (by decide +kernel) ?_
  refine newRowM 40 (n := 120) (N' := 120) (k := 65) (index := 143) (atype := .int) (ty := .int) hx hb hts iX12_init_in12 hown hin hK hP hD hS hA hl dX12_init_355 (fun h => lv_bipush (v := 120) hx hb dX12_init_356 (by decide) h) (hts (.arrayClass .int) (by decide +kernel)) rfl rfl (fun _ => rfl) (by decide +kernel) (by decide +kernel) (by decide +kernel) (by decide +kernel) (by decide +kernel) dX12_init_358 (by decide) (hts (.fieldLink RX12 143 "OptimaWorksModel" "step" "[I") (by decide +kernel)) rfl rfl (by decide +kernel) dX12_init_360 (fun q358 k358 H locs hK hP hD hS => ?_)
  obtain ⟨v358, ev358⟩ : ∃ w, w = mUp v350 65 (.ref q358) := ⟨_, rfl⟩
  obtain ⟨a358, ea358⟩ : ∃ w, w = upF a350 40 q358 := ⟨_, rfl⟩
  obtain ⟨f358, ef358⟩ : ∃ w, w = upF f350 40 k358 := ⟨_, rfl⟩
  rw [← ev358, ← ea358, ← ef358] at hP hD
  rw [← ef358] at hK
  refine W.widen (k := 41) (n := 78610) (by decide +kernel) (by decide +kernel) ?_
  refine newRowM 41 (n := 120) (N' := 120) (k := 66) (index := 146) (atype := .int) (ty := .int) hx hb hts iX12_init_in12 hown hin hK hP hD hS hA hl dX12_init_363 (fun h => lv_bipush (v := 120) hx hb dX12_init_364 (by decide) h) (hts (.arrayClass .int) (by decide +kernel)) rfl rfl (fun _ => rfl) (by decide +kernel) (by decide +kernel) (by decide +kernel) (by decide +kernel) (by decide +kernel) dX12_init_366 (by decide) (hts (.fieldLink RX12 146 "OptimaWorksModel" "got1" "[I") (by decide +kernel)) rfl rfl (by decide +kernel) dX12_init_368 (fun q366 k366 H locs hK hP hD hS => ?_)
  obtain ⟨v366, ev366⟩ : ∃ w, w = mUp v358 66 (.ref q366) := ⟨_, rfl⟩
  obtain ⟨a366, ea366⟩ : ∃ w, w = upF a358 41 q366 := ⟨_, rfl⟩
  obtain ⟨f366, ef366⟩ : ∃ w, w = upF f358 41 k366 := ⟨_, rfl⟩
  rw [← ev366, ← ea366, ← ef366] at hP hD
  rw [← ef366] at hK
  refine W.widen (k := 42) (n := 78730) (by decide +kernel) (by decide +kernel) ?_
  refine newRowM 42 (n := 120) (N' := 120) (k := 67) (index := 149) (atype := .int) (ty := .int) hx hb hts iX12_init_in12 hown hin hK hP hD hS hA hl dX12_init_371 (fun h => lv_bipush (v := 120) hx hb dX12_init_372 (by decide) h) (hts (.arrayClass .int) (by decide +kernel)) rfl rfl (fun _ => rfl) (by decide +kernel) (by decide +kernel) (by decide +kernel) (by decide +kernel) (by decide +kernel) dX12_init_374 (by decide) (hts (.fieldLink RX12 149 "OptimaWorksModel" "got2" "[I") (by decide +kernel)) rfl rfl (by decide +kernel) dX12_init_376 (fun q374 k374 H locs hK hP hD hS => ?_)
  obtain ⟨v374, ev374⟩ : ∃ w, w = mUp v366 67 (.ref q374) := ⟨_, rfl⟩
  obtain ⟨a374, ea374⟩ : ∃ w, w = upF a366 42 q374 := ⟨_, rfl⟩
  obtain ⟨f374, ef374⟩ : ∃ w, w = upF f366 42 k374 := ⟨_, rfl⟩
  rw [← ev374, ← ea374, ← ef374] at hP hD
  rw [← ef374] at hK
  refine W.widen (k := 43) (n := 78850) (by decide +kernel) (by decide +kernel) ?_
  refine newRowM 43 (n := 120) (N' := 120) (k := 68) (index := 152) (atype := .int) (ty := .int) hx hb hts iX12_init_in12 hown hin hK hP hD hS hA hl dX12_init_379 (fun h => lv_bipush (v := 120) hx hb dX12_init_380 (by decide) h) (hts (.arrayClass .int) (by decide +kernel)) rfl rfl (fun _ => rfl) (by decide +kernel) (by decide +kernel) (by decide +kernel) (by decide +kernel) (by decide +kernel) dX12_init_382 (by decide) (hts (.fieldLink RX12 152 "OptimaWorksModel" "sign1" "[I") (by decide +kernel)) rfl rfl (by decide +kernel) dX12_init_384 (fun q382 k382 H locs hK hP hD hS => ?_)
  obtain ⟨v382, ev382⟩ : ∃ w, w = mUp v374 68 (.ref q382) := ⟨_, rfl⟩
  obtain ⟨a382, ea382⟩ : ∃ w, w = upF a374 43 q382 := ⟨_, rfl⟩
  obtain ⟨f382, ef382⟩ : ∃ w, w = upF f374 43 k382 := ⟨_, rfl⟩
  rw [← ev382, ← ea382, ← ef382] at hP hD
  rw [← ef382] at hK
  refine W.widen (k := 44) (n := 78970) (by decide +kernel) (by decide +kernel) ?_
  refine newRowM 44 (n := 120) (N' := 120) (k := 69) (index := 155) (atype := .int) (ty := .int) hx hb hts iX12_init_in12 hown hin hK hP hD hS hA hl dX12_init_387 (fun h => lv_bipush (v := 120) hx hb dX12_init_388 (by decide) h) (hts (.arrayClass .int) (by decide +kernel)) rfl rfl (fun _ => rfl) (by decide +kernel) (by decide +kernel) (by decide +kernel) (by decide +kernel) (by decide +kernel) dX12_init_390 (by decide) (hts (.fieldLink RX12 155 "OptimaWorksModel" "sign2" "[I") (by decide +kernel)) rfl rfl (by decide +kernel) dX12_init_392 (fun q390 k390 H locs hK hP hD hS => ?_)
  obtain ⟨v390, ev390⟩ : ∃ w, w = mUp v382 69 (.ref q390) := ⟨_, rfl⟩
  obtain ⟨a390, ea390⟩ : ∃ w, w = upF a382 44 q390 := ⟨_, rfl⟩
  obtain ⟨f390, ef390⟩ : ∃ w, w = upF f382 44 k390 := ⟨_, rfl⟩
  rw [← ev390, ← ea390, ← ef390] at hP hD
  rw [← ef390] at hK
  refine W.widen (k := 45) (n := 79090) (by decide +kernel) (by decide +kernel) ?_
  refine newRowM 45 (n := 120) (N' := 120) (k := 70) (index := 158) (atype := .int) (ty := .int) hx hb hts iX12_init_in12 hown hin hK hP hD hS hA hl dX12_init_395 (fun h => lv_bipush (v := 120) hx hb dX12_init_396 (by decide) h) (hts (.arrayClass .int) (by decide +kernel)) rfl rfl (fun _ => rfl) (by decide +kernel) (by decide +kernel) (by decide +kernel) (by decide +kernel) (by decide +kernel) dX12_init_398 (by decide) (hts (.fieldLink RX12 158 "OptimaWorksModel" "at1" "[I") (by decide +kernel)) rfl rfl (by decide +kernel) dX12_init_400 (fun q398 k398 H locs hK hP hD hS => ?_)
  obtain ⟨v398, ev398⟩ : ∃ w, w = mUp v390 70 (.ref q398) := ⟨_, rfl⟩
  obtain ⟨a398, ea398⟩ : ∃ w, w = upF a390 45 q398 := ⟨_, rfl⟩
  obtain ⟨f398, ef398⟩ : ∃ w, w = upF f390 45 k398 := ⟨_, rfl⟩
  rw [← ev398, ← ea398, ← ef398] at hP hD
  rw [← ef398] at hK
  refine W.widen (k := 46) (n := 79210) (by decide +kernel) (by decide +kernel) ?_
  refine newRowM 46 (n := 120) (N' := 120) (k := 71) (index := 161) (atype := .int) (ty := .int) hx hb hts iX12_init_in12 hown hin hK hP hD hS hA hl dX12_init_403 (fun h => lv_bipush (v := 120) hx hb dX12_init_404 (by decide) h) (hts (.arrayClass .int) (by decide +kernel)) rfl rfl (fun _ => rfl) (by decide +kernel) (by decide +kernel) (by decide +kernel) (by decide +kernel) (by decide +kernel) dX12_init_406 (by decide) (hts (.fieldLink RX12 161 "OptimaWorksModel" "at2" "[I") (by decide +kernel)) rfl rfl (by decide +kernel) dX12_init_408 (fun q406 k406 H locs hK hP hD hS => ?_)
  obtain ⟨v406, ev406⟩ : ∃ w, w = mUp v398 71 (.ref q406) := ⟨_, rfl⟩
  obtain ⟨a406, ea406⟩ : ∃ w, w = upF a398 46 q406 := ⟨_, rfl⟩
  obtain ⟨f406, ef406⟩ : ∃ w, w = upF f398 46 k406 := ⟨_, rfl⟩
  rw [← ev406, ← ea406, ← ef406] at hP hD
  rw [← ef406] at hK
  refine W.widen (k := 47) (n := 79330) (by decide +kernel) (by decide +kernel) ?_
  refine newRowM 47 (n := 120) (N' := 120) (k := 72) (index := 164) (atype := .int) (ty := .int) hx hb hts iX12_init_in12 hown hin hK hP hD hS hA hl dX12_init_411 (fun h => lv_bipush (v := 120) hx hb dX12_init_412 (by decide) h) (hts (.arrayClass .int) (by decide +kernel)) rfl rfl (fun _ => rfl) (by decide +kernel) (by decide +kernel) (by decide +kernel) (by decide +kernel) (by decide +kernel) dX12_init_414 (by decide) (hts (.fieldLink RX12 164 "OptimaWorksModel" "begins" "[I") (by decide +kernel)) rfl rfl (by decide +kernel) dX12_init_416 (fun q414 k414 H locs hK hP hD hS => ?_)
  obtain ⟨v414, ev414⟩ : ∃ w, w = mUp v406 72 (.ref q414) := ⟨_, rfl⟩
  obtain ⟨a414, ea414⟩ : ∃ w, w = upF a406 47 q414 := ⟨_, rfl⟩
  obtain ⟨f414, ef414⟩ : ∃ w, w = upF f406 47 k414 := ⟨_, rfl⟩
  rw [← ev414, ← ea414, ← ef414] at hP hD
  rw [← ef414] at hK
  refine W.widen (k := 48) (n := 79450) (by decide +kernel) (by decide +kernel) ?_
  refine newRowM 48 (n := 120) (N' := 120) (k := 73) (index := 167) (atype := .int) (ty := .int) hx hb hts iX12_init_in12 hown hin hK hP hD hS hA hl dX12_init_419 (fun h => lv_bipush (v := 120) hx hb dX12_init_420 (by decide) h) (hts (.arrayClass .int) (by decide +kernel)) rfl rfl (fun _ => rfl) (by decide +kernel) (by decide +kernel) (by decide +kernel) (by decide +kernel) (by decide +kernel) dX12_init_422 (by decide) (hts (.fieldLink RX12 167 "OptimaWorksModel" "extra" "[I") (by decide +kernel)) rfl rfl (by decide +kernel) dX12_init_424 (fun q422 k422 H locs hK hP hD hS => ?_)
  obtain ⟨v422, ev422⟩ : ∃ w, w = mUp v414 73 (.ref q422) := ⟨_, rfl⟩
  obtain ⟨a422, ea422⟩ : ∃ w, w = upF a414 48 q422 := ⟨_, rfl⟩
  obtain ⟨f422, ef422⟩ : ∃ w, w = upF f414 48 k422 := ⟨_, rfl⟩
  rw [← ev422, ← ea422, ← ef422] at hP hD
  rw [← ef422] at hK
  refine W.widen (k := 49) (n := 79570) (by decide +kernel) (by decide +kernel) ?_
  refine newRowM 49 (n := 900) (N' := 900) (k := 78) (index := 170) (atype := .int) (ty := .int) hx hb hts iX12_init_in12 hown hin hK hP hD hS hA hl dX12_init_427 (fun h => lv_sipush (v := 900) hx hb dX12_init_428 (by decide) h) (hts (.arrayClass .int) (by decide +kernel)) rfl rfl (fun _ => rfl) (by decide +kernel) (by decide +kernel) (by decide +kernel) (by decide +kernel) (by decide +kernel) dX12_init_431 (by decide) (hts (.fieldLink RX12 170 "OptimaWorksModel" "top" "[I") (by decide +kernel)) rfl rfl (by decide +kernel) dX12_init_433 (fun q431 k431 H locs hK hP hD hS => ?_)
  obtain ⟨v431, ev431⟩ : ∃ w, w = mUp v422 78 (.ref q431) := ⟨_, rfl⟩
  obtain ⟨a431, ea431⟩ : ∃ w, w = upF a422 49 q431 := ⟨_, rfl⟩
  obtain ⟨f431, ef431⟩ : ∃ w, w = upF f422 49 k431 := ⟨_, rfl⟩
  rw [← ev431, ← ea431, ← ef431] at hP hD
  rw [← ef431] at hK
  refine W.widen (k := 50) (n := 80470) (by decide +kernel) (by decide +kernel) ?_
  refine newRowM 50 (n := 900) (N' := 900) (k := 79) (index := 173) (atype := .int) (ty := .int) hx hb hts iX12_init_in12 hown hin hK hP hD hS hA hl dX12_init_436 (fun h => lv_sipush (v := 900) hx hb dX12_init_437 (by decide) h) (hts (.arrayClass .int) (by decide +kernel)) rfl rfl (fun _ => rfl) (by decide +kernel) (by decide +kernel) (by decide +kernel) (by decide +kernel) (by decide +kernel) dX12_init_440 (by decide) (hts (.fieldLink RX12 173 "OptimaWorksModel" "under" "[I") (by decide +kernel)) rfl rfl (by decide +kernel) dX12_init_442 (fun q440 k440 H locs hK hP hD hS => ?_)
  obtain ⟨v440, ev440⟩ : ∃ w, w = mUp v431 79 (.ref q440) := ⟨_, rfl⟩
  obtain ⟨a440, ea440⟩ : ∃ w, w = upF a431 50 q440 := ⟨_, rfl⟩
  obtain ⟨f440, ef440⟩ : ∃ w, w = upF f431 50 k440 := ⟨_, rfl⟩
  rw [← ev440, ← ea440, ← ef440] at hP hD
  rw [← ef440] at hK
  refine W.widen (k := 51) (n := 81370) (by decide +kernel) (by decide +kernel) ?_
  refine newRowM 51 (n := 60) (N' := 60) (k := 80) (index := 176) (atype := .int) (ty := .int) hx hb hts iX12_init_in12 hown hin hK hP hD hS hA hl dX12_init_445 (fun h => lv_bipush (v := 60) hx hb dX12_init_446 (by decide) h) (hts (.arrayClass .int) (by decide +kernel)) rfl rfl (fun _ => rfl) (by decide +kernel) (by decide +kernel) (by decide +kernel) (by decide +kernel) (by decide +kernel) dX12_init_448 (by decide) (hts (.fieldLink RX12 176 "OptimaWorksModel" "env" "[I") (by decide +kernel)) rfl rfl (by decide +kernel) dX12_init_450 (fun q448 k448 H locs hK hP hD hS => ?_)
  obtain ⟨v448, ev448⟩ : ∃ w, w = mUp v440 80 (.ref q448) := ⟨_, rfl⟩
  obtain ⟨a448, ea448⟩ : ∃ w, w = upF a440 51 q448 := ⟨_, rfl⟩
  obtain ⟨f448, ef448⟩ : ∃ w, w = upF f440 51 k448 := ⟨_, rfl⟩
  rw [← ev448, ← ea448, ← ef448] at hP hD
  rw [← ef448] at hK
  refine W.widen (k := 52) (n := 81430) (by decide +kernel) (by decide +kernel) ?_
  refine newRowM 52 (n := 4300) (N' := 4300) (k := 85) (index := 179) (atype := .int) (ty := .int) hx hb hts iX12_init_in12 hown hin hK hP hD hS hA hl dX12_init_453 (fun h => lv_sipush (v := 4300) hx hb dX12_init_454 (by decide) h) (hts (.arrayClass .int) (by decide +kernel)) rfl rfl (fun _ => rfl) (by decide +kernel) (by decide +kernel) (by decide +kernel) (by decide +kernel) (by decide +kernel) dX12_init_457 (by decide) (hts (.fieldLink RX12 179 "OptimaWorksModel" "frame" "[I") (by decide +kernel)) rfl rfl (by decide +kernel) dX12_init_459 (fun q457 k457 H locs hK hP hD hS => ?_)
  obtain ⟨v457, ev457⟩ : ∃ w, w = mUp v448 85 (.ref q457) := ⟨_, rfl⟩
  obtain ⟨a457, ea457⟩ : ∃ w, w = upF a448 52 q457 := ⟨_, rfl⟩
  obtain ⟨f457, ef457⟩ : ∃ w, w = upF f448 52 k457 := ⟨_, rfl⟩
  rw [← ev457, ← ea457, ← ef457] at hP hD
  rw [← ef457] at hK
  refine W.widen (k := 53) (n := 85730) (by decide +kernel) (by decide +kernel) ?_
  refine newRowM 53 (n := 4300) (N' := 4300) (k := 86) (index := 182) (atype := .int) (ty := .int) hx hb hts iX12_init_in12 hown hin hK hP hD hS hA hl dX12_init_462 (fun h => lv_sipush (v := 4300) hx hb dX12_init_463 (by decide) h) (hts (.arrayClass .int) (by decide +kernel)) rfl rfl (fun _ => rfl) (by decide +kernel) (by decide +kernel) (by decide +kernel) (by decide +kernel) (by decide +kernel) dX12_init_466 (by decide) (hts (.fieldLink RX12 182 "OptimaWorksModel" "stage" "[I") (by decide +kernel)) rfl rfl (by decide +kernel) dX12_init_468 (fun q466 k466 H locs hK hP hD hS => ?_)
  obtain ⟨v466, ev466⟩ : ∃ w, w = mUp v457 86 (.ref q466) := ⟨_, rfl⟩
  obtain ⟨a466, ea466⟩ : ∃ w, w = upF a457 53 q466 := ⟨_, rfl⟩
  obtain ⟨f466, ef466⟩ : ∃ w, w = upF f457 53 k466 := ⟨_, rfl⟩
  rw [← ev466, ← ea466, ← ef466] at hP hD
  rw [← ef466] at hK
  refine W.widen (k := 54) (n := 90030) (by decide +kernel) (by decide +kernel) ?_
  refine newRowM 54 (n := 4300) (N' := 4300) (k := 87) (index := 185) (atype := .int) (ty := .int) hx hb hts iX12_init_in12 hown hin hK hP hD hS hA hl dX12_init_471 (fun h => lv_sipush (v := 4300) hx hb dX12_init_472 (by decide) h) (hts (.arrayClass .int) (by decide +kernel)) rfl rfl (fun _ => rfl) (by decide +kernel) (by decide +kernel) (by decide +kernel) (by decide +kernel) (by decide +kernel) dX12_init_475 (by decide) (hts (.fieldLink RX12 185 "OptimaWorksModel" "loopA" "[I") (by decide +kernel)) rfl rfl (by decide +kernel) dX12_init_477 (fun q475 k475 H locs hK hP hD hS => ?_)
  obtain ⟨v475, ev475⟩ : ∃ w, w = mUp v466 87 (.ref q475) := ⟨_, rfl⟩
  obtain ⟨a475, ea475⟩ : ∃ w, w = upF a466 54 q475 := ⟨_, rfl⟩
  obtain ⟨f475, ef475⟩ : ∃ w, w = upF f466 54 k475 := ⟨_, rfl⟩
  rw [← ev475, ← ea475, ← ef475] at hP hD
  rw [← ef475] at hK
  refine W.widen (k := 55) (n := 94330) (by decide +kernel) (by decide +kernel) ?_
  refine newRowM 55 (n := 4300) (N' := 4300) (k := 88) (index := 188) (atype := .int) (ty := .int) hx hb hts iX12_init_in12 hown hin hK hP hD hS hA hl dX12_init_480 (fun h => lv_sipush (v := 4300) hx hb dX12_init_481 (by decide) h) (hts (.arrayClass .int) (by decide +kernel)) rfl rfl (fun _ => rfl) (by decide +kernel) (by decide +kernel) (by decide +kernel) (by decide +kernel) (by decide +kernel) dX12_init_484 (by decide) (hts (.fieldLink RX12 188 "OptimaWorksModel" "loopB" "[I") (by decide +kernel)) rfl rfl (by decide +kernel) dX12_init_486 (fun q484 k484 H locs hK hP hD hS => ?_)
  obtain ⟨v484, ev484⟩ : ∃ w, w = mUp v475 88 (.ref q484) := ⟨_, rfl⟩
  obtain ⟨a484, ea484⟩ : ∃ w, w = upF a475 55 q484 := ⟨_, rfl⟩
  obtain ⟨f484, ef484⟩ : ∃ w, w = upF f475 55 k484 := ⟨_, rfl⟩
  rw [← ev484, ← ea484, ← ef484] at hP hD
  rw [← ef484] at hK
  refine W.widen (k := 56) (n := 98630) (by decide +kernel) (by decide +kernel) ?_
  refine newRowM 56 (n := 9) (N' := 9) (k := 96) (index := 191) (atype := .int) (ty := .int) hx hb hts iX12_init_in12 hown hin hK hP hD hS hA hl dX12_init_489 (fun h => lv_bipush (v := 9) hx hb dX12_init_490 (by decide) h) (hts (.arrayClass .int) (by decide +kernel)) rfl rfl (fun _ => rfl) (by decide +kernel) (by decide +kernel) (by decide +kernel) (by decide +kernel) (by decide +kernel) dX12_init_492 (by decide) (hts (.fieldLink RX12 191 "OptimaWorksModel" "low" "[I") (by decide +kernel)) rfl rfl (by decide +kernel) dX12_init_494 (fun q492 k492 H locs hK hP hD hS => ?_)
  obtain ⟨v492, ev492⟩ : ∃ w, w = mUp v484 96 (.ref q492) := ⟨_, rfl⟩
  obtain ⟨a492, ea492⟩ : ∃ w, w = upF a484 56 q492 := ⟨_, rfl⟩
  obtain ⟨f492, ef492⟩ : ∃ w, w = upF f484 56 k492 := ⟨_, rfl⟩
  rw [← ev492, ← ea492, ← ef492] at hP hD
  rw [← ef492] at hK
  refine W.widen (k := 57) (n := 98639) (by decide +kernel) (by decide +kernel) ?_
  refine newRowM 57 (n := 9) (N' := 9) (k := 97) (index := 194) (atype := .int) (ty := .int) hx hb hts iX12_init_in12 hown hin hK hP hD hS hA hl dX12_init_497 (fun h => lv_bipush (v := 9) hx hb dX12_init_498 (by decide) h) (hts (.arrayClass .int) (by decide +kernel)) rfl rfl (fun _ => rfl) (by decide +kernel) (by decide +kernel) (by decide +kernel) (by decide +kernel) (by decide +kernel) dX12_init_500 (by decide) (hts (.fieldLink RX12 194 "OptimaWorksModel" "high" "[I") (by decide +kernel)) rfl rfl (by decide +kernel) dX12_init_502 (fun q500 k500 H locs hK hP hD hS => ?_)
  obtain ⟨v500, ev500⟩ : ∃ w, w = mUp v492 97 (.ref q500) := ⟨_, rfl⟩
  obtain ⟨a500, ea500⟩ : ∃ w, w = upF a492 57 q500 := ⟨_, rfl⟩
  obtain ⟨f500, ef500⟩ : ∃ w, w = upF f492 57 k500 := ⟨_, rfl⟩
  rw [← ev500, ← ea500, ← ef500] at hP hD
  rw [← ef500] at hK
  refine W.widen (k := 58) (n := 98648) (by decide +kernel) (by decide +kernel) ?_
  refine newRowM 58 (n := 9) (N' := 9) (k := 98) (index := 197) (atype := .int) (ty := .int) hx hb hts iX12_init_in12 hown hin hK hP hD hS hA hl dX12_init_505 (fun h => lv_bipush (v := 9) hx hb dX12_init_506 (by decide) h) (hts (.arrayClass .int) (by decide +kernel)) rfl rfl (fun _ => rfl) (by decide +kernel) (by decide +kernel) (by decide +kernel) (by decide +kernel) (by decide +kernel) dX12_init_508 (by decide) (hts (.fieldLink RX12 197 "OptimaWorksModel" "whole" "[I") (by decide +kernel)) rfl rfl (by decide +kernel) dX12_init_510 (fun q508 k508 H locs hK hP hD hS => ?_)
  obtain ⟨v508, ev508⟩ : ∃ w, w = mUp v500 98 (.ref q508) := ⟨_, rfl⟩
  obtain ⟨a508, ea508⟩ : ∃ w, w = upF a500 58 q508 := ⟨_, rfl⟩
  obtain ⟨f508, ef508⟩ : ∃ w, w = upF f500 58 k508 := ⟨_, rfl⟩
  rw [← ev508, ← ea508, ← ef508] at hP hD
  rw [← ef508] at hK
  refine W.widen (k := 59) (n := 98657) (by decide +kernel) (by decide +kernel) ?_
  refine newRowM 59 (n := 13) (N' := 13) (k := 99) (index := 200) (atype := .int) (ty := .int) hx hb hts iX12_init_in12 hown hin hK hP hD hS hA hl dX12_init_513 (fun h => lv_bipush (v := 13) hx hb dX12_init_514 (by decide) h) (hts (.arrayClass .int) (by decide +kernel)) rfl rfl (fun _ => rfl) (by decide +kernel) (by decide +kernel) (by decide +kernel) (by decide +kernel) (by decide +kernel) dX12_init_516 (by decide) (hts (.fieldLink RX12 200 "OptimaWorksModel" "wayMany" "[I") (by decide +kernel)) rfl rfl (by decide +kernel) dX12_init_518 (fun q516 k516 H locs hK hP hD hS => ?_)
  obtain ⟨v516, ev516⟩ : ∃ w, w = mUp v508 99 (.ref q516) := ⟨_, rfl⟩
  obtain ⟨a516, ea516⟩ : ∃ w, w = upF a508 59 q516 := ⟨_, rfl⟩
  obtain ⟨f516, ef516⟩ : ∃ w, w = upF f508 59 k516 := ⟨_, rfl⟩
  rw [← ev516, ← ea516, ← ef516] at hP hD
  rw [← ef516] at hK
  refine W.widen (k := 60) (n := 98670) (by decide +kernel) (by decide +kernel) ?_
  refine newRowM 60 (n := 351) (N' := 351) (k := 100) (index := 203) (atype := .int) (ty := .int) hx hb hts iX12_init_in12 hown hin hK hP hD hS hA hl dX12_init_521 (fun h => lv_sipush (v := 351) hx hb dX12_init_522 (by decide) h) (hts (.arrayClass .int) (by decide +kernel)) rfl rfl (fun _ => rfl) (by decide +kernel) (by decide +kernel) (by decide +kernel) (by decide +kernel) (by decide +kernel) dX12_init_525 (by decide) (hts (.fieldLink RX12 203 "OptimaWorksModel" "wayNumber" "[I") (by decide +kernel)) rfl rfl (by decide +kernel) dX12_init_527 (fun q525 k525 H locs hK hP hD hS => ?_)
  obtain ⟨v525, ev525⟩ : ∃ w, w = mUp v516 100 (.ref q525) := ⟨_, rfl⟩
  obtain ⟨a525, ea525⟩ : ∃ w, w = upF a516 60 q525 := ⟨_, rfl⟩
  obtain ⟨f525, ef525⟩ : ∃ w, w = upF f516 60 k525 := ⟨_, rfl⟩
  rw [← ev525, ← ea525, ← ef525] at hP hD
  rw [← ef525] at hK
  refine W.widen (k := 61) (n := 99021) (by decide +kernel) (by decide +kernel) ?_
  refine newRowM 61 (n := 39) (N' := 39) (k := 101) (index := 206) (atype := .int) (ty := .int) hx hb hts iX12_init_in12 hown hin hK hP hD hS hA hl dX12_init_530 (fun h => lv_bipush (v := 39) hx hb dX12_init_531 (by decide) h) (hts (.arrayClass .int) (by decide +kernel)) rfl rfl (fun _ => rfl) (by decide +kernel) (by decide +kernel) (by decide +kernel) (by decide +kernel) (by decide +kernel) dX12_init_533 (by decide) (hts (.fieldLink RX12 206 "OptimaWorksModel" "waySign" "[I") (by decide +kernel)) rfl rfl (by decide +kernel) dX12_init_535 (fun q533 k533 H locs hK hP hD hS => ?_)
  obtain ⟨v533, ev533⟩ : ∃ w, w = mUp v525 101 (.ref q533) := ⟨_, rfl⟩
  obtain ⟨a533, ea533⟩ : ∃ w, w = upF a525 61 q533 := ⟨_, rfl⟩
  obtain ⟨f533, ef533⟩ : ∃ w, w = upF f525 61 k533 := ⟨_, rfl⟩
  rw [← ev533, ← ea533, ← ef533] at hP hD
  rw [← ef533] at hK
  refine W.widen (k := 62) (n := 99060) (by decide +kernel) (by decide +kernel) ?_
  refine newRowM 62 (n := 9) (N' := 9) (k := 102) (index := 209) (atype := .int) (ty := .int) hx hb hts iX12_init_in12 hown hin hK hP hD hS hA hl dX12_init_538 (fun h => lv_bipush (v := 9) hx hb dX12_init_539 (by decide) h) (hts (.arrayClass .int) (by decide +kernel)) rfl rfl (fun _ => rfl) (by decide +kernel) (by decide +kernel) (by decide +kernel) (by decide +kernel) (by decide +kernel) dX12_init_541 (by decide) (hts (.fieldLink RX12 209 "OptimaWorksModel" "differentSet" "[I") (by decide +kernel)) rfl rfl (by decide +kernel) dX12_init_543 (fun q541 k541 H locs hK hP hD hS => ?_)
  obtain ⟨v541, ev541⟩ : ∃ w, w = mUp v533 102 (.ref q541) := ⟨_, rfl⟩
  obtain ⟨a541, ea541⟩ : ∃ w, w = upF a533 62 q541 := ⟨_, rfl⟩
  obtain ⟨f541, ef541⟩ : ∃ w, w = upF f533 62 k541 := ⟨_, rfl⟩
  rw [← ev541, ← ea541, ← ef541] at hP hD
  rw [← ef541] at hK
  refine W.widen (k := 63) (n := 99069) (by decide +kernel) (by decide +kernel) ?_
  refine newRowM 63 (n := 27) (N' := 27) (k := 103) (index := 212) (atype := .int) (ty := .int) hx hb hts iX12_init_in12 hown hin hK hP hD hS hA hl dX12_init_546 (fun h => lv_bipush (v := 27) hx hb dX12_init_547 (by decide) h) (hts (.arrayClass .int) (by decide +kernel)) rfl rfl (fun _ => rfl) (by decide +kernel) (by decide +kernel) (by decide +kernel) (by decide +kernel) (by decide +kernel) dX12_init_549 (by decide) (hts (.fieldLink RX12 212 "OptimaWorksModel" "goalTop" "[I") (by decide +kernel)) rfl rfl (by decide +kernel) dX12_init_551 (fun q549 k549 H locs hK hP hD hS => ?_)
  obtain ⟨v549, ev549⟩ : ∃ w, w = mUp v541 103 (.ref q549) := ⟨_, rfl⟩
  obtain ⟨a549, ea549⟩ : ∃ w, w = upF a541 63 q549 := ⟨_, rfl⟩
  obtain ⟨f549, ef549⟩ : ∃ w, w = upF f541 63 k549 := ⟨_, rfl⟩
  rw [← ev549, ← ea549, ← ef549] at hP hD
  rw [← ef549] at hK
  refine W.widen (k := 64) (n := 99096) (by decide +kernel) (by decide +kernel) ?_
  refine newRowM 64 (n := 27) (N' := 27) (k := 104) (index := 215) (atype := .int) (ty := .int) hx hb hts iX12_init_in12 hown hin hK hP hD hS hA hl dX12_init_554 (fun h => lv_bipush (v := 27) hx hb dX12_init_555 (by decide) h) (hts (.arrayClass .int) (by decide +kernel)) rfl rfl (fun _ => rfl) (by decide +kernel) (by decide +kernel) (by decide +kernel) (by decide +kernel) (by decide +kernel) dX12_init_557 (by decide) (hts (.fieldLink RX12 215 "OptimaWorksModel" "goalUnder" "[I") (by decide +kernel)) rfl rfl (by decide +kernel) dX12_init_559 (fun q557 k557 H locs hK hP hD hS => ?_)
  obtain ⟨v557, ev557⟩ : ∃ w, w = mUp v549 104 (.ref q557) := ⟨_, rfl⟩
  obtain ⟨a557, ea557⟩ : ∃ w, w = upF a549 64 q557 := ⟨_, rfl⟩
  obtain ⟨f557, ef557⟩ : ∃ w, w = upF f549 64 k557 := ⟨_, rfl⟩
  rw [← ev557, ← ea557, ← ef557] at hP hD
  rw [← ef557] at hK
  refine W.widen (k := 65) (n := 99123) (by decide +kernel) (by decide +kernel) ?_
  refine newRowM 65 (n := 3) (N' := 3) (k := 105) (index := 218) (atype := .int) (ty := .int) hx hb hts iX12_init_in12 hown hin hK hP hD hS hA hl dX12_init_562 (fun h => lv_iconst (v := 3) hx hb dX12_init_563 (by decide) h) (hts (.arrayClass .int) (by decide +kernel)) rfl rfl (fun _ => rfl) (by decide +kernel) (by decide +kernel) (by decide +kernel) (by decide +kernel) (by decide +kernel) dX12_init_564 (by decide) (hts (.fieldLink RX12 218 "OptimaWorksModel" "goalMax" "[I") (by decide +kernel)) rfl rfl (by decide +kernel) dX12_init_566 (fun q564 k564 H locs hK hP hD hS => ?_)
  obtain ⟨v564, ev564⟩ : ∃ w, w = mUp v557 105 (.ref q564) := ⟨_, rfl⟩
  obtain ⟨a564, ea564⟩ : ∃ w, w = upF a557 65 q564 := ⟨_, rfl⟩
  obtain ⟨f564, ef564⟩ : ∃ w, w = upF f557 65 k564 := ⟨_, rfl⟩
  rw [← ev564, ← ea564, ← ef564] at hP hD
  rw [← ef564] at hK
  refine W.widen (k := 66) (n := 99126) (by decide +kernel) (by decide +kernel) ?_
  refine newRowM 66 (n := 200) (N' := 200) (k := 106) (index := 221) (atype := .int) (ty := .int) hx hb hts iX12_init_in12 hown hin hK hP hD hS hA hl dX12_init_569 (fun h => lv_sipush (v := 200) hx hb dX12_init_570 (by decide) h) (hts (.arrayClass .int) (by decide +kernel)) rfl rfl (fun _ => rfl) (by decide +kernel) (by decide +kernel) (by decide +kernel) (by decide +kernel) (by decide +kernel) dX12_init_573 (by decide) (hts (.fieldLink RX12 221 "OptimaWorksModel" "partNode" "[I") (by decide +kernel)) rfl rfl (by decide +kernel) dX12_init_575 (fun q573 k573 H locs hK hP hD hS => ?_)
  obtain ⟨v573, ev573⟩ : ∃ w, w = mUp v564 106 (.ref q573) := ⟨_, rfl⟩
  obtain ⟨a573, ea573⟩ : ∃ w, w = upF a564 66 q573 := ⟨_, rfl⟩
  obtain ⟨f573, ef573⟩ : ∃ w, w = upF f564 66 k573 := ⟨_, rfl⟩
  rw [← ev573, ← ea573, ← ef573] at hP hD
  rw [← ef573] at hK
  refine W.widen (k := 67) (n := 99326) (by decide +kernel) (by decide +kernel) ?_
  refine newRowM 67 (n := 200) (N' := 200) (k := 107) (index := 224) (atype := .int) (ty := .int) hx hb hts iX12_init_in12 hown hin hK hP hD hS hA hl dX12_init_578 (fun h => lv_sipush (v := 200) hx hb dX12_init_579 (by decide) h) (hts (.arrayClass .int) (by decide +kernel)) rfl rfl (fun _ => rfl) (by decide +kernel) (by decide +kernel) (by decide +kernel) (by decide +kernel) (by decide +kernel) dX12_init_582 (by decide) (hts (.fieldLink RX12 224 "OptimaWorksModel" "partFirst" "[I") (by decide +kernel)) rfl rfl (by decide +kernel) dX12_init_584 (fun q582 k582 H locs hK hP hD hS => ?_)
  obtain ⟨v582, ev582⟩ : ∃ w, w = mUp v573 107 (.ref q582) := ⟨_, rfl⟩
  obtain ⟨a582, ea582⟩ : ∃ w, w = upF a573 67 q582 := ⟨_, rfl⟩
  obtain ⟨f582, ef582⟩ : ∃ w, w = upF f573 67 k582 := ⟨_, rfl⟩
  rw [← ev582, ← ea582, ← ef582] at hP hD
  rw [← ef582] at hK
  refine W.widen (k := 68) (n := 99526) (by decide +kernel) (by decide +kernel) ?_
  refine newRowM 68 (n := 8) (N' := 8) (k := 108) (index := 227) (atype := .int) (ty := .int) hx hb hts iX12_init_in12 hown hin hK hP hD hS hA hl dX12_init_587 (fun h => lv_bipush (v := 8) hx hb dX12_init_588 (by decide) h) (hts (.arrayClass .int) (by decide +kernel)) rfl rfl (fun _ => rfl) (by decide +kernel) (by decide +kernel) (by decide +kernel) (by decide +kernel) (by decide +kernel) dX12_init_590 (by decide) (hts (.fieldLink RX12 227 "OptimaWorksModel" "partSign" "[I") (by decide +kernel)) rfl rfl (by decide +kernel) dX12_init_592 (fun q590 k590 H locs hK hP hD hS => ?_)
  obtain ⟨v590, ev590⟩ : ∃ w, w = mUp v582 108 (.ref q590) := ⟨_, rfl⟩
  obtain ⟨a590, ea590⟩ : ∃ w, w = upF a582 68 q590 := ⟨_, rfl⟩
  obtain ⟨f590, ef590⟩ : ∃ w, w = upF f582 68 k590 := ⟨_, rfl⟩
  rw [← ev590, ← ea590, ← ef590] at hP hD
  rw [← ef590] at hK
  refine W.widen (k := 69) (n := 99534) (by decide +kernel) (by decide +kernel) ?_
  refine newRowM 69 (n := 13) (N' := 13) (k := 114) (index := 230) (atype := .int) (ty := .int) hx hb hts iX12_init_in12 hown hin hK hP hD hS hA hl dX12_init_595 (fun h => lv_bipush (v := 13) hx hb dX12_init_596 (by decide) h) (hts (.arrayClass .int) (by decide +kernel)) rfl rfl (fun _ => rfl) (by decide +kernel) (by decide +kernel) (by decide +kernel) (by decide +kernel) (by decide +kernel) dX12_init_598 (by decide) (hts (.fieldLink RX12 230 "OptimaWorksModel" "chosen" "[I") (by decide +kernel)) rfl rfl (by decide +kernel) dX12_init_600 (fun q598 k598 H locs hK hP hD hS => ?_)
  obtain ⟨v598, ev598⟩ : ∃ w, w = mUp v590 114 (.ref q598) := ⟨_, rfl⟩
  obtain ⟨a598, ea598⟩ : ∃ w, w = upF a590 69 q598 := ⟨_, rfl⟩
  obtain ⟨f598, ef598⟩ : ∃ w, w = upF f590 69 k598 := ⟨_, rfl⟩
  rw [← ev598, ← ea598, ← ef598] at hP hD
  rw [← ef598] at hK
  refine W.widen (k := 70) (n := 99547) (by decide +kernel) (by decide +kernel) ?_
  refine newRowM 70 (n := 9) (N' := 9) (k := 115) (index := 233) (atype := .int) (ty := .int) hx hb hts iX12_init_in12 hown hin hK hP hD hS hA hl dX12_init_603 (fun h => lv_bipush (v := 9) hx hb dX12_init_604 (by decide) h) (hts (.arrayClass .int) (by decide +kernel)) rfl rfl (fun _ => rfl) (by decide +kernel) (by decide +kernel) (by decide +kernel) (by decide +kernel) (by decide +kernel) dX12_init_606 (by decide) (hts (.fieldLink RX12 233 "OptimaWorksModel" "value" "[I") (by decide +kernel)) rfl rfl (by decide +kernel) dX12_init_608 (fun q606 k606 H locs hK hP hD hS => ?_)
  obtain ⟨v606, ev606⟩ : ∃ w, w = mUp v598 115 (.ref q606) := ⟨_, rfl⟩
  obtain ⟨a606, ea606⟩ : ∃ w, w = upF a598 70 q606 := ⟨_, rfl⟩
  obtain ⟨f606, ef606⟩ : ∃ w, w = upF f598 70 k606 := ⟨_, rfl⟩
  rw [← ev606, ← ea606, ← ef606] at hP hD
  rw [← ef606] at hK
  refine W.widen (k := 71) (n := 99556) (by decide +kernel) (by decide +kernel) ?_
  refine newRowM 71 (n := 28) (N' := 28) (k := 120) (index := 236) (atype := .int) (ty := .int) hx hb hts iX12_init_in12 hown hin hK hP hD hS hA hl dX12_init_611 (fun h => lv_bipush (v := 28) hx hb dX12_init_612 (by decide) h) (hts (.arrayClass .int) (by decide +kernel)) rfl rfl (fun _ => rfl) (by decide +kernel) (by decide +kernel) (by decide +kernel) (by decide +kernel) (by decide +kernel) dX12_init_614 (by decide) (hts (.fieldLink RX12 236 "OptimaWorksModel" "needKind" "[I") (by decide +kernel)) rfl rfl (by decide +kernel) dX12_init_616 (fun q614 k614 H locs hK hP hD hS => ?_)
  obtain ⟨v614, ev614⟩ : ∃ w, w = mUp v606 120 (.ref q614) := ⟨_, rfl⟩
  obtain ⟨a614, ea614⟩ : ∃ w, w = upF a606 71 q614 := ⟨_, rfl⟩
  obtain ⟨f614, ef614⟩ : ∃ w, w = upF f606 71 k614 := ⟨_, rfl⟩
  rw [← ev614, ← ea614, ← ef614] at hP hD
  rw [← ef614] at hK
  refine W.widen (k := 72) (n := 99584) (by decide +kernel) (by decide +kernel) ?_
  refine newRowM 72 (n := 28) (N' := 28) (k := 121) (index := 239) (atype := .int) (ty := .int) hx hb hts iX12_init_in12 hown hin hK hP hD hS hA hl dX12_init_619 (fun h => lv_bipush (v := 28) hx hb dX12_init_620 (by decide) h) (hts (.arrayClass .int) (by decide +kernel)) rfl rfl (fun _ => rfl) (by decide +kernel) (by decide +kernel) (by decide +kernel) (by decide +kernel) (by decide +kernel) dX12_init_622 (by decide) (hts (.fieldLink RX12 239 "OptimaWorksModel" "needOf" "[I") (by decide +kernel)) rfl rfl (by decide +kernel) dX12_init_624 (fun q622 k622 H locs hK hP hD hS => ?_)
  obtain ⟨v622, ev622⟩ : ∃ w, w = mUp v614 121 (.ref q622) := ⟨_, rfl⟩
  obtain ⟨a622, ea622⟩ : ∃ w, w = upF a614 72 q622 := ⟨_, rfl⟩
  obtain ⟨f622, ef622⟩ : ∃ w, w = upF f614 72 k622 := ⟨_, rfl⟩
  rw [← ev622, ← ea622, ← ef622] at hP hD
  rw [← ef622] at hK
  refine W.widen (k := 73) (n := 99612) (by decide +kernel) (by decide +kernel) ?_
  refine newRowM 73 (n := 28) (N' := 28) (k := 122) (index := 242) (atype := .int) (ty := .int) hx hb hts iX12_init_in12 hown hin hK hP hD hS hA hl dX12_init_627 (fun h => lv_bipush (v := 28) hx hb dX12_init_628 (by decide) h) (hts (.arrayClass .int) (by decide +kernel)) rfl rfl (fun _ => rfl) (by decide +kernel) (by decide +kernel) (by decide +kernel) (by decide +kernel) (by decide +kernel) dX12_init_630 (by decide) (hts (.fieldLink RX12 242 "OptimaWorksModel" "needKept" "[I") (by decide +kernel)) rfl rfl (by decide +kernel) dX12_init_632 (fun q630 k630 H locs hK hP hD hS => ?_)
  obtain ⟨v630, ev630⟩ : ∃ w, w = mUp v622 122 (.ref q630) := ⟨_, rfl⟩
  obtain ⟨a630, ea630⟩ : ∃ w, w = upF a622 73 q630 := ⟨_, rfl⟩
  obtain ⟨f630, ef630⟩ : ∃ w, w = upF f622 73 k630 := ⟨_, rfl⟩
  rw [← ev630, ← ea630, ← ef630] at hP hD
  rw [← ef630] at hK
  refine W.widen (k := 74) (n := 99640) (by decide +kernel) (by decide +kernel) ?_
  refine newRowM 74 (n := 28) (N' := 28) (k := 123) (index := 245) (atype := .int) (ty := .int) hx hb hts iX12_init_in12 hown hin hK hP hD hS hA hl dX12_init_635 (fun h => lv_bipush (v := 28) hx hb dX12_init_636 (by decide) h) (hts (.arrayClass .int) (by decide +kernel)) rfl rfl (fun _ => rfl) (by decide +kernel) (by decide +kernel) (by decide +kernel) (by decide +kernel) (by decide +kernel) dX12_init_638 (by decide) (hts (.fieldLink RX12 245 "OptimaWorksModel" "needColumn" "[I") (by decide +kernel)) rfl rfl (by decide +kernel) dX12_init_640 (fun q638 k638 H locs hK hP hD hS => ?_)
  obtain ⟨v638, ev638⟩ : ∃ w, w = mUp v630 123 (.ref q638) := ⟨_, rfl⟩
  obtain ⟨a638, ea638⟩ : ∃ w, w = upF a630 74 q638 := ⟨_, rfl⟩
  obtain ⟨f638, ef638⟩ : ∃ w, w = upF f630 74 k638 := ⟨_, rfl⟩
  rw [← ev638, ← ea638, ← ef638] at hP hD
  rw [← ef638] at hK
  refine W.widen (k := 75) (n := 99668) (by decide +kernel) (by decide +kernel) ?_
  refine newRowM 75 (n := 30000) (N' := 30000) (k := 124) (index := 248) (atype := .byte) (ty := .byte) hx hb hts iX12_init_in12 hown hin hK hP hD hS hA hl dX12_init_643 (fun h => lv_sipush (v := 30000) hx hb dX12_init_644 (by decide) h) (hts (.arrayClass .byte) (by decide +kernel)) rfl rfl (fun _ => rfl) (by decide +kernel) (by decide +kernel) (by decide +kernel) (by decide +kernel) (by decide +kernel) dX12_init_647 (by decide) (hts (.fieldLink RX12 248 "OptimaWorksModel" "out" "[B") (by decide +kernel)) rfl rfl (by decide +kernel) dX12_init_649 (fun q647 k647 H locs hK hP hD hS => ?_)
  obtain ⟨v647, ev647⟩ : ∃ w, w = mUp v638 124 (.ref q647) := ⟨_, rfl⟩
  obtain ⟨a647, ea647⟩ : ∃ w, w = upF a638 75 q647 := ⟨_, rfl⟩
  obtain ⟨f647, ef647⟩ : ∃ w, w = upF f638 75 k647 := ⟨_, rfl⟩
  rw [← ev647, ← ea647, ← ef647] at hP hD
  rw [← ef647] at hK
  refine W.widen (k := 76) (n := 129668) (by decide +kernel) (by decide +kernel) ?_
  refine newRowM 76 (n := 250) (N' := 250) (k := 126) (index := 251) (atype := .int) (ty := .int) hx hb hts iX12_init_in12 hown hin hK hP hD hS hA hl dX12_init_652 (fun h => lv_sipush (v := 250) hx hb dX12_init_653 (by decide) h) (hts (.arrayClass .int) (by decide +kernel)) rfl rfl (fun _ => rfl) (by decide +kernel) (by decide +kernel) (by decide +kernel) (by decide +kernel) (by decide +kernel) dX12_init_656 (by decide) (hts (.fieldLink RX12 251 "OptimaWorksModel" "digits" "[I") (by decide +kernel)) rfl rfl (by decide +kernel) dX12_init_658 (fun q656 k656 H locs hK hP hD hS => ?_)
  obtain ⟨v656, ev656⟩ : ∃ w, w = mUp v647 126 (.ref q656) := ⟨_, rfl⟩
  obtain ⟨a656, ea656⟩ : ∃ w, w = upF a647 76 q656 := ⟨_, rfl⟩
  obtain ⟨f656, ef656⟩ : ∃ w, w = upF f647 76 k656 := ⟨_, rfl⟩
  rw [← ev656, ← ea656, ← ef656] at hP hD
  rw [← ef656] at hK
  refine W.widen (k := 77) (n := 129918) (by decide +kernel) (by decide +kernel) ?_
  refine newRowM 77 (n := 20) (N' := 20) (k := 127) (index := 254) (atype := .int) (ty := .int) hx hb hts iX12_init_in12 hown hin hK hP hD hS hA hl dX12_init_661 (fun h => lv_bipush (v := 20) hx hb dX12_init_662 (by decide) h) (hts (.arrayClass .int) (by decide +kernel)) rfl rfl (fun _ => rfl) (by decide +kernel) (by decide +kernel) (by decide +kernel) (by decide +kernel) (by decide +kernel) dX12_init_664 (by decide) (hts (.fieldLink RX12 254 "OptimaWorksModel" "ready" "[I") (by decide +kernel)) rfl rfl (by decide +kernel) dX12_init_666 (fun q664 k664 H locs hK hP hD hS => ?_)
  obtain ⟨v664, ev664⟩ : ∃ w, w = mUp v656 127 (.ref q664) := ⟨_, rfl⟩
  obtain ⟨a664, ea664⟩ : ∃ w, w = upF a656 77 q664 := ⟨_, rfl⟩
  obtain ⟨f664, ef664⟩ : ∃ w, w = upF f656 77 k664 := ⟨_, rfl⟩
  rw [← ev664, ← ea664, ← ef664] at hP hD
  rw [← ef664] at hK
  refine W.widen (k := 78) (n := 129938) (by decide +kernel) (by decide +kernel) ?_
  refine newRowM 78 (n := 10) (N' := 10) (k := 130) (index := 257) (atype := .int) (ty := .int) hx hb hts iX12_init_in12 hown hin hK hP hD hS hA hl dX12_init_669 (fun h => lv_bipush (v := 10) hx hb dX12_init_670 (by decide) h) (hts (.arrayClass .int) (by decide +kernel)) rfl rfl (fun _ => rfl) (by decide +kernel) (by decide +kernel) (by decide +kernel) (by decide +kernel) (by decide +kernel) dX12_init_672 (by decide) (hts (.fieldLink RX12 257 "OptimaWorksModel" "domain" "[I") (by decide +kernel)) rfl rfl (by decide +kernel) dX12_init_674 (fun q672 k672 H locs hK hP hD hS => ?_)
  obtain ⟨v672, ev672⟩ : ∃ w, w = mUp v664 130 (.ref q672) := ⟨_, rfl⟩
  obtain ⟨a672, ea672⟩ : ∃ w, w = upF a664 78 q672 := ⟨_, rfl⟩
  obtain ⟨f672, ef672⟩ : ∃ w, w = upF f664 78 k672 := ⟨_, rfl⟩
  rw [← ev672, ← ea672, ← ef672] at hP hD
  rw [← ef672] at hK
  refine W.widen (k := 79) (n := 129948) (by decide +kernel) (by decide +kernel) ?_
  refine newRowM 79 (n := 10) (N' := 10) (k := 131) (index := 260) (atype := .int) (ty := .int) hx hb hts iX12_init_in12 hown hin hK hP hD hS hA hl dX12_init_677 (fun h => lv_bipush (v := 10) hx hb dX12_init_678 (by decide) h) (hts (.arrayClass .int) (by decide +kernel)) rfl rfl (fun _ => rfl) (by decide +kernel) (by decide +kernel) (by decide +kernel) (by decide +kernel) (by decide +kernel) dX12_init_680 (by decide) (hts (.fieldLink RX12 260 "OptimaWorksModel" "now" "[I") (by decide +kernel)) rfl rfl (by decide +kernel) dX12_init_682 (fun q680 k680 H locs hK hP hD hS => ?_)
  obtain ⟨v680, ev680⟩ : ∃ w, w = mUp v672 131 (.ref q680) := ⟨_, rfl⟩
  obtain ⟨a680, ea680⟩ : ∃ w, w = upF a672 79 q680 := ⟨_, rfl⟩
  obtain ⟨f680, ef680⟩ : ∃ w, w = upF f672 79 k680 := ⟨_, rfl⟩
  rw [← ev680, ← ea680, ← ef680] at hP hD
  rw [← ef680] at hK
  refine W.widen (k := 80) (n := 129958) (by decide +kernel) (by decide +kernel) ?_
  refine newRowM 80 (n := 12) (N' := 12) (k := 132) (index := 263) (atype := .int) (ty := .int) hx hb hts iX12_init_in12 hown hin hK hP hD hS hA hl dX12_init_685 (fun h => lv_bipush (v := 12) hx hb dX12_init_686 (by decide) h) (hts (.arrayClass .int) (by decide +kernel)) rfl rfl (fun _ => rfl) (by decide +kernel) (by decide +kernel) (by decide +kernel) (by decide +kernel) (by decide +kernel) dX12_init_688 (by decide) (hts (.fieldLink RX12 263 "OptimaWorksModel" "ruleKind" "[I") (by decide +kernel)) rfl rfl (by decide +kernel) dX12_init_690 (fun q688 k688 H locs hK hP hD hS => ?_)
  obtain ⟨v688, ev688⟩ : ∃ w, w = mUp v680 132 (.ref q688) := ⟨_, rfl⟩
  obtain ⟨a688, ea688⟩ : ∃ w, w = upF a680 80 q688 := ⟨_, rfl⟩
  obtain ⟨f688, ef688⟩ : ∃ w, w = upF f680 80 k688 := ⟨_, rfl⟩
  rw [← ev688, ← ea688, ← ef688] at hP hD
  rw [← ef688] at hK
  refine W.widen (k := 81) (n := 129970) (by decide +kernel) (by decide +kernel) ?_
  refine newRowM 81 (n := 12) (N' := 12) (k := 133) (index := 266) (atype := .int) (ty := .int) hx hb hts iX12_init_in12 hown hin hK hP hD hS hA hl dX12_init_693 (fun h => lv_bipush (v := 12) hx hb dX12_init_694 (by decide) h) (hts (.arrayClass .int) (by decide +kernel)) rfl rfl (fun _ => rfl) (by decide +kernel) (by decide +kernel) (by decide +kernel) (by decide +kernel) (by decide +kernel) dX12_init_696 (by decide) (hts (.fieldLink RX12 266 "OptimaWorksModel" "ruleA" "[I") (by decide +kernel)) rfl rfl (by decide +kernel) dX12_init_698 (fun q696 k696 H locs hK hP hD hS => ?_)
  obtain ⟨v696, ev696⟩ : ∃ w, w = mUp v688 133 (.ref q696) := ⟨_, rfl⟩
  obtain ⟨a696, ea696⟩ : ∃ w, w = upF a688 81 q696 := ⟨_, rfl⟩
  obtain ⟨f696, ef696⟩ : ∃ w, w = upF f688 81 k696 := ⟨_, rfl⟩
  rw [← ev696, ← ea696, ← ef696] at hP hD
  rw [← ef696] at hK
  refine W.widen (k := 82) (n := 129982) (by decide +kernel) (by decide +kernel) ?_
  refine newRowM 82 (n := 12) (N' := 12) (k := 134) (index := 269) (atype := .int) (ty := .int) hx hb hts iX12_init_in12 hown hin hK hP hD hS hA hl dX12_init_701 (fun h => lv_bipush (v := 12) hx hb dX12_init_702 (by decide) h) (hts (.arrayClass .int) (by decide +kernel)) rfl rfl (fun _ => rfl) (by decide +kernel) (by decide +kernel) (by decide +kernel) (by decide +kernel) (by decide +kernel) dX12_init_704 (by decide) (hts (.fieldLink RX12 269 "OptimaWorksModel" "ruleB" "[I") (by decide +kernel)) rfl rfl (by decide +kernel) dX12_init_706 (fun q704 k704 H locs hK hP hD hS => ?_)
  obtain ⟨v704, ev704⟩ : ∃ w, w = mUp v696 134 (.ref q704) := ⟨_, rfl⟩
  obtain ⟨a704, ea704⟩ : ∃ w, w = upF a696 82 q704 := ⟨_, rfl⟩
  obtain ⟨f704, ef704⟩ : ∃ w, w = upF f696 82 k704 := ⟨_, rfl⟩
  rw [← ev704, ← ea704, ← ef704] at hP hD
  rw [← ef704] at hK
  refine W.widen (k := 83) (n := 129994) (by decide +kernel) (by decide +kernel) ?_
  refine newRowM 83 (n := 12) (N' := 12) (k := 135) (index := 272) (atype := .int) (ty := .int) hx hb hts iX12_init_in12 hown hin hK hP hD hS hA hl dX12_init_709 (fun h => lv_bipush (v := 12) hx hb dX12_init_710 (by decide) h) (hts (.arrayClass .int) (by decide +kernel)) rfl rfl (fun _ => rfl) (by decide +kernel) (by decide +kernel) (by decide +kernel) (by decide +kernel) (by decide +kernel) dX12_init_712 (by decide) (hts (.fieldLink RX12 272 "OptimaWorksModel" "ruleC" "[I") (by decide +kernel)) rfl rfl (by decide +kernel) dX12_init_714 (fun q712 k712 H locs hK hP hD hS => ?_)
  obtain ⟨v712, ev712⟩ : ∃ w, w = mUp v704 135 (.ref q712) := ⟨_, rfl⟩
  obtain ⟨a712, ea712⟩ : ∃ w, w = upF a704 83 q712 := ⟨_, rfl⟩
  obtain ⟨f712, ef712⟩ : ∃ w, w = upF f704 83 k712 := ⟨_, rfl⟩
  rw [← ev712, ← ea712, ← ef712] at hP hD
  rw [← ef712] at hK
  refine W.widen (k := 84) (n := 130006) (by decide +kernel) (by decide +kernel) ?_
  refine newRowM 84 (n := 192) (N' := 192) (k := 136) (index := 275) (atype := .int) (ty := .int) hx hb hts iX12_init_in12 hown hin hK hP hD hS hA hl dX12_init_717 (fun h => lv_sipush (v := 192) hx hb dX12_init_718 (by decide) h) (hts (.arrayClass .int) (by decide +kernel)) rfl rfl (fun _ => rfl) (by decide +kernel) (by decide +kernel) (by decide +kernel) (by decide +kernel) (by decide +kernel) dX12_init_721 (by decide) (hts (.fieldLink RX12 275 "OptimaWorksModel" "rulePairs" "[I") (by decide +kernel)) rfl rfl (by decide +kernel) dX12_init_723 (fun q721 k721 H locs hK hP hD hS => ?_)
  obtain ⟨v721, ev721⟩ : ∃ w, w = mUp v712 136 (.ref q721) := ⟨_, rfl⟩
  obtain ⟨a721, ea721⟩ : ∃ w, w = upF a712 84 q721 := ⟨_, rfl⟩
  obtain ⟨f721, ef721⟩ : ∃ w, w = upF f712 84 k721 := ⟨_, rfl⟩
  rw [← ev721, ← ea721, ← ef721] at hP hD
  rw [← ef721] at hK
  refine W.widen (k := 85) (n := 130198) (by decide +kernel) (by decide +kernel) ?_
  refine newRowM 85 (n := 16) (N' := 16) (k := 137) (index := 278) (atype := .int) (ty := .int) hx hb hts iX12_init_in12 hown hin hK hP hD hS hA hl dX12_init_726 (fun h => lv_bipush (v := 16) hx hb dX12_init_727 (by decide) h) (hts (.arrayClass .int) (by decide +kernel)) rfl rfl (fun _ => rfl) (by decide +kernel) (by decide +kernel) (by decide +kernel) (by decide +kernel) (by decide +kernel) dX12_init_729 (by decide) (hts (.fieldLink RX12 278 "OptimaWorksModel" "pairs" "[I") (by decide +kernel)) rfl rfl (by decide +kernel) dX12_init_731 (fun q729 k729 H locs hK hP hD hS => ?_)
  obtain ⟨v729, ev729⟩ : ∃ w, w = mUp v721 137 (.ref q729) := ⟨_, rfl⟩
  obtain ⟨a729, ea729⟩ : ∃ w, w = upF a721 85 q729 := ⟨_, rfl⟩
  obtain ⟨f729, ef729⟩ : ∃ w, w = upF f721 85 k729 := ⟨_, rfl⟩
  rw [← ev729, ← ea729, ← ef729] at hP hD
  rw [← ef729] at hK
  refine W.widen (k := 86) (n := 130214) (by decide +kernel) (by decide +kernel) ?_
  refine newRowM 86 (n := 10) (N' := 10) (k := 139) (index := 281) (atype := .int) (ty := .int) hx hb hts iX12_init_in12 hown hin hK hP hD hS hA hl dX12_init_734 (fun h => lv_bipush (v := 10) hx hb dX12_init_735 (by decide) h) (hts (.arrayClass .int) (by decide +kernel)) rfl rfl (fun _ => rfl) (by decide +kernel) (by decide +kernel) (by decide +kernel) (by decide +kernel) (by decide +kernel) dX12_init_737 (by decide) (hts (.fieldLink RX12 281 "OptimaWorksModel" "with" "[I") (by decide +kernel)) rfl rfl (by decide +kernel) dX12_init_739 (fun q737 k737 H locs hK hP hD hS => ?_)
  obtain ⟨v737, ev737⟩ : ∃ w, w = mUp v729 139 (.ref q737) := ⟨_, rfl⟩
  obtain ⟨a737, ea737⟩ : ∃ w, w = upF a729 86 q737 := ⟨_, rfl⟩
  obtain ⟨f737, ef737⟩ : ∃ w, w = upF f729 86 k737 := ⟨_, rfl⟩
  rw [← ev737, ← ea737, ← ef737] at hP hD
  rw [← ef737] at hK
  refine W.widen (k := 87) (n := 130224) (by decide +kernel) (by decide +kernel) ?_
  refine newRowM 87 (n := 16) (N' := 16) (k := 140) (index := 284) (atype := .int) (ty := .int) hx hb hts iX12_init_in12 hown hin hK hP hD hS hA hl dX12_init_742 (fun h => lv_bipush (v := 16) hx hb dX12_init_743 (by decide) h) (hts (.arrayClass .int) (by decide +kernel)) rfl rfl (fun _ => rfl) (by decide +kernel) (by decide +kernel) (by decide +kernel) (by decide +kernel) (by decide +kernel) dX12_init_745 (by decide) (hts (.fieldLink RX12 284 "OptimaWorksModel" "taker" "[I") (by decide +kernel)) rfl rfl (by decide +kernel) dX12_init_747 (fun q745 k745 H locs hK hP hD hS => ?_)
  obtain ⟨v745, ev745⟩ : ∃ w, w = mUp v737 140 (.ref q745) := ⟨_, rfl⟩
  obtain ⟨a745, ea745⟩ : ∃ w, w = upF a737 87 q745 := ⟨_, rfl⟩
  obtain ⟨f745, ef745⟩ : ∃ w, w = upF f737 87 k745 := ⟨_, rfl⟩
  rw [← ev745, ← ea745, ← ef745] at hP hD
  rw [← ef745] at hK
  refine W.widen (k := 88) (n := 130240) (by decide +kernel) (by decide +kernel) ?_
  refine newRowM 88 (n := 16) (N' := 16) (k := 141) (index := 287) (atype := .int) (ty := .int) hx hb hts iX12_init_in12 hown hin hK hP hD hS hA hl dX12_init_750 (fun h => lv_bipush (v := 16) hx hb dX12_init_751 (by decide) h) (hts (.arrayClass .int) (by decide +kernel)) rfl rfl (fun _ => rfl) (by decide +kernel) (by decide +kernel) (by decide +kernel) (by decide +kernel) (by decide +kernel) dX12_init_753 (by decide) (hts (.fieldLink RX12 287 "OptimaWorksModel" "came" "[I") (by decide +kernel)) rfl rfl (by decide +kernel) dX12_init_755 (fun q753 k753 H locs hK hP hD hS => ?_)
  obtain ⟨v753, ev753⟩ : ∃ w, w = mUp v745 141 (.ref q753) := ⟨_, rfl⟩
  obtain ⟨a753, ea753⟩ : ∃ w, w = upF a745 88 q753 := ⟨_, rfl⟩
  obtain ⟨f753, ef753⟩ : ∃ w, w = upF f745 88 k753 := ⟨_, rfl⟩
  rw [← ev753, ← ea753, ← ef753] at hP hD
  rw [← ef753] at hK
  refine W.widen (k := 89) (n := 130256) (by decide +kernel) (by decide +kernel) ?_
  refine newRowM 89 (n := 17) (N' := 17) (k := 142) (index := 290) (atype := .int) (ty := .int) hx hb hts iX12_init_in12 hown hin hK hP hD hS hA hl dX12_init_758 (fun h => lv_bipush (v := 17) hx hb dX12_init_759 (by decide) h) (hts (.arrayClass .int) (by decide +kernel)) rfl rfl (fun _ => rfl) (by decide +kernel) (by decide +kernel) (by decide +kernel) (by decide +kernel) (by decide +kernel) dX12_init_761 (by decide) (hts (.fieldLink RX12 290 "OptimaWorksModel" "looked" "[I") (by decide +kernel)) rfl rfl (by decide +kernel) dX12_init_763 (fun q761 k761 H locs hK hP hD hS => ?_)
  obtain ⟨v761, ev761⟩ : ∃ w, w = mUp v753 142 (.ref q761) := ⟨_, rfl⟩
  obtain ⟨a761, ea761⟩ : ∃ w, w = upF a753 89 q761 := ⟨_, rfl⟩
  obtain ⟨f761, ef761⟩ : ∃ w, w = upF f753 89 k761 := ⟨_, rfl⟩
  rw [← ev761, ← ea761, ← ef761] at hP hD
  rw [← ef761] at hK
  refine W.widen (k := 90) (n := 130273) (by decide +kernel) (by decide +kernel) ?_
  refine newRowM 90 (n := 10) (N' := 10) (k := 143) (index := 293) (atype := .int) (ty := .int) hx hb hts iX12_init_in12 hown hin hK hP hD hS hA hl dX12_init_766 (fun h => lv_bipush (v := 10) hx hb dX12_init_767 (by decide) h) (hts (.arrayClass .int) (by decide +kernel)) rfl rfl (fun _ => rfl) (by decide +kernel) (by decide +kernel) (by decide +kernel) (by decide +kernel) (by decide +kernel) dX12_init_769 (by decide) (hts (.fieldLink RX12 293 "OptimaWorksModel" "rowValue" "[I") (by decide +kernel)) rfl rfl (by decide +kernel) dX12_init_771 (fun q769 k769 H locs hK hP hD hS => ?_)
  obtain ⟨v769, ev769⟩ : ∃ w, w = mUp v761 143 (.ref q769) := ⟨_, rfl⟩
  obtain ⟨a769, ea769⟩ : ∃ w, w = upF a761 90 q769 := ⟨_, rfl⟩
  obtain ⟨f769, ef769⟩ : ∃ w, w = upF f761 90 k769 := ⟨_, rfl⟩
  rw [← ev769, ← ea769, ← ef769] at hP hD
  rw [← ef769] at hK
  refine W.widen (k := 91) (n := 130283) (by decide +kernel) (by decide +kernel) ?_
  refine newRowM 91 (n := 50000) (N' := 50000) (k := 144) (index := 297) (atype := .int) (ty := .int) hx hb hts iX12_init_in12 hown hin hK hP hD hS hA hl dX12_init_774 (fun h => lv_ldcw (v := 50000) hx hb hown (hts (.constant RX12 296 50000) (by decide +kernel)) dX12_init_775 h) (hts (.arrayClass .int) (by decide +kernel)) rfl rfl (fun _ => rfl) (by decide +kernel) (by decide +kernel) (by decide +kernel) (by decide +kernel) (by decide +kernel) dX12_init_778 (by decide) (hts (.fieldLink RX12 297 "OptimaWorksModel" "listedRow" "[I") (by decide +kernel)) rfl rfl (by decide +kernel) dX12_init_780 (fun q778 k778 H locs hK hP hD hS => ?_)
  obtain ⟨v778, ev778⟩ : ∃ w, w = mUp v769 144 (.ref q778) := ⟨_, rfl⟩
  obtain ⟨a778, ea778⟩ : ∃ w, w = upF a769 91 q778 := ⟨_, rfl⟩
  obtain ⟨f778, ef778⟩ : ∃ w, w = upF f769 91 k778 := ⟨_, rfl⟩
  rw [← ev778, ← ea778, ← ef778] at hP hD
  rw [← ef778] at hK
  refine W.widen (k := 92) (n := 180283) (by decide +kernel) (by decide +kernel) ?_
  refine newIntM (n := (-1)) (k := 145) (index := 300) hx hb hts iX12_init_in12 hown hK hP hD hS hl dX12_init_783 (fun h => lv_iconst (v := (-1)) hx hb dX12_init_784 (by decide) h) (by decide) (hts (.fieldLink RX12 300 "OptimaWorksModel" "listedMany" "I") (by decide +kernel)) rfl rfl (by decide +kernel) dX12_init_785 (fun H locs hP hD hS => ?_)
  obtain ⟨v785, ev785⟩ : ∃ w, w = mUp v778 145 (.int (-1)) := ⟨_, rfl⟩
  rw [← ev785] at hP hD
  refine newRowM 92 (n := 24) (N' := 24) (k := 147) (index := 303) (atype := .int) (ty := .int) hx hb hts iX12_init_in12 hown hin hK hP hD hS hA hl dX12_init_788 (fun h => lv_bipush (v := 24) hx hb dX12_init_789 (by decide) h) (hts (.arrayClass .int) (by decide +kernel)) rfl rfl (fun _ => rfl) (by decide +kernel) (by decide +kernel) (by decide +kernel) (by decide +kernel) (by decide +kernel) dX12_init_791 (by decide) (hts (.fieldLink RX12 303 "OptimaWorksModel" "wants" "[I") (by decide +kernel)) rfl rfl (by decide +kernel) dX12_init_793 (fun q791 k791 H locs hK hP hD hS => ?_)
  obtain ⟨v791, ev791⟩ : ∃ w, w = mUp v785 147 (.ref q791) := ⟨_, rfl⟩
  obtain ⟨a791, ea791⟩ : ∃ w, w = upF a778 92 q791 := ⟨_, rfl⟩
  obtain ⟨f791, ef791⟩ : ∃ w, w = upF f778 92 k791 := ⟨_, rfl⟩
  rw [← ev791, ← ea791, ← ef791] at hP hD
  rw [← ef791] at hK
  refine W.widen (k := 93) (n := 180307) (by decide +kernel) (by decide +kernel) ?_
  refine newRowM 93 (n := 24) (N' := 24) (k := 148) (index := 306) (atype := .int) (ty := .int) hx hb hts iX12_init_in12 hown hin hK hP hD hS hA hl dX12_init_796 (fun h => lv_bipush (v := 24) hx hb dX12_init_797 (by decide) h) (hts (.arrayClass .int) (by decide +kernel)) rfl rfl (fun _ => rfl) (by decide +kernel) (by decide +kernel) (by decide +kernel) (by decide +kernel) (by decide +kernel) dX12_init_799 (by decide) (hts (.fieldLink RX12 306 "OptimaWorksModel" "wantsNot" "[I") (by decide +kernel)) rfl rfl (by decide +kernel) dX12_init_801 (fun q799 k799 H locs hK hP hD hS => ?_)
  obtain ⟨v799, ev799⟩ : ∃ w, w = mUp v791 148 (.ref q799) := ⟨_, rfl⟩
  obtain ⟨a799, ea799⟩ : ∃ w, w = upF a791 93 q799 := ⟨_, rfl⟩
  obtain ⟨f799, ef799⟩ : ∃ w, w = upF f791 93 k799 := ⟨_, rfl⟩
  rw [← ev799, ← ea799, ← ef799] at hP hD
  rw [← ef799] at hK
  refine W.widen (k := 94) (n := 180331) (by decide +kernel) (by decide +kernel) ?_
  refine newRowM 94 (n := 24) (N' := 24) (k := 149) (index := 309) (atype := .int) (ty := .int) hx hb hts iX12_init_in12 hown hin hK hP hD hS hA hl dX12_init_804 (fun h => lv_bipush (v := 24) hx hb dX12_init_805 (by decide) h) (hts (.arrayClass .int) (by decide +kernel)) rfl rfl (fun _ => rfl) (by decide +kernel) (by decide +kernel) (by decide +kernel) (by decide +kernel) (by decide +kernel) dX12_init_807 (by decide) (hts (.fieldLink RX12 309 "OptimaWorksModel" "weights" "[I") (by decide +kernel)) rfl rfl (by decide +kernel) dX12_init_809 (fun q807 k807 H locs hK hP hD hS => ?_)
  obtain ⟨v807, ev807⟩ : ∃ w, w = mUp v799 149 (.ref q807) := ⟨_, rfl⟩
  obtain ⟨a807, ea807⟩ : ∃ w, w = upF a799 94 q807 := ⟨_, rfl⟩
  obtain ⟨f807, ef807⟩ : ∃ w, w = upF f799 94 k807 := ⟨_, rfl⟩
  rw [← ev807, ← ea807, ← ef807] at hP hD
  rw [← ef807] at hK
  refine W.widen (k := 95) (n := 180355) (by decide +kernel) (by decide +kernel) ?_
  refine newRowM 95 (n := 40) (N' := 40) (k := 151) (index := 312) (atype := .int) (ty := .int) hx hb hts iX12_init_in12 hown hin hK hP hD hS hA hl dX12_init_812 (fun h => lv_bipush (v := 40) hx hb dX12_init_813 (by decide) h) (hts (.arrayClass .int) (by decide +kernel)) rfl rfl (fun _ => rfl) (by decide +kernel) (by decide +kernel) (by decide +kernel) (by decide +kernel) (by decide +kernel) dX12_init_815 (by decide) (hts (.fieldLink RX12 312 "OptimaWorksModel" "arcFrom" "[I") (by decide +kernel)) rfl rfl (by decide +kernel) dX12_init_817 (fun q815 k815 H locs hK hP hD hS => ?_)
  obtain ⟨v815, ev815⟩ : ∃ w, w = mUp v807 151 (.ref q815) := ⟨_, rfl⟩
  obtain ⟨a815, ea815⟩ : ∃ w, w = upF a807 95 q815 := ⟨_, rfl⟩
  obtain ⟨f815, ef815⟩ : ∃ w, w = upF f807 95 k815 := ⟨_, rfl⟩
  rw [← ev815, ← ea815, ← ef815] at hP hD
  rw [← ef815] at hK
  refine W.widen (k := 96) (n := 180395) (by decide +kernel) (by decide +kernel) ?_
  refine newRowM 96 (n := 40) (N' := 40) (k := 152) (index := 315) (atype := .int) (ty := .int) hx hb hts iX12_init_in12 hown hin hK hP hD hS hA hl dX12_init_820 (fun h => lv_bipush (v := 40) hx hb dX12_init_821 (by decide) h) (hts (.arrayClass .int) (by decide +kernel)) rfl rfl (fun _ => rfl) (by decide +kernel) (by decide +kernel) (by decide +kernel) (by decide +kernel) (by decide +kernel) dX12_init_823 (by decide) (hts (.fieldLink RX12 315 "OptimaWorksModel" "arcTo" "[I") (by decide +kernel)) rfl rfl (by decide +kernel) dX12_init_825 (fun q823 k823 H locs hK hP hD hS => ?_)
  obtain ⟨v823, ev823⟩ : ∃ w, w = mUp v815 152 (.ref q823) := ⟨_, rfl⟩
  obtain ⟨a823, ea823⟩ : ∃ w, w = upF a815 96 q823 := ⟨_, rfl⟩
  obtain ⟨f823, ef823⟩ : ∃ w, w = upF f815 96 k823 := ⟨_, rfl⟩
  rw [← ev823, ← ea823, ← ef823] at hP hD
  rw [← ef823] at hK
  refine W.widen (k := 97) (n := 180435) (by decide +kernel) (by decide +kernel) ?_
  refine newRowM 97 (n := 40) (N' := 40) (k := 153) (index := 318) (atype := .int) (ty := .int) hx hb hts iX12_init_in12 hown hin hK hP hD hS hA hl dX12_init_828 (fun h => lv_bipush (v := 40) hx hb dX12_init_829 (by decide) h) (hts (.arrayClass .int) (by decide +kernel)) rfl rfl (fun _ => rfl) (by decide +kernel) (by decide +kernel) (by decide +kernel) (by decide +kernel) (by decide +kernel) dX12_init_831 (by decide) (hts (.fieldLink RX12 318 "OptimaWorksModel" "arcRoom" "[I") (by decide +kernel)) rfl rfl (by decide +kernel) dX12_init_833 (fun q831 k831 H locs hK hP hD hS => ?_)
  obtain ⟨v831, ev831⟩ : ∃ w, w = mUp v823 153 (.ref q831) := ⟨_, rfl⟩
  obtain ⟨a831, ea831⟩ : ∃ w, w = upF a823 97 q831 := ⟨_, rfl⟩
  obtain ⟨f831, ef831⟩ : ∃ w, w = upF f823 97 k831 := ⟨_, rfl⟩
  rw [← ev831, ← ea831, ← ef831] at hP hD
  rw [← ef831] at hK
  refine W.widen (k := 98) (n := 180475) (by decide +kernel) (by decide +kernel) ?_
  refine newRowM 98 (n := 40) (N' := 40) (k := 154) (index := 321) (atype := .int) (ty := .int) hx hb hts iX12_init_in12 hown hin hK hP hD hS hA hl dX12_init_836 (fun h => lv_bipush (v := 40) hx hb dX12_init_837 (by decide) h) (hts (.arrayClass .int) (by decide +kernel)) rfl rfl (fun _ => rfl) (by decide +kernel) (by decide +kernel) (by decide +kernel) (by decide +kernel) (by decide +kernel) dX12_init_839 (by decide) (hts (.fieldLink RX12 321 "OptimaWorksModel" "arcCost" "[I") (by decide +kernel)) rfl rfl (by decide +kernel) dX12_init_841 (fun q839 k839 H locs hK hP hD hS => ?_)
  obtain ⟨v839, ev839⟩ : ∃ w, w = mUp v831 154 (.ref q839) := ⟨_, rfl⟩
  obtain ⟨a839, ea839⟩ : ∃ w, w = upF a831 98 q839 := ⟨_, rfl⟩
  obtain ⟨f839, ef839⟩ : ∃ w, w = upF f831 98 k839 := ⟨_, rfl⟩
  rw [← ev839, ← ea839, ← ef839] at hP hD
  rw [← ef839] at hK
  refine W.widen (k := 99) (n := 180515) (by decide +kernel) (by decide +kernel) ?_
  refine newRowM 99 (n := 40) (N' := 40) (k := 155) (index := 324) (atype := .int) (ty := .int) hx hb hts iX12_init_in12 hown hin hK hP hD hS hA hl dX12_init_844 (fun h => lv_bipush (v := 40) hx hb dX12_init_845 (by decide) h) (hts (.arrayClass .int) (by decide +kernel)) rfl rfl (fun _ => rfl) (by decide +kernel) (by decide +kernel) (by decide +kernel) (by decide +kernel) (by decide +kernel) dX12_init_847 (by decide) (hts (.fieldLink RX12 324 "OptimaWorksModel" "flow" "[I") (by decide +kernel)) rfl rfl (by decide +kernel) dX12_init_849 (fun q847 k847 H locs hK hP hD hS => ?_)
  obtain ⟨v847, ev847⟩ : ∃ w, w = mUp v839 155 (.ref q847) := ⟨_, rfl⟩
  obtain ⟨a847, ea847⟩ : ∃ w, w = upF a839 99 q847 := ⟨_, rfl⟩
  obtain ⟨f847, ef847⟩ : ∃ w, w = upF f839 99 k847 := ⟨_, rfl⟩
  rw [← ev847, ← ea847, ← ef847] at hP hD
  rw [← ef847] at hK
  refine W.widen (k := 100) (n := 180555) (by decide +kernel) (by decide +kernel) ?_
  refine newRowM 100 (n := 12) (N' := 12) (k := 156) (index := 327) (atype := .int) (ty := .int) hx hb hts iX12_init_in12 hown hin hK hP hD hS hA hl dX12_init_852 (fun h => lv_bipush (v := 12) hx hb dX12_init_853 (by decide) h) (hts (.arrayClass .int) (by decide +kernel)) rfl rfl (fun _ => rfl) (by decide +kernel) (by decide +kernel) (by decide +kernel) (by decide +kernel) (by decide +kernel) dX12_init_855 (by decide) (hts (.fieldLink RX12 327 "OptimaWorksModel" "price" "[I") (by decide +kernel)) rfl rfl (by decide +kernel) dX12_init_857 (fun q855 k855 H locs hK hP hD hS => ?_)
  obtain ⟨v855, ev855⟩ : ∃ w, w = mUp v847 156 (.ref q855) := ⟨_, rfl⟩
  obtain ⟨a855, ea855⟩ : ∃ w, w = upF a847 100 q855 := ⟨_, rfl⟩
  obtain ⟨f855, ef855⟩ : ∃ w, w = upF f847 100 k855 := ⟨_, rfl⟩
  rw [← ev855, ← ea855, ← ef855] at hP hD
  rw [← ef855] at hK
  refine W.widen (k := 101) (n := 180567) (by decide +kernel) (by decide +kernel) ?_
  refine newRowM 101 (n := 12) (N' := 12) (k := 157) (index := 330) (atype := .int) (ty := .int) hx hb hts iX12_init_in12 hown hin hK hP hD hS hA hl dX12_init_860 (fun h => lv_bipush (v := 12) hx hb dX12_init_861 (by decide) h) (hts (.arrayClass .int) (by decide +kernel)) rfl rfl (fun _ => rfl) (by decide +kernel) (by decide +kernel) (by decide +kernel) (by decide +kernel) (by decide +kernel) dX12_init_863 (by decide) (hts (.fieldLink RX12 330 "OptimaWorksModel" "by" "[I") (by decide +kernel)) rfl rfl (by decide +kernel) dX12_init_865 (fun q863 k863 H locs hK hP hD hS => ?_)
  obtain ⟨v863, ev863⟩ : ∃ w, w = mUp v855 157 (.ref q863) := ⟨_, rfl⟩
  obtain ⟨a863, ea863⟩ : ∃ w, w = upF a855 101 q863 := ⟨_, rfl⟩
  obtain ⟨f863, ef863⟩ : ∃ w, w = upF f855 101 k863 := ⟨_, rfl⟩
  rw [← ev863, ← ea863, ← ef863] at hP hD
  rw [← ef863] at hK
  refine W.widen (k := 102) (n := 180579) (by decide +kernel) (by decide +kernel) ?_
  refine newRowM 102 (n := 12) (N' := 12) (k := 158) (index := 333) (atype := .int) (ty := .int) hx hb hts iX12_init_in12 hown hin hK hP hD hS hA hl dX12_init_868 (fun h => lv_bipush (v := 12) hx hb dX12_init_869 (by decide) h) (hts (.arrayClass .int) (by decide +kernel)) rfl rfl (fun _ => rfl) (by decide +kernel) (by decide +kernel) (by decide +kernel) (by decide +kernel) (by decide +kernel) dX12_init_871 (by decide) (hts (.fieldLink RX12 333 "OptimaWorksModel" "far" "[I") (by decide +kernel)) rfl rfl (by decide +kernel) dX12_init_873 (fun q871 k871 H locs hK hP hD hS => ?_)
  obtain ⟨v871, ev871⟩ : ∃ w, w = mUp v863 158 (.ref q871) := ⟨_, rfl⟩
  obtain ⟨a871, ea871⟩ : ∃ w, w = upF a863 102 q871 := ⟨_, rfl⟩
  obtain ⟨f871, ef871⟩ : ∃ w, w = upF f863 102 k871 := ⟨_, rfl⟩
  rw [← ev871, ← ea871, ← ef871] at hP hD
  rw [← ef871] at hK
  refine W.widen (k := 103) (n := 180591) (by decide +kernel) (by decide +kernel) ?_
  refine newRowM 103 (n := 12) (N' := 12) (k := 159) (index := 336) (atype := .int) (ty := .int) hx hb hts iX12_init_in12 hown hin hK hP hD hS hA hl dX12_init_876 (fun h => lv_bipush (v := 12) hx hb dX12_init_877 (by decide) h) (hts (.arrayClass .int) (by decide +kernel)) rfl rfl (fun _ => rfl) (by decide +kernel) (by decide +kernel) (by decide +kernel) (by decide +kernel) (by decide +kernel) dX12_init_879 (by decide) (hts (.fieldLink RX12 336 "OptimaWorksModel" "joined" "[I") (by decide +kernel)) rfl rfl (by decide +kernel) dX12_init_881 (fun q879 k879 H locs hK hP hD hS => ?_)
  obtain ⟨v879, ev879⟩ : ∃ w, w = mUp v871 159 (.ref q879) := ⟨_, rfl⟩
  obtain ⟨a879, ea879⟩ : ∃ w, w = upF a871 103 q879 := ⟨_, rfl⟩
  obtain ⟨f879, ef879⟩ : ∃ w, w = upF f871 103 k879 := ⟨_, rfl⟩
  rw [← ev879, ← ea879, ← ef879] at hP hD
  rw [← ef879] at hK
  refine W.widen (k := 104) (n := 180603) (by decide +kernel) (by decide +kernel) ?_
  refine newRowM 104 (n := 8) (N' := 8) (k := 160) (index := 339) (atype := .int) (ty := .int) hx hb hts iX12_init_in12 hown hin hK hP hD hS hA hl dX12_init_884 (fun h => lv_bipush (v := 8) hx hb dX12_init_885 (by decide) h) (hts (.arrayClass .int) (by decide +kernel)) rfl rfl (fun _ => rfl) (by decide +kernel) (by decide +kernel) (by decide +kernel) (by decide +kernel) (by decide +kernel) dX12_init_887 (by decide) (hts (.fieldLink RX12 339 "OptimaWorksModel" "member1" "[I") (by decide +kernel)) rfl rfl (by decide +kernel) dX12_init_889 (fun q887 k887 H locs hK hP hD hS => ?_)
  obtain ⟨v887, ev887⟩ : ∃ w, w = mUp v879 160 (.ref q887) := ⟨_, rfl⟩
  obtain ⟨a887, ea887⟩ : ∃ w, w = upF a879 104 q887 := ⟨_, rfl⟩
  obtain ⟨f887, ef887⟩ : ∃ w, w = upF f879 104 k887 := ⟨_, rfl⟩
  rw [← ev887, ← ea887, ← ef887] at hP hD
  rw [← ef887] at hK
  refine W.widen (k := 105) (n := 180611) (by decide +kernel) (by decide +kernel) ?_
  refine newRowM 105 (n := 8) (N' := 8) (k := 161) (index := 342) (atype := .int) (ty := .int) hx hb hts iX12_init_in12 hown hin hK hP hD hS hA hl dX12_init_892 (fun h => lv_bipush (v := 8) hx hb dX12_init_893 (by decide) h) (hts (.arrayClass .int) (by decide +kernel)) rfl rfl (fun _ => rfl) (by decide +kernel) (by decide +kernel) (by decide +kernel) (by decide +kernel) (by decide +kernel) dX12_init_895 (by decide) (hts (.fieldLink RX12 342 "OptimaWorksModel" "order" "[I") (by decide +kernel)) rfl rfl (by decide +kernel) dX12_init_897 (fun q895 k895 H locs hK hP hD hS => ?_)
  obtain ⟨v895, ev895⟩ : ∃ w, w = mUp v887 161 (.ref q895) := ⟨_, rfl⟩
  obtain ⟨a895, ea895⟩ : ∃ w, w = upF a887 105 q895 := ⟨_, rfl⟩
  obtain ⟨f895, ef895⟩ : ∃ w, w = upF f887 105 k895 := ⟨_, rfl⟩
  rw [← ev895, ← ea895, ← ef895] at hP hD
  rw [← ef895] at hK
  refine W.widen (k := 106) (n := 180619) (by decide +kernel) (by decide +kernel) ?_
  refine newRowM 106 (n := 8) (N' := 8) (k := 162) (index := 345) (atype := .int) (ty := .int) hx hb hts iX12_init_in12 hown hin hK hP hD hS hA hl dX12_init_900 (fun h => lv_bipush (v := 8) hx hb dX12_init_901 (by decide) h) (hts (.arrayClass .int) (by decide +kernel)) rfl rfl (fun _ => rfl) (by decide +kernel) (by decide +kernel) (by decide +kernel) (by decide +kernel) (by decide +kernel) dX12_init_903 (by decide) (hts (.fieldLink RX12 345 "OptimaWorksModel" "tourBest" "[I") (by decide +kernel)) rfl rfl (by decide +kernel) dX12_init_905 (fun q903 k903 H locs hK hP hD hS => ?_)
  obtain ⟨v903, ev903⟩ : ∃ w, w = mUp v895 162 (.ref q903) := ⟨_, rfl⟩
  obtain ⟨a903, ea903⟩ : ∃ w, w = upF a895 106 q903 := ⟨_, rfl⟩
  obtain ⟨f903, ef903⟩ : ∃ w, w = upF f895 106 k903 := ⟨_, rfl⟩
  rw [← ev903, ← ea903, ← ef903] at hP hD
  rw [← ef903] at hK
  refine W.widen (k := 107) (n := 180627) (by decide +kernel) (by decide +kernel) ?_
  have e1 : fM v903 = LM a903 := by rw [ev903, ev895, ev887, ev879, ev871, ev863, ev855, ev847, ev839, ev831, ev823, ev815, ev807, ev799, ev791, ev785, ev778, ev769, ev761, ev753, ev745, ev737, ev729, ev721, ev712, ev704, ev696, ev688, ev680, ev672, ev664, ev656, ev647, ev638, ev630, ev622, ev614, ev606, ev598, ev590, ev582, ev573, ev564, ev557, ev549, ev541, ev533, ev525, ev516, ev508, ev500, ev492, ev484, ev475, ev466, ev457, ev448, ev440, ev431, ev422, ev414, ev406, ev398, ev390, ev382, ev374, ev366, ev358, ev350, ev342, ev333, ev324, ev315, ev306, ev297, ev288, ev279, ev270, ev261, ev252, ev244, ev236, ev228, ev220, ev212, ev203, ev194, ev186, ev178, ev170, ev162, ev154, ev148, ev141, ev133, ev125, ev117, ev109, ev101, ev95, ev90, ev83, ev74, ev65, ev56, ev48, ev40, ev32, ev24, ev16, ev8, ea903, ea895, ea887, ea879, ea871, ea863, ea855, ea847, ea839, ea831, ea823, ea815, ea807, ea799, ea791, ea778, ea769, ea761, ea753, ea745, ea737, ea729, ea721, ea712, ea704, ea696, ea688, ea680, ea672, ea664, ea656, ea647, ea638, ea630, ea622, ea614, ea606, ea598, ea590, ea582, ea573, ea564, ea557, ea549, ea541, ea533, ea525, ea516, ea508, ea500, ea492, ea484, ea475, ea466, ea457, ea448, ea440, ea431, ea422, ea414, ea406, ea398, ea390, ea382, ea374, ea366, ea358, ea350, ea342, ea333, ea324, ea315, ea306, ea297, ea288, ea279, ea270, ea261, ea252, ea244, ea236, ea228, ea220, ea212, ea203, ea194, ea186, ea178, ea170, ea162, ea154, ea141, ea133, ea125, ea117, ea109, ea101, ea83, ea74, ea65, ea56, ea48, ea40, ea32, ea24, ea16, ea8]; exact eM1 _ _ _ _ _ _ _ _ _ _ _ _ _ _ _ _ _ _ _ _ _ _ _ _ _ _ _ _ _ _ _ _ _ _ _ _ _ _ _ _ _ _ _ _ _ _ _ _ _ _ _ _ _ _ _ _ _ _ _ _ _ _ _ _ _ _ _ _ _ _ _ _ _ _ _ _ _ _ _ _ _ _ _ _ _ _ _ _ _ _ _ _ _ _ _ _ _ _ _ _ _ _ _ _ _ _ _
  rw [e1, LM_eq] at hP hD
  exact W.vret hx hb hr (fun t ht hW => ⟨⟨(a903, f903), rfl, trivial, by rw [ht]; exact hP, va_K.moved hW.alike hK, hD⟩, hS.F ht⟩) hS.2.2 dX12_init_908
